theorem by_loop {X : Nat × (Nat → Int32)} {d : Nat} {G : zG} {m s a N : Nat} (hs : s < 4) (ha : a ≤ 40) (hN : N ≤ 4) (x2 x3 : Int32) :
    ∀ (j k : Nat) (n : Nat) (I J : zI) (acc : Int32), k + j = N → Rel n m G I J → I 51 s = zi a → J 66 s = zi a → (∀ i, i < a → I (46 + s) i = J 67 (40 * s + i)) → (k = 0 ∨ ∃ A : Nat, A ≤ 40 ∧ x3 = zi A) →
    ∃ (n' : Nat) (w : Int32) (I1 J1 : zI), (∀ v7 : Value, v7.category = 1 → Ev X (d + 3) 125 61 [.ref 0, .int (zi s), .int x2, .int x3, .int (zi N), .int acc, .int (zi k), v7] [] G I (some (.int w), G, I1)) ∧ (∀ v7 v8 : Value, v7.category = 1 → v8.category = 1 → Ev X (d + 3) 212 63 [.ref 57, .int (zi s), .int x2, .int x3, .int (zi N), .int acc, .int (zi k), v7, v8] [] G J (some (.int w), G, J1)) ∧ Rel n' m G I1 J1 ∧ (∀ c, 9 ≤ c → I1 c = I c) ∧ (∀ c, c ≠ 57 → ¬ (58 ≤ c ∧ c ≤ 60) → J1 c = J c) := by
  intro j
  induction j with
  | zero =>
    intro k n I J acc hk R h1 h2 h3 h4
    have hS := R.S
    obtain rfl : k = N := by omega
    exact ⟨n, acc, I, J, fun v7 c7 => wp_T_showersBy_61 _ _ _ _ _ _ v7 c7 hS ⟨fun _ => rfl, fun h => absurd (Int32.le_refl _) h⟩, fun v7 v8 c7 c8 => wp_Z_showersBy_63 _ _ _ _ _ _ v7 c7 v8 c8 hS ⟨fun _ => rfl, fun h => absurd (Int32.le_refl _) h⟩, R, fun _ _ => rfl, fun _ _ _ => rfl⟩
  | succ j ih =>
    intro k n I J acc hk R h1 h2 h3 h4
    have hS := R.S
    have nx : ¬ zi N ≤ zi k := fun h => absurd ((zi_le (by omega) (by omega)).1 h) (by omega)
    have e3k : (3 : Int32) * zi k = zi (3 * k) := zi_mul (a := 3)
    have st := st_sim (X := X) (d := d + 1) hS (s := s) (a := a) hs ha h1 (x3 + zi (3 * k)) 3
    have key : (Stx a (x3 + zi (3 * k)) 3 ↔ (¬ x3 < 0 ∧ ¬ x3 + zi (3 * k) < x3 ∧ x3 + zi (3 * k) ≤ zi a - 3)) ∧ (Stx a (x3 + zi (3 * k)) 3 → ∃ A K : Nat, A ≤ 40 ∧ x3 = zi A ∧ x3 + zi (3 * k) = zi K ∧ K + 3 ≤ a) := by
      have za : (zi a - 3).toInt = (a : Int) - 3 := by rw [z_sub (by rw [zi_int (by omega)]; show _ ≤ (a : Int) - 3; omega) (by rw [zi_int (by omega)]; show (a : Int) - 3 < _; omega), zi_int (by omega)]; rfl
      rcases h4 with rfl | ⟨A, hA, rfl⟩
      · have e0 : x3 + zi (3 * 0) = x3 := Int32.add_zero _
        rw [e0]
        have A1 : Stx a x3 3 → ∃ K : Nat, x3 = zi K ∧ K + 3 ≤ a := fun ⟨N, K, e1, e2, e3⟩ => ⟨K, e2, by
          have := (zi_eq (a := 3) (b := N) (by omega) (by
            rcases Nat.lt_or_ge N 2147483648 with h | h
            · exact h
            · omega)).1 e1
          omega⟩
        refine ⟨⟨fun h => ?_, fun ⟨p1, p2, p3⟩ => ?_⟩, fun h => ?_⟩
        · obtain ⟨K, rfl, hK⟩ := A1 h
          refine ⟨fun e => absurd ((zi_lt (b := 0) (by omega) (by omega)).1 e) (by omega), fun e => Int32.lt_irrefl e, z_lq.2 ?_⟩
          rw [za, zi_int (by omega)]; omega
        · have q1 := z_lq.1 (Int32.not_lt.1 p1)
          have q1 : 0 ≤ x3.toInt := q1
          have q3 := z_lq.1 p3
          rw [za] at q3
          have t : x3.toNatClampNeg = x3.toInt.toNat := rfl
          exact ⟨3, x3.toNatClampNeg, rfl, zi_of q1, by omega⟩
        · obtain ⟨K, rfl, hK⟩ := A1 h
          exact ⟨K, K, by omega, rfl, rfl, hK⟩
      · rw [zi_add]
        refine ⟨⟨fun ⟨N, K, e1, e2, e3⟩ => ?_, fun ⟨p1, p2, p3⟩ => ?_⟩, fun ⟨N, K, e1, e2, e3⟩ => ?_⟩
        · have n3 : N = 3 := ((zi_eq (a := 3) (b := N) (by omega) (by omega)).1 e1).symm
          have k3 := (zi_eq (a := A + 3 * k) (b := K) (by omega) (by omega)).1 e2
          refine ⟨fun e => absurd ((zi_lt (b := 0) (by omega) (by omega)).1 e) (by omega), fun e => absurd ((zi_lt (by omega) (by omega)).1 e) (by omega), z_lq.2 ?_⟩
          rw [za, zi_int (by omega)]; omega
        · have q3 := z_lq.1 p3
          rw [za, zi_int (by omega)] at q3
          exact ⟨3, A + 3 * k, rfl, rfl, by omega⟩
        · have n3 : N = 3 := ((zi_eq (a := 3) (b := N) (by omega) (by omega)).1 e1).symm
          exact ⟨A, K, hA, rfl, e2, by omega⟩
    rcases st with ⟨t1, c1⟩ | ⟨t1, c1⟩
    · obtain ⟨A, K, hA, eA, eK, hK⟩ := key.2 t1
      obtain ⟨p1, p2, p3⟩ := key.1.1 t1
      obtain ⟨n2, v, I2, J2, f1, f2, f3, f4, f5⟩ := shower_sim (X := X) (d := d) R (J 67 (40 * s + K)) (J 67 (40 * s + K + 1)) (J 67 (40 * s + K + 2))
      have hI := h3 K (by omega)
      have hI1 := h3 (K + 1) (by omega)
      have hI2 := h3 (K + 2) (by omega)
      have g1 : I2 51 s = zi a := by rw [f4 51 (by omega)]; exact h1
      have g2 : J2 66 s = zi a := by rw [f5 66 (by omega) (by omega)]; exact h2
      have g3 : ∀ i, i < a → I2 (46 + s) i = J2 67 (40 * s + i) := fun i hi => by rw [f4 (46 + s) (by omega), f5 67 (by omega) (by omega)]; exact h3 i hi
      have eK1 : zi K + 1 = zi (K + 1) := zi1 K
      have eK2 : zi K + 2 = zi (K + 2) := zi_add (b := 2)
      have eC1 : zi (40 * s + K) + 1 = zi (40 * s + K + 1) := zi1 _
      have eC2 : zi (40 * s + K) + 2 = zi (40 * s + K + 2) := zi_add (b := 2)
      by_cases hv : v < 0
      · obtain ⟨n', w, I9, J9, q1, q2, q3, q4, q5⟩ := ih (k + 1) n2 I2 J2 (acc) (by omega) f3 g1 g2 g3 (Or.inr ⟨A, hA, eA⟩)
        refine ⟨n', w, I9, J9, fun v7 c7 => wp_T_showersBy_61 _ _ _ _ _ _ v7 c7 hS ?_, fun v7 v8 c7 c8 => wp_Z_showersBy_63 _ _ _ _ _ _ v7 c7 v8 c8 hS ?_, q3, fun c h => (q4 c h).trans (f4 c h), fun c a b => (q5 c a b).trans (f5 c a b)⟩
        · rw [e3k]
          refine ⟨fun h => absurd h nx, fun _ y2 h2 => ?_⟩
          rw [eK] at h2 c1
          subst h2
          rw [eK1, eK2, zi_nat (show s < _ by omega), zi_nat (show K < _ by omega), zi_nat (show K + 1 < _ by omega), zi_nat (show K + 2 < _ by omega)]
          refine ⟨1, I, c1, fun _ => ⟨zi_inr (by omega) (by omega), zi_inr (by omega) (by omega), zi_inr (by omega) (by omega), zi_inr (by omega) (by omega), zi_inr (by omega) (by omega), zi_inr (by omega) (by omega), v, I2, by rw [hI, hI1, hI2]; exact f1, fun _ y hy => ?_, fun h => absurd hv h⟩, fun h => absurd h (by decide)⟩
          rw [hy, zi1 k]; exact q1 _ rfl
        · rw [e3k, zi_nat (show s < _ by omega), h2]
          refine ⟨fun h => absurd h nx, fun _ y2 h2 => ?_⟩
          rw [eK] at h2 p2 p3
          subst h2
          refine ⟨fun h => absurd h p1, fun _ => ⟨fun h => absurd h p2, fun _ => ⟨zi_inr (by omega) (by omega), fun _ y7 h7 => ?_, fun h => absurd p3 h⟩⟩⟩
          rw [z40] at h7
          subst h7
          rw [eC1, eC2, zi_nat (show 40 * s + K < _ by omega), zi_nat (show 40 * s + K + 1 < _ by omega), zi_nat (show 40 * s + K + 2 < _ by omega)]
          refine ⟨zi_inr (by omega) (by omega), zi_inr (by omega) (by omega), zi_inr (by omega) (by omega), v, J2, f2, fun _ y hy y9 hy9 => ?_, fun h => absurd hv h⟩
          rw [hy9, hy, zi1 k, Int32.add_zero]; exact q2 _ _ rfl rfl
      · obtain ⟨n', w, I9, J9, q1, q2, q3, q4, q5⟩ := ih (k + 1) n2 I2 J2 (acc + 1) (by omega) f3 g1 g2 g3 (Or.inr ⟨A, hA, eA⟩)
        refine ⟨n', w, I9, J9, fun v7 c7 => wp_T_showersBy_61 _ _ _ _ _ _ v7 c7 hS ?_, fun v7 v8 c7 c8 => wp_Z_showersBy_63 _ _ _ _ _ _ v7 c7 v8 c8 hS ?_, q3, fun c h => (q4 c h).trans (f4 c h), fun c a b => (q5 c a b).trans (f5 c a b)⟩
        · rw [e3k]
          refine ⟨fun h => absurd h nx, fun _ y2 h2 => ?_⟩
          rw [eK] at h2 c1
          subst h2
          rw [eK1, eK2, zi_nat (show s < _ by omega), zi_nat (show K < _ by omega), zi_nat (show K + 1 < _ by omega), zi_nat (show K + 2 < _ by omega)]
          refine ⟨1, I, c1, fun _ => ⟨zi_inr (by omega) (by omega), zi_inr (by omega) (by omega), zi_inr (by omega) (by omega), zi_inr (by omega) (by omega), zi_inr (by omega) (by omega), zi_inr (by omega) (by omega), v, I2, by rw [hI, hI1, hI2]; exact f1, fun h => absurd h hv, fun _ y20 h20 y hy => ?_⟩, fun h => absurd h (by decide)⟩
          rw [hy, zi1 k, h20]; exact q1 _ rfl
        · rw [e3k, zi_nat (show s < _ by omega), h2]
          refine ⟨fun h => absurd h nx, fun _ y2 h2 => ?_⟩
          rw [eK] at h2 p2 p3
          subst h2
          refine ⟨fun h => absurd h p1, fun _ => ⟨fun h => absurd h p2, fun _ => ⟨zi_inr (by omega) (by omega), fun _ y7 h7 => ?_, fun h => absurd p3 h⟩⟩⟩
          rw [z40] at h7
          subst h7
          rw [eC1, eC2, zi_nat (show 40 * s + K < _ by omega), zi_nat (show 40 * s + K + 1 < _ by omega), zi_nat (show 40 * s + K + 2 < _ by omega)]
          refine ⟨zi_inr (by omega) (by omega), zi_inr (by omega) (by omega), zi_inr (by omega) (by omega), v, J2, f2, fun h => absurd h hv, fun _ y hy y9 hy9 => ?_⟩
          rw [hy9, hy, zi1 k]; exact q2 _ _ rfl rfl
    · refine ⟨n, -12, I, J, fun v7 c7 => wp_T_showersBy_61 _ _ _ _ _ _ v7 c7 hS ⟨fun h => absurd h nx, fun _ y2 g2 => ?_⟩, fun v7 v8 c7 c8 => wp_Z_showersBy_63 _ _ _ _ _ _ v7 c7 v8 c8 hS ⟨fun h => absurd h nx, fun _ y2 g2 => ?_⟩, R, fun _ _ => rfl, fun _ _ _ => rfl⟩
      · rw [e3k] at g2
        subst g2
        exact ⟨0, I, c1, fun h => absurd rfl h, fun _ => rfl⟩
      · rw [e3k] at g2
        subst g2
        rw [zi_nat (show s < _ by omega)]
        by_cases p1 : x3 < 0
        · exact ⟨fun _ => rfl, fun h => absurd p1 h⟩
        by_cases p2 : x3 + zi (3 * k) < x3
        · exact ⟨fun h => absurd h p1, fun _ => ⟨fun _ => rfl, fun h => absurd p2 h⟩⟩
        · refine ⟨fun h => absurd h p1, fun _ => ⟨fun h => absurd h p2, fun _ => ⟨zi_inr (by omega) (by omega), fun p3 => absurd (key.1.2 ⟨p1, p2, ?_⟩) t1, fun _ => rfl⟩⟩⟩
          rw [h2] at p3; exact p3
theorem q_showersBy (x1 x2 x3 x4 : Int32) : CallOK 125 212 [.int x1, .int x2, .int x3, .int x4] := by
  intro X n m G I J R
  have hS := R.S
  have hn := R.H.le
  by_cases h1 : f_T_isSheet x1 = 0
  · exact ⟨n, m, G, _, I, J, Cv.of hq_125 (z_le rfl) rfl (wp_T_showersBy _ _ _ _ (by omega) hS ⟨fun _ => rfl, fun h => absurd h1 h⟩), Cv.of hq_212 (z_le rfl) rfl (wp_Z_showersBy _ _ _ _ hS ⟨fun _ => rfl, fun h => absurd h1 h⟩), R, fun _ _ _ => rfl, fun _ _ => rfl⟩
  by_cases h2 : f_T_within x2 0 2 = 0
  · exact ⟨n, m, G, _, I, J, Cv.of hq_125 (z_le rfl) rfl (wp_T_showersBy _ _ _ _ (by omega) hS ⟨fun h => absurd h h1, fun _ => ⟨fun _ => rfl, fun h => absurd h2 h⟩⟩), Cv.of hq_212 (z_le rfl) rfl (wp_Z_showersBy _ _ _ _ hS ⟨fun h => absurd h h1, fun _ => ⟨fun _ => rfl, fun h => absurd h2 h⟩⟩), R, fun _ _ _ => rfl, fun _ _ => rfl⟩
  by_cases h4 : f_T_within x4 0 4 = 0
  · exact ⟨n, m, G, _, I, J, Cv.of hq_125 (z_le rfl) rfl (wp_T_showersBy _ _ _ _ (by omega) hS ⟨fun h => absurd h h1, fun _ => ⟨fun h => absurd h h2, fun _ => ⟨fun h => absurd h4 h, fun _ => rfl⟩⟩⟩), Cv.of hq_212 (z_le rfl) rfl (wp_Z_showersBy _ _ _ _ hS ⟨fun h => absurd h h1, fun _ => ⟨fun h => absurd h h2, fun _ => ⟨fun h => absurd h4 h, fun _ => rfl⟩⟩⟩), R, fun _ _ _ => rfl, fun _ _ => rfl⟩
  obtain ⟨s, -, hs4, rfl⟩ := wi_spec (a := 0) (b := 3) (by omega) (by omega) h1
  obtain ⟨N, -, hN, rfl⟩ := wi_spec (a := 0) (b := 4) (by omega) (by omega) h4
  obtain ⟨a1, a2⟩ := R.s s (by omega)
  by_cases hz1 : J 65 s = -1
  · have ht1 : I 50 s = -1 := a1.trans hz1
    exact ⟨n, m, G, .int (-11), I, J, Cv.of hq_125 (z_le rfl) rfl (wp_T_showersBy _ _ _ _ (by omega) hS (by rw [zi_nat (show s < _ by omega)]; exact ⟨fun h => absurd h h1, fun _ => ⟨fun h => absurd h h2, fun _ => ⟨fun _ => ⟨zi_inr (by omega) (by omega), ⟨fun h => absurd ht1 h, fun _ => rfl⟩⟩, fun h => absurd h h4⟩⟩⟩)), Cv.of hq_212 (z_le rfl) rfl (wp_Z_showersBy _ _ _ _ hS (by rw [zi_nat (show s < _ by omega)]; exact ⟨fun h => absurd h h1, fun _ => ⟨fun h => absurd h h2, fun _ => ⟨fun _ => ⟨zi_inr (by omega) (by omega), ⟨fun h => absurd hz1 h, fun _ => rfl⟩⟩, fun h => absurd h h4⟩⟩⟩)), R, fun _ _ _ => rfl, fun _ _ => rfl⟩
  have ht1 : ¬ I 50 s = -1 := by rw [a1]; exact hz1
  by_cases hz2 : J 65 s = x2
  case neg =>
    have ht2 : ¬ I 50 s = x2 := by rw [a1]; exact hz2
    exact ⟨n, m, G, .int (-13), I, J, Cv.of hq_125 (z_le rfl) rfl (wp_T_showersBy _ _ _ _ (by omega) hS (by rw [zi_nat (show s < _ by omega)]; exact ⟨fun h => absurd h h1, fun _ => ⟨fun h => absurd h h2, fun _ => ⟨fun _ => ⟨zi_inr (by omega) (by omega), ⟨fun _ => ⟨zi_inr (by omega) (by omega), ⟨fun h => absurd h ht2, fun _ => rfl⟩⟩, fun h => absurd h ht1⟩⟩, fun h => absurd h h4⟩⟩⟩)), Cv.of hq_212 (z_le rfl) rfl (wp_Z_showersBy _ _ _ _ hS (by rw [zi_nat (show s < _ by omega)]; exact ⟨fun h => absurd h h1, fun _ => ⟨fun h => absurd h h2, fun _ => ⟨fun _ => ⟨zi_inr (by omega) (by omega), ⟨fun _ => ⟨zi_inr (by omega) (by omega), ⟨fun h => absurd h hz2, fun _ => rfl⟩⟩, fun h => absurd h hz1⟩⟩, fun h => absurd h h4⟩⟩⟩)), R, fun _ _ _ => rfl, fun _ _ => rfl⟩
  have ht2 : I 50 s = x2 := a1.trans hz2
  obtain ⟨q, a, b1, b2, b3, b4, b5, b6⟩ := a2.resolve_left hz1
  obtain ⟨n', w, I1, J1, q1, q2, q3, q4, q5⟩ := by_loop (X := X) (d := 97) (s := s) (a := a) (N := N) (by omega) b3 hN x2 x3 N 0 n I J 0 (by omega) R b4 b5 b6 (Or.inl rfl)
  exact ⟨n', m, G, .int w, I1, J1, Cv.of hq_125 (z_le rfl) rfl (wp_T_showersBy _ _ _ _ (by omega) hS (by rw [zi_nat (show s < _ by omega)]; exact ⟨fun h => absurd h h1, fun _ => ⟨fun h => absurd h h2, fun _ => ⟨fun _ => ⟨zi_inr (by omega) (by omega), ⟨fun _ => ⟨zi_inr (by omega) (by omega), ⟨fun _ => (q1 _ rfl), fun h => absurd ht2 h⟩⟩, fun h => absurd h ht1⟩⟩, fun h => absurd h h4⟩⟩⟩)), Cv.of hq_212 (z_le rfl) rfl (wp_Z_showersBy _ _ _ _ hS (by rw [zi_nat (show s < _ by omega)]; exact ⟨fun h => absurd h h1, fun _ => ⟨fun h => absurd h h2, fun _ => ⟨fun _ => ⟨zi_inr (by omega) (by omega), ⟨fun _ => ⟨zi_inr (by omega) (by omega), ⟨fun _ => (q2 _ _ rfl rfl), fun h => absurd hz2 h⟩⟩, fun h => absurd h hz1⟩⟩, fun h => absurd h h4⟩⟩⟩)), q3, fun c h1 h2 => q4 c (by omega), fun c h => q5 c (by omega) (by omega)⟩
/-- a kind is, step by step upwards, one -/
def iok (w : Int32) : Nat → Int32 → Int32
  | 0, _ => 0
  | s + 1, k => if k < 0 then 0 else if 6 ≤ k then 0 else if k = w then 1 else iok w s (zKA k.toNatClampNeg)
theorem iok_loop {X : Nat × (Nat → Int32)} {d : Nat} {G : zG} {I : zI} (x0 w : Int32) : ∀ (s j : Nat) (k : Int32), j + s = 6 → Ev X d 127 4 [.int x0, .int w, .int k, .int (zi j)] [] G I (some (.int (iok w s k)), G, I) := by
  intro s
  induction s with
  | zero =>
    intro j k hj
    obtain rfl : j = 6 := by omega
    exact wp_T_isOfKind_4 _ _ _ _ ⟨fun _ => rfl, fun h => absurd (by decide) h⟩
  | succ s ih =>
    intro j k hj
    have nx : ¬ (6 : Int32) ≤ zi j := fun h => absurd ((zi_le (a := 6) (by omega) (by omega)).1 h) (by omega)
    refine wp_T_isOfKind_4 _ _ _ _ ⟨fun h => absurd h nx, fun _ => ⟨fun h => ?_, fun h => ⟨fun h2 => ?_, fun h2 => ⟨fun h3 => ⟨?_, fun y6 h6 y7 h7 => ?_⟩, fun h3 => ?_⟩⟩⟩⟩
    · rw [iok, if_pos h]
    · rw [iok, if_neg h, if_pos h2]
    · have q1 := z_lq.1 (Int32.not_lt.1 h)
      have q2 := z_lt.1 (Int32.not_le.1 h2)
      have q1 : 0 ≤ k.toInt := q1
      have q2 : k.toInt < 6 := q2
      have t : k.toNatClampNeg = k.toInt.toNat := rfl
      exact ⟨Int32.not_lt.1 h, by omega⟩
    · rw [h6, h7, iok, if_neg h, if_neg h2, if_neg h3, zi1 j]; exact ih (j + 1) _ (by omega)
    · rw [iok, if_neg h, if_neg h2, if_pos h3]
theorem iok_ok : ∀ k, k < 6 → ∀ w, w < 7 → (w = 6 → iok (zi w) 6 (zi k) = 0) ∧ (w < 6 → iok (zi w) 6 (zi k) = f_Z_isUnder (zi k) (zi w)) := by decide
theorem q_taken (x1 x2 : Int32) : Quiet 126 213 [.int x1, .int x2] := by
  intro X n m G I J R
  have hS := R.S
  have hn := R.H.le
  by_cases h2 : f_T_within x2 0 6 = 0
  · exact ⟨_, I, J, Cv.of hq_126 (z_le rfl) rfl (wp_T_taken _ _ (by omega) hS ⟨fun h => absurd h2 h, fun _ => rfl⟩), Cv.of hq_213 (z_le rfl) rfl (wp_Z_taken _ _ hS ⟨fun h => absurd h2 h, fun _ => rfl⟩), FC.rf, FZ.rf⟩
  by_cases h1 : f_T_within x1 0 7 = 0
  · exact ⟨_, I, J, Cv.of hq_126 (z_le rfl) rfl (wp_T_taken _ _ (by omega) hS ⟨fun _ => ⟨fun h => absurd h1 h, fun _ => rfl⟩, fun h => absurd h h2⟩), Cv.of hq_213 (z_le rfl) rfl (wp_Z_taken _ _ hS ⟨fun _ => ⟨fun h => absurd h1 h, fun _ => rfl⟩, fun h => absurd h h2⟩), FC.rf, FZ.rf⟩
  obtain ⟨i, -, hi, rfl⟩ := wi_spec (a := 0) (b := 7) (by omega) (by omega) h1
  obtain ⟨w, -, hw, rfl⟩ := wi_spec (a := 0) (b := 6) (by omega) (by omega) h2
  have em : zi i - zi i / 4 * 4 = zi (i % 4) := zi_rem (d := 4) (by omega) (by omega) (by omega)
  obtain ⟨x, hx⟩ : ∃ x : Nat, x = i % 4 := ⟨_, rfl⟩
  have cT : ∀ P : Prop, P → P := fun _ h => h
  by_cases hn1 : x < n
  case neg =>
    have nT : f_T_isShower I (zi x) = 0 := by
      by_cases e : f_T_isShower I (zi x) = 0
      · exact e
      · obtain ⟨y, hy, ey⟩ := R.shx e
        have := (zi_eq (by omega) (by omega)).1 ey
        omega
    have nZ : ¬ zi (i % 4) < J 57 0 := by rw [R.H.cj]; exact fun h => hn1 (by have := (zi_lt (by omega) (by omega)).1 h; omega)
    refine ⟨.int (-11), I, J, Cv.of hq_126 (z_le rfl) rfl (wp_T_taken _ _ (by omega) hS ?_), Cv.of hq_213 (z_le rfl) rfl (wp_Z_taken _ _ hS ?_), FC.rf, FZ.rf⟩
    · refine ⟨fun _ => ⟨fun _ y3 h3 => ?_, fun h => absurd h h1⟩, fun h => absurd h h2⟩
      rw [em, ← hx] at h3
      subst h3
      exact ⟨fun _ => ⟨fun _ => rfl, fun h => absurd nT h⟩, fun _ => ⟨fun _ => rfl, fun h => absurd nT h⟩⟩
    · rw [em]
      exact ⟨fun _ => ⟨fun _ => ⟨fun h => absurd h nZ, fun _ => rfl⟩, fun h => absurd h h1⟩, fun h => absurd h h2⟩
  have hX := R.H.at' x hn1
  have yT : ¬ f_T_isShower I (zi x) = 0 := by
    unfold f_T_isShower
    rw [R.H.ci, show zi n - 1 = zi (n - 1) from zi_sub (b := 1) (by omega)]
    have := wi_yes (k := x) (a := 0) (b := n - 1) (by omega) (by omega) (by omega)
    rw [show f_T_within (zi x) 0 (zi (n - 1)) = 1 from this]
    decide
  have yZ : zi (i % 4) < J 57 0 := by rw [R.H.cj]; exact (zi_lt (by omega) (by omega)).2 (by omega)
  by_cases h4 : i < 4
  · have l4 : zi i < 4 := (zi_lt (b := 4) (by omega) (by omega)).2 h4
    have l4' : ¬ (4 : Int32) ≤ zi i := Int32.not_le.2 l4
    obtain rfl : x = i := by omega
    obtain ⟨kd, hk, ek⟩ : ∃ kd : Nat, kd < 6 ∧ J 58 x = zi kd := by
      obtain ⟨c, h1, h2⟩ := rg_nat (k := 5) hX.rk
      exact ⟨c, by omega, h2⟩
    have ck : Cv X 99 127 [.int (J 58 x), .int (zi w)] G I (some (.int (iok (zi w) 6 (zi kd))), G, I) := by
      rw [ek]
      exact Cv.of hq_127 (z_le rfl) rfl (wp_T_isOfKind _ _ (iok_loop _ _ 6 0 _ (by omega)))
    obtain ⟨o1, o2⟩ := iok_ok kd hk w (by omega)
    have ct : ∀ v : Int32, (iok (zi w) 6 (zi kd) = 0 → v = -13) → (¬ iok (zi w) 6 (zi kd) = 0 → v = zi x) → Cv X 100 126 [.ref 0, .int (zi x), .int (zi w)] G I (some (.int v), G, I) := fun v g1 g2 => by
      refine Cv.of hq_126 (z_le rfl) rfl (wp_T_taken _ _ (by omega) hS ?_)
      refine ⟨fun _ => ⟨fun _ y3 h3 => ?_, fun h => absurd h h1⟩, fun h => absurd h h2⟩
      rw [em, ← hx] at h3
      subst h3
      rw [zi_nat (show x < _ by omega), show I 2 x = _ from hX.kind]
      exact ⟨fun _ => ⟨fun h => absurd h yT, fun _ => ⟨zi_inr (by omega) (by omega), _, I, ck, fun e => by rw [g1 e], fun e => by rw [g2 e]⟩⟩, fun h => absurd l4 h⟩
    by_cases h6 : (6 : Int32) ≤ zi w
    · have w6 : w = 6 := by have := (zi_le (a := 6) (by omega) (by omega)).1 h6; omega
      refine ⟨.int (-13), I, J, ct _ (fun _ => rfl) (fun e => absurd (o1 w6) e), Cv.of hq_213 (z_le rfl) rfl (wp_Z_taken _ _ hS ?_), FC.rf, FZ.rf⟩
      rw [em]
      exact ⟨fun _ => ⟨fun _ => ⟨fun _ => ⟨fun h => absurd h l4', fun _ => ⟨fun _ => rfl, fun h => absurd h6 h⟩⟩, fun h => absurd yZ h⟩, fun h => absurd h h1⟩, fun h => absurd h h2⟩
    · have w6 : w < 6 := by
        rcases Nat.lt_or_ge w 6 with h | h
        · exact h
        · exact absurd ((zi_le (a := 6) (by omega) (by omega)).2 h) h6
      have o3 := o2 w6
      by_cases hu : f_Z_isUnder (J 58 x) (zi w) = 0
      · refine ⟨.int (-13), I, J, ct _ (fun _ => rfl) (fun e => absurd (by rw [o3, ← ek]; exact hu) e), Cv.of hq_213 (z_le rfl) rfl (wp_Z_taken _ _ hS ?_), FC.rf, FZ.rf⟩
        rw [em, zi_nat (show x < _ by omega)]
        exact ⟨fun _ => ⟨fun _ => ⟨fun _ => ⟨fun h => absurd h l4', fun _ => ⟨fun h => absurd h h6, fun _ => ⟨zi_inr (by omega) (by omega), ⟨fun _ => rfl, fun h => absurd hu h⟩⟩⟩⟩, fun h => absurd yZ h⟩, fun h => absurd h h1⟩, fun h => absurd h h2⟩
      · refine ⟨.int (zi x), I, J, ct _ (fun e => absurd (by rw [ek, ← o3]; exact e) hu) (fun _ => rfl), Cv.of hq_213 (z_le rfl) rfl (wp_Z_taken _ _ hS ?_), FC.rf, FZ.rf⟩
        rw [em, zi_nat (show x < _ by omega)]
        exact ⟨fun _ => ⟨fun _ => ⟨fun _ => ⟨fun h => absurd h l4', fun _ => ⟨fun h => absurd h h6, fun _ => ⟨zi_inr (by omega) (by omega), ⟨fun h => absurd h hu, fun _ => rfl⟩⟩⟩⟩, fun h => absurd yZ h⟩, fun h => absurd h h1⟩, fun h => absurd h h2⟩
  · have l4 : ¬ zi i < 4 := fun h => h4 ((zi_lt (b := 4) (by omega) (by omega)).1 h)
    have l4' : (4 : Int32) ≤ zi i := Int32.not_lt.1 l4
    have e4 : zi i - 4 = zi x := by rw [show zi i - 4 = zi (i - 4) from zi_sub (b := 4) (by omega)]; exact congrArg zi (by omega)
    have cO := c_isOn (X := X) (d := 99) hS (J := J) (x := x) (by omega)
    have ct : ∀ v : Int32, (J 60 (5 * x + 4) = 0 → v = -11) → (¬ J 60 (5 * x + 4) = 0 → zi w = 6 → v = J 60 (5 * x + 2)) → (¬ J 60 (5 * x + 4) = 0 → ¬ zi w = 6 → v = -13) → Cv X 100 126 [.ref 0, .int (zi i), .int (zi w)] G I (some (.int v), G, I) := fun v g1 g2 g3 => by
      refine Cv.of hq_126 (z_le rfl) rfl (wp_T_taken _ _ (by omega) hS ?_)
      refine ⟨fun _ => ⟨fun _ y3 h3 => ?_, fun h => absurd h h1⟩, fun h => absurd h h2⟩
      rw [em, ← hx] at h3
      subst h3
      rw [zi_nat (show x < _ by omega), show I 8 x = _ from hX.on, show I 6 x = _ from hX.set]
      exact ⟨fun h => absurd h l4, fun _ => ⟨fun h => absurd h yT, fun _ => ⟨zi_inr (by omega) (by omega), fun e => ⟨fun e2 => by rw [g3 e e2], fun e2 => ⟨zi_inr (by omega) (by omega), by rw [g2 e e2]⟩⟩, fun e => by rw [g1 e]⟩⟩⟩
    rcases hX.ro with o0 | o1
    · have no1 : ¬ J 60 (5 * x + 4) = 1 := by rw [o0]; decide
      refine ⟨.int (-11), I, J, ct _ (fun _ => rfl) (fun e => absurd o0 e) (fun e => absurd o0 e), Cv.of hq_213 (z_le rfl) rfl (wp_Z_taken _ _ hS ?_), FC.rf, FZ.rf⟩
      rw [em, e4]
      exact ⟨fun _ => ⟨fun _ => ⟨fun _ => ⟨fun _ => ⟨_, J, cO, ⟨fun h => absurd (by rw [if_neg no1]) h, fun _ => rfl⟩⟩, fun h => absurd l4' h⟩, fun h => absurd yZ h⟩, fun h => absurd h h1⟩, fun h => absurd h h2⟩
    · have no0 : ¬ J 60 (5 * x + 4) = 0 := by rw [o1]; decide
      by_cases h6 : zi w = 6
      · refine ⟨.int (J 60 (5 * x + 2)), I, J, ct _ (fun e => absurd e no0) (fun _ _ => rfl) (fun _ e => absurd h6 e), Cv.of hq_213 (z_le rfl) rfl (wp_Z_taken _ _ hS ?_), FC.rf, FZ.rf⟩
        rw [em, e4, show (5 : Int32) * zi x + 2 = zi (5 * x + 2) from z51 x 2, zi_nat (show 5 * x + 2 < _ by omega)]
        exact ⟨fun _ => ⟨fun _ => ⟨fun _ => ⟨fun _ => ⟨_, J, cO, ⟨fun _ => ⟨fun h => absurd h6 h, fun _ => ⟨zi_inr (by omega) (by omega), rfl⟩⟩, fun h => absurd h (by rw [if_pos o1]; decide)⟩⟩, fun h => absurd l4' h⟩, fun h => absurd yZ h⟩, fun h => absurd h h1⟩, fun h => absurd h h2⟩
      · refine ⟨.int (-13), I, J, ct _ (fun e => absurd e no0) (fun _ e => absurd e h6) (fun _ _ => rfl), Cv.of hq_213 (z_le rfl) rfl (wp_Z_taken _ _ hS ?_), FC.rf, FZ.rf⟩
        rw [em, e4]
        exact ⟨fun _ => ⟨fun _ => ⟨fun _ => ⟨fun _ => ⟨_, J, cO, ⟨fun _ => ⟨fun _ => rfl, fun h => absurd h h6⟩, fun h => absurd h (by rw [if_pos o1]; decide)⟩⟩, fun h => absurd l4' h⟩, fun h => absurd yZ h⟩, fun h => absurd h h1⟩, fun h => absurd h h2⟩
