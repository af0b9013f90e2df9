/-- a stretch of n from i on lies in a row of a -/
def Stx (a : Nat) (i n : Int32) : Prop := ∃ N K : Nat, n = zi N ∧ i = zi K ∧ K + N ≤ a
theorem wi_no {v : Int32} {b : Nat} (hb : b < 2147483648) (h : f_T_within v 0 (zi b) = 0) : ¬ ∃ k : Nat, k ≤ b ∧ v = zi k := by
  rintro ⟨k, hk, rfl⟩
  have e := wi_yes (k := k) (a := 0) (b := b) (by omega) hk hb
  have h : f_T_within (zi k) (zi 0) (zi b) = 0 := h
  rw [e] at h
  exact absurd h (by decide)
theorem st_sim {X : Nat × (Nat → Int32)} {d : Nat} {G : zG} (hS : SG G) {I : zI} {s a : Nat} (hs : s < 4) (ha4 : a ≤ 40) (ha : I 51 s = zi a) (i n : Int32) :
    (Stx a i n ∧ Cv X (d + 1) 124 [.ref 0, .int (zi s), .int i, .int n] G I (some (.int 1), G, I)) ∨ (¬ Stx a i n ∧ Cv X (d + 1) 124 [.ref 0, .int (zi s), .int i, .int n] G I (some (.int 0), G, I)) := by
  by_cases h1 : f_T_within n 0 (zi a) = 0
  · refine Or.inr ⟨fun ⟨N, K, e1, e2, e3⟩ => wi_no (by omega) h1 ⟨N, by omega, e1⟩, ?_⟩
    exact Cv.of hq_124 (z_le rfl) rfl (wp_T_isStretch _ _ _ hS ((by rw [zi_nat (show s < _ by omega), ha]; exact ⟨zi_inr (by omega) (by omega), ⟨fun _ => rfl, fun h => absurd h1 h⟩⟩)))
  · obtain ⟨N, -, hN, rfl⟩ := wi_spec (a := 0) (b := a) (by omega) (by omega) h1
    have ea : zi a - zi N = zi (a - N) := zi_sub hN
    by_cases h2 : f_T_within i 0 (zi a - zi N) = 0
    · refine Or.inr ⟨fun ⟨M, K, e1, e2, e3⟩ => ?_, ?_⟩
      · have := (zi_eq (a := N) (b := M) (by omega) (by omega)).1 e1
        rw [ea] at h2
        exact wi_no (by omega) h2 ⟨K, by omega, e2⟩
      · exact Cv.of hq_124 (z_le rfl) rfl (wp_T_isStretch _ _ _ hS ((by rw [zi_nat (show s < _ by omega), ha]; exact ⟨zi_inr (by omega) (by omega), ⟨fun h => absurd h h1, fun _ => ⟨zi_inr (by omega) (by omega), ⟨fun _ => rfl, fun h => absurd h2 h⟩⟩⟩⟩)))
    · refine Or.inl ⟨?_, ?_⟩
      · rw [ea] at h2
        obtain ⟨K, -, hK, rfl⟩ := wi_spec (a := 0) (b := a - N) (by omega) (by omega) h2
        exact ⟨N, K, rfl, rfl, by omega⟩
      · exact Cv.of hq_124 (z_le rfl) rfl (wp_T_isStretch _ _ _ hS ((by rw [zi_nat (show s < _ by omega), ha]; exact ⟨zi_inr (by omega) (by omega), ⟨fun h => absurd h h1, fun _ => ⟨zi_inr (by omega) (by omega), ⟨fun h => absurd h h2, fun _ => rfl⟩⟩⟩⟩)))
theorem cp_loop {X : Nat × (Nat → Int32)} {d : Nat} {G : zG} (hS : SG G) {A B N : Nat} (hA : A + N ≤ 160) (hB : B + N ≤ 160) (x1 x2 x3 x4 : Int32) (J0 : zI) :
    ∀ (j k : Nat) (J : zI), k + j = N → (∀ c, c ≠ 67 → J c = J0 c) → (∀ q, J 67 q = if B ≤ A then (if B ≤ q ∧ q < B + k then J0 67 (A + (q - B)) else J0 67 q) else (if B + (N - k) ≤ q ∧ q < B + N then J0 67 (A + (q - B)) else J0 67 q)) →
    ∃ J1 : zI, (∀ v : Value, v.category = 1 → Ev X d 211 147 [.ref 57, .int x1, .int x2, .int x3, .int x4, .int (zi N), .int (zi A), .int (zi B), .int (zi k), v] [] G J (some (.int (zi N)), G, J1)) ∧ (∀ c, c ≠ 67 → J1 c = J0 c) ∧ ∀ q, J1 67 q = if B ≤ q ∧ q < B + N then J0 67 (A + (q - B)) else J0 67 q := by
  intro j
  induction j with
  | zero =>
    intro k J hk hJ hq
    obtain rfl : k = N := by omega
    refine ⟨J, fun v cv => wp_Z_copy_147 _ _ _ _ _ _ _ _ v cv hS ⟨fun _ => rfl, fun h => absurd (Int32.le_refl _) h⟩, hJ, fun q => ?_⟩
    rw [hq q]
    by_cases e : B ≤ A
    · rw [if_pos e]
    · rw [if_neg e, show B + (k - k) = B by omega]
  | succ j ih =>
    intro k J hk hJ hq
    have nx : ¬ zi N ≤ zi k := fun h => absurd ((zi_le (by omega) (by omega)).1 h) (by omega)
    by_cases e : B ≤ A
    · have eB : zi B ≤ zi A := (zi_le (by omega) (by omega)).2 e
      obtain ⟨J1, k1, k2, k3⟩ := ih (k + 1) (z_up J 67 (B + k) (J0 67 (A + k))) (by omega) (fun c h => (up_cell h).trans (hJ c h)) (fun q => by
        rw [if_pos e]
        by_cases u : q = B + k
        · rw [u, up_same, if_pos (by omega), show A + (B + k - B) = A + k by omega]
        · rw [up_place u, hq q, if_pos e]
          by_cases w : B ≤ q ∧ q < B + k
          · rw [if_pos w, if_pos (by omega)]
          · rw [if_neg w, if_neg (by omega)])
      refine ⟨J1, fun v cv => wp_Z_copy_147 _ _ _ _ _ _ _ _ v cv hS ?_, k2, k3⟩
      have r1 : J 67 (A + k) = J0 67 (A + k) := by rw [hq, if_pos e, if_neg (by omega)]
      rw [zi_add, zi_add, zi_nat (show A + k < _ by omega), zi_nat (show B + k < _ by omega), r1, zi1 k]
      exact ⟨fun h => absurd h nx, fun _ => ⟨fun _ => ⟨zi_inr (by omega) (by omega), ⟨zi_inr (by omega) (by omega), fun I5_ e1 => (by subst e1; exact fun y6_ e2 => (by subst e2; exact (k1 _ rfl)))⟩⟩, fun h => absurd eB h⟩⟩
    · have eB : ¬ zi B ≤ zi A := fun h => e ((zi_le (by omega) (by omega)).1 h)
      obtain ⟨M, hM⟩ : ∃ M : Nat, M = N - 1 - k := ⟨_, rfl⟩
      have eM : zi N - 1 - zi k = zi M := by rw [show zi N - 1 = zi (N - 1) from zi_sub (b := 1) (by omega), zi_sub (by omega), hM]
      obtain ⟨J1, k1, k2, k3⟩ := ih (k + 1) (z_up J 67 (B + M) (J0 67 (A + M))) (by omega) (fun c h => (up_cell h).trans (hJ c h)) (fun q => by
        rw [if_neg e]
        by_cases u : q = B + M
        · rw [u, up_same, if_pos (by omega), show A + (B + M - B) = A + M by omega]
        · rw [up_place u, hq q, if_neg e]
          by_cases w : B + (N - k) ≤ q ∧ q < B + N
          · rw [if_pos w, if_pos (by omega)]
          · rw [if_neg w, if_neg (by omega)])
      refine ⟨J1, fun v cv => wp_Z_copy_147 _ _ _ _ _ _ _ _ v cv hS ?_, k2, k3⟩
      have r1 : J 67 (A + M) = J0 67 (A + M) := by rw [hq, if_neg e, if_neg (by omega)]
      rw [eM]
      refine ⟨fun h => absurd h nx, fun _ => ⟨fun h => absurd h eB, fun _ y7 h7 => ?_⟩⟩
      subst h7
      rw [zi_add, zi_add, zi_nat (show A + M < _ by omega), zi_nat (show B + M < _ by omega), r1, zi1 k]
      exact ⟨zi_inr (by omega) (by omega), zi_inr (by omega) (by omega), fun I10 h10 y11 h11 => by rw [h10, h11]; exact k1 _ rfl⟩
theorem q_copy (x1 x2 x3 x4 x5 : Int32) : CallOK 123 211 [.int x1, .int x2, .int x3, .int x4, .int x5] := by
  intro X n m G I J R
  have hS := R.S
  have hn := R.H.le
  by_cases h1 : f_T_isSheet x1 = 0
  · exact ⟨n, m, G, _, I, J, Cv.of hq_123 (z_le rfl) rfl (wp_T_copy _ _ _ _ _ (by omega) hS ⟨fun _ => rfl, fun h => absurd h1 h⟩), Cv.of hq_211 (z_le rfl) rfl (wp_Z_copy _ _ _ _ _ hS ⟨fun _ => rfl, fun h => absurd h1 h⟩), R, fun _ _ _ => rfl, fun _ _ => rfl⟩
  by_cases h3 : f_T_isSheet x3 = 0
  · exact ⟨n, m, G, _, I, J, Cv.of hq_123 (z_le rfl) rfl (wp_T_copy _ _ _ _ _ (by omega) hS ⟨fun h => absurd h h1, fun _ => ⟨fun h => absurd h3 h, fun _ => rfl⟩⟩), Cv.of hq_211 (z_le rfl) rfl (wp_Z_copy _ _ _ _ _ hS ⟨fun h => absurd h h1, fun _ => ⟨fun h => absurd h3 h, fun _ => rfl⟩⟩), R, fun _ _ _ => rfl, fun _ _ => rfl⟩
  obtain ⟨s, -, hs4, rfl⟩ := wi_spec (a := 0) (b := 3) (by omega) (by omega) h1
  obtain ⟨o, -, ho4, rfl⟩ := wi_spec (a := 0) (b := 3) (by omega) (by omega) h3
  obtain ⟨a1, a2⟩ := R.s s (by omega)
  obtain ⟨d1, d2⟩ := R.s o (by omega)
  by_cases hz1 : J 65 s = -1
  · have ht1 : I 50 s = -1 := a1.trans hz1
    exact ⟨n, m, G, .int (-11), I, J, Cv.of hq_123 (z_le rfl) rfl (wp_T_copy _ _ _ _ _ (by omega) hS (by rw [zi_nat (show s < _ by omega), zi_nat (show o < _ by omega)]; exact ⟨fun h => absurd h h1, fun _ => ⟨fun _ => ⟨zi_inr (by omega) (by omega), ⟨fun _ => rfl, fun h => absurd ht1 h⟩⟩, fun h => absurd h h3⟩⟩)), Cv.of hq_211 (z_le rfl) rfl (wp_Z_copy _ _ _ _ _ hS (by rw [zi_nat (show s < _ by omega), zi_nat (show o < _ by omega)]; exact ⟨fun h => absurd h h1, fun _ => ⟨fun _ => ⟨zi_inr (by omega) (by omega), ⟨fun _ => rfl, fun h => absurd hz1 h⟩⟩, fun h => absurd h h3⟩⟩)), R, fun _ _ _ => rfl, fun _ _ => rfl⟩
  have ht1 : ¬ I 50 s = -1 := by rw [a1]; exact hz1
  by_cases hz3 : J 65 o = -1
  · have ht3 : I 50 o = -1 := d1.trans hz3
    exact ⟨n, m, G, .int (-11), I, J, Cv.of hq_123 (z_le rfl) rfl (wp_T_copy _ _ _ _ _ (by omega) hS (by rw [zi_nat (show s < _ by omega), zi_nat (show o < _ by omega)]; exact ⟨fun h => absurd h h1, fun _ => ⟨fun _ => ⟨zi_inr (by omega) (by omega), ⟨fun h => absurd h ht1, fun _ => ⟨zi_inr (by omega) (by omega), ⟨fun h => absurd ht3 h, fun _ => rfl⟩⟩⟩⟩, fun h => absurd h h3⟩⟩)), Cv.of hq_211 (z_le rfl) rfl (wp_Z_copy _ _ _ _ _ hS (by rw [zi_nat (show s < _ by omega), zi_nat (show o < _ by omega)]; exact ⟨fun h => absurd h h1, fun _ => ⟨fun _ => ⟨zi_inr (by omega) (by omega), ⟨fun h => absurd h hz1, fun _ => ⟨zi_inr (by omega) (by omega), ⟨fun h => absurd hz3 h, fun _ => rfl⟩⟩⟩⟩, fun h => absurd h h3⟩⟩)), R, fun _ _ _ => rfl, fun _ _ => rfl⟩
  have ht3 : ¬ I 50 o = -1 := by rw [d1]; exact hz3
  by_cases hze : J 65 s = J 65 o
  case neg =>
    have hte : ¬ I 50 s = I 50 o := by rw [a1, d1]; exact hze
    exact ⟨n, m, G, .int (-13), I, J, Cv.of hq_123 (z_le rfl) rfl (wp_T_copy _ _ _ _ _ (by omega) hS (by rw [zi_nat (show s < _ by omega), zi_nat (show o < _ by omega)]; exact ⟨fun h => absurd h h1, fun _ => ⟨fun _ => ⟨zi_inr (by omega) (by omega), ⟨fun h => absurd h ht1, fun _ => ⟨zi_inr (by omega) (by omega), ⟨fun _ => ⟨zi_inr (by omega) (by omega), ⟨zi_inr (by omega) (by omega), ⟨fun h => absurd h hte, fun _ => rfl⟩⟩⟩, fun h => absurd h ht3⟩⟩⟩⟩, fun h => absurd h h3⟩⟩)), Cv.of hq_211 (z_le rfl) rfl (wp_Z_copy _ _ _ _ _ hS (by rw [zi_nat (show s < _ by omega), zi_nat (show o < _ by omega)]; exact ⟨fun h => absurd h h1, fun _ => ⟨fun _ => ⟨zi_inr (by omega) (by omega), ⟨fun h => absurd h hz1, fun _ => ⟨zi_inr (by omega) (by omega), ⟨fun _ => ⟨zi_inr (by omega) (by omega), ⟨zi_inr (by omega) (by omega), ⟨fun h => absurd h hze, fun _ => rfl⟩⟩⟩, fun h => absurd h hz3⟩⟩⟩⟩, fun h => absurd h h3⟩⟩)), R, fun _ _ _ => rfl, fun _ _ => rfl⟩
  have hte : I 50 s = I 50 o := by rw [a1, d1]; exact hze
  obtain ⟨q, a, b1, b2, b3, b4, b5, b6⟩ := a2.resolve_left hz1
  obtain ⟨q', b, e1, e2, e3, e4, e5, e6⟩ := d2.resolve_left hz3
  have s1 := st_sim (X := X) (d := 98) hS (s := s) (a := a) (by omega) b3 b4 x2 x5
  have s2 := st_sim (X := X) (d := 98) hS (s := o) (a := b) (by omega) e3 e4 x4 x5
  by_cases hP : Stx a x2 x5 ∧ Stx b x4 x5
  · have c1 := (s1.resolve_right (fun h => h.1 hP.1)).2
    have c2 := (s2.resolve_right (fun h => h.1 hP.2)).2
    obtain ⟨⟨N, K, rfl, rfl, p1⟩, ⟨N', L, p2, rfl, p3⟩⟩ := hP
    obtain rfl : N = N' := (zi_eq (by omega) (by omega)).1 p2
    have z1 : ¬ zi N < 0 := fun h => absurd ((zi_lt (b := 0) (by omega) (by omega)).1 h) (by omega)
    have z2 : ¬ zi K < 0 := fun h => absurd ((zi_lt (b := 0) (by omega) (by omega)).1 h) (by omega)
    have z3 : ¬ zi L < 0 := fun h => absurd ((zi_lt (b := 0) (by omega) (by omega)).1 h) (by omega)
    have z4 : ¬ J 66 s < zi K := by rw [b5]; exact fun h => absurd ((zi_lt (by omega) (by omega)).1 h) (by omega)
    have z5 : ¬ J 66 o < zi L := by rw [e5]; exact fun h => absurd ((zi_lt (by omega) (by omega)).1 h) (by omega)
    have z6 : ¬ J 66 s - zi K < zi N := by rw [b5, zi_sub (by omega)]; exact fun h => absurd ((zi_lt (by omega) (by omega)).1 h) (by omega)
    have z7 : zi N ≤ J 66 o - zi L := by rw [e5, zi_sub (by omega)]; exact (zi_le (by omega) (by omega)).2 (by omega)
    obtain ⟨J1, l1, l2, l3⟩ := cp_loop (X := X) (d := 100) hS (A := 40 * s + K) (B := 40 * o + L) (N := N) (by omega) (by omega) (zi s) (zi K) (zi o) (zi L) J N 0 J (by omega) (fun _ _ => rfl) (fun q => by
      by_cases u : 40 * o + L ≤ 40 * s + K
      · rw [if_pos u, if_neg (by omega)]
      · rw [if_neg u, if_neg (by omega)])
    obtain ⟨I1, hI1⟩ : ∃ I1 : zI, I1 = va_up I (46 + o) (va_cpy (I (46 + s)) (I (46 + o)) K L N) := ⟨_, rfl⟩
    have R1 : Rel n m G I1 J1 := by
      refine R.sheets (fun c h => by rw [hI1, va_up_ne _ _ (by omega)]) (fun c h => l2 c (by omega)) (R.s.one (s := o) (by omega) ⟨?_, Or.inr ⟨q', b, e1, ?_, e3, ?_, ?_, fun i hi => ?_⟩⟩ (fun t ht hts => ?_) (fun t hts => ?_) (fun u hu => ?_))
      · rw [hI1, va_up_ne _ _ (by omega), l2 65 (by decide)]; exact d1
      · rw [l2 65 (by decide)]; exact e2
      · rw [hI1, va_up_ne _ _ (by omega)]; exact e4
      · rw [l2 66 (by decide)]; exact e5
      · rw [hI1, va_up_self, l3]
        show (if L ≤ i ∧ i < L + N then I (46 + s) (K + (i - L)) else I (46 + o) i) = _
        by_cases w : L ≤ i ∧ i < L + N
        · rw [if_pos w, if_pos (by omega), b6 _ (by omega), show 40 * s + K + (40 * o + i - (40 * o + L)) = 40 * s + (K + (i - L)) by omega]
        · rw [if_neg w, if_neg (by omega)]; exact e6 i hi
      · rw [hI1, va_up_ne _ _ (by omega), va_up_ne _ _ (by omega), va_up_ne _ _ (by omega)]
        exact ⟨rfl, rfl, rfl⟩
      · rw [l2 65 (by decide), l2 66 (by decide)]; exact ⟨rfl, rfl⟩
      · rw [l3, if_neg (by omega)]
    refine ⟨n, m, G, .int (zi N), I1, J1, Cv.of hq_123 (z_le rfl) rfl (wp_T_copy _ _ _ _ _ (by omega) hS ?_), Cv.of hq_211 (z_le rfl) rfl (wp_Z_copy _ _ _ _ _ hS ?_), R1, fun c h1 h2 => by rw [hI1, va_up_ne _ _ (by omega)], fun c h => l2 c (by omega)⟩
    · have lzs : zl G (46 + s) = 40 := (SGrow hS (Or.inr (Or.inr ⟨rfl, rfl, rfl⟩)) (show s < 4 by omega)).2.2.2
      have lzo : zl G (46 + o) = 40 := (SGrow hS (Or.inr (Or.inr ⟨rfl, rfl, rfl⟩)) (show o < 4 by omega)).2.2.2
      rw [zi_nat (show s < _ by omega), zi_nat (show o < _ by omega), zi_nat (show K < _ by omega), zi_nat (show L < _ by omega), zi_nat (show N < _ by omega), lzs, lzo]
      have cpy : 0 ≤ zi K ∧ 0 ≤ zi L ∧ 0 ≤ zi N ∧ K + N ≤ 40 ∧ L + N ≤ 40 := ⟨(zi_le (a := 0) (by omega) (by omega)).2 (by omega), (zi_le (a := 0) (by omega) (by omega)).2 (by omega), (zi_le (a := 0) (by omega) (by omega)).2 (by omega), by omega, by omega⟩
      exact ⟨fun h => absurd h h1, fun _ => ⟨fun _ => ⟨zi_inr (by omega) (by omega), ⟨fun h => absurd h ht1, fun _ => ⟨zi_inr (by omega) (by omega), ⟨fun _ => ⟨zi_inr (by omega) (by omega), ⟨zi_inr (by omega) (by omega), ⟨fun _ => ⟨1, I, c1, ⟨fun h => absurd h (by decide), fun _ => ⟨1, I, c2, ⟨fun _ => ⟨zi_inr (by omega) (by omega), ⟨zi_inr (by omega) (by omega), ⟨cpy, fun I23_ e1 => (by subst e1; exact (by rw [hI1]))⟩⟩⟩, fun h => absurd h (by decide)⟩⟩⟩⟩, fun h => absurd hte h⟩⟩⟩, fun h => absurd h ht3⟩⟩⟩⟩, fun h => absurd h h3⟩⟩
    · rw [z40, z40, zi_nat (show s < _ by omega), zi_nat (show o < _ by omega)]
      exact ⟨fun h => absurd h h1, fun _ => ⟨fun _ => ⟨zi_inr (by omega) (by omega), ⟨fun h => absurd h hz1, fun _ => ⟨zi_inr (by omega) (by omega), ⟨fun _ => ⟨zi_inr (by omega) (by omega), ⟨zi_inr (by omega) (by omega), ⟨fun _ => ⟨fun h => absurd h z1, fun _ => ⟨fun h => absurd h z2, fun _ => ⟨fun h => absurd h z3, fun _ => ⟨zi_inr (by omega) (by omega), ⟨fun h => absurd h z4, fun _ => ⟨zi_inr (by omega) (by omega), ⟨fun h => absurd h z5, fun _ => ⟨zi_inr (by omega) (by omega), ⟨fun h => absurd h z6, fun _ => ⟨zi_inr (by omega) (by omega), ⟨fun _ => fun y21_ e1 => (by subst e1; exact fun y22_ e2 => (by subst e2; exact (l1 _ rfl))), fun h => absurd z7 h⟩⟩⟩⟩⟩⟩⟩⟩⟩⟩⟩, fun h => absurd hze h⟩⟩⟩, fun h => absurd h hz3⟩⟩⟩⟩, fun h => absurd h h3⟩⟩
  · have cT : Cv X 100 123 [.ref 0, .int (zi s), .int x2, .int (zi o), .int x4, .int x5] G I (some (.int (-12)), G, I) := by
      refine Cv.of hq_123 (z_le rfl) rfl (wp_T_copy _ _ _ _ _ (by omega) hS ?_)
      rw [zi_nat (show s < _ by omega), zi_nat (show o < _ by omega)]
      rcases s1 with ⟨t1, c1⟩ | ⟨t1, c1⟩
      · have c2 := (s2.resolve_left (fun h => hP ⟨t1, h.1⟩)).2
        exact ⟨fun h => absurd h h1, fun _ => ⟨fun _ => ⟨zi_inr (by omega) (by omega), ⟨fun h => absurd h ht1, fun _ => ⟨zi_inr (by omega) (by omega), ⟨fun _ => ⟨zi_inr (by omega) (by omega), ⟨zi_inr (by omega) (by omega), ⟨fun _ => ⟨1, I, c1, ⟨fun h => absurd h (by decide), fun _ => ⟨0, I, c2, ⟨fun h => absurd rfl h, fun _ => rfl⟩⟩⟩⟩, fun h => absurd hte h⟩⟩⟩, fun h => absurd h ht3⟩⟩⟩⟩, fun h => absurd h h3⟩⟩
      · exact ⟨fun h => absurd h h1, fun _ => ⟨fun _ => ⟨zi_inr (by omega) (by omega), ⟨fun h => absurd h ht1, fun _ => ⟨zi_inr (by omega) (by omega), ⟨fun _ => ⟨zi_inr (by omega) (by omega), ⟨zi_inr (by omega) (by omega), ⟨fun _ => ⟨0, I, c1, ⟨fun _ => rfl, fun h => absurd rfl h⟩⟩, fun h => absurd hte h⟩⟩⟩, fun h => absurd h ht3⟩⟩⟩⟩, fun h => absurd h h3⟩⟩
    refine ⟨n, m, G, .int (-12), I, J, cT, Cv.of hq_211 (z_le rfl) rfl (wp_Z_copy _ _ _ _ _ hS ?_), R, fun _ _ _ => rfl, fun _ _ => rfl⟩
    rw [zi_nat (show s < _ by omega), zi_nat (show o < _ by omega)]
    by_cases z1 : x5 < 0
    · exact ⟨fun h => absurd h h1, fun _ => ⟨fun _ => ⟨zi_inr (by omega) (by omega), ⟨fun h => absurd h hz1, fun _ => ⟨zi_inr (by omega) (by omega), ⟨fun _ => ⟨zi_inr (by omega) (by omega), ⟨zi_inr (by omega) (by omega), ⟨fun _ => ⟨fun _ => rfl, fun h => absurd z1 h⟩, fun h => absurd hze h⟩⟩⟩, fun h => absurd h hz3⟩⟩⟩⟩, fun h => absurd h h3⟩⟩
    by_cases z2 : x2 < 0
    · exact ⟨fun h => absurd h h1, fun _ => ⟨fun _ => ⟨zi_inr (by omega) (by omega), ⟨fun h => absurd h hz1, fun _ => ⟨zi_inr (by omega) (by omega), ⟨fun _ => ⟨zi_inr (by omega) (by omega), ⟨zi_inr (by omega) (by omega), ⟨fun _ => ⟨fun h => absurd h z1, fun _ => ⟨fun _ => rfl, fun h => absurd z2 h⟩⟩, fun h => absurd hze h⟩⟩⟩, fun h => absurd h hz3⟩⟩⟩⟩, fun h => absurd h h3⟩⟩
    by_cases z3 : x4 < 0
    · exact ⟨fun h => absurd h h1, fun _ => ⟨fun _ => ⟨zi_inr (by omega) (by omega), ⟨fun h => absurd h hz1, fun _ => ⟨zi_inr (by omega) (by omega), ⟨fun _ => ⟨zi_inr (by omega) (by omega), ⟨zi_inr (by omega) (by omega), ⟨fun _ => ⟨fun h => absurd h z1, fun _ => ⟨fun h => absurd h z2, fun _ => ⟨fun _ => rfl, fun h => absurd z3 h⟩⟩⟩, fun h => absurd hze h⟩⟩⟩, fun h => absurd h hz3⟩⟩⟩⟩, fun h => absurd h h3⟩⟩
    by_cases z4 : J 66 s < x2
    · exact ⟨fun h => absurd h h1, fun _ => ⟨fun _ => ⟨zi_inr (by omega) (by omega), ⟨fun h => absurd h hz1, fun _ => ⟨zi_inr (by omega) (by omega), ⟨fun _ => ⟨zi_inr (by omega) (by omega), ⟨zi_inr (by omega) (by omega), ⟨fun _ => ⟨fun h => absurd h z1, fun _ => ⟨fun h => absurd h z2, fun _ => ⟨fun h => absurd h z3, fun _ => ⟨zi_inr (by omega) (by omega), ⟨fun _ => rfl, fun h => absurd z4 h⟩⟩⟩⟩⟩, fun h => absurd hze h⟩⟩⟩, fun h => absurd h hz3⟩⟩⟩⟩, fun h => absurd h h3⟩⟩
    by_cases z5 : J 66 o < x4
    · exact ⟨fun h => absurd h h1, fun _ => ⟨fun _ => ⟨zi_inr (by omega) (by omega), ⟨fun h => absurd h hz1, fun _ => ⟨zi_inr (by omega) (by omega), ⟨fun _ => ⟨zi_inr (by omega) (by omega), ⟨zi_inr (by omega) (by omega), ⟨fun _ => ⟨fun h => absurd h z1, fun _ => ⟨fun h => absurd h z2, fun _ => ⟨fun h => absurd h z3, fun _ => ⟨zi_inr (by omega) (by omega), ⟨fun h => absurd h z4, fun _ => ⟨zi_inr (by omega) (by omega), ⟨fun _ => rfl, fun h => absurd z5 h⟩⟩⟩⟩⟩⟩⟩, fun h => absurd hze h⟩⟩⟩, fun h => absurd h hz3⟩⟩⟩⟩, fun h => absurd h h3⟩⟩
    by_cases z6 : J 66 s - x2 < x5
    · exact ⟨fun h => absurd h h1, fun _ => ⟨fun _ => ⟨zi_inr (by omega) (by omega), ⟨fun h => absurd h hz1, fun _ => ⟨zi_inr (by omega) (by omega), ⟨fun _ => ⟨zi_inr (by omega) (by omega), ⟨zi_inr (by omega) (by omega), ⟨fun _ => ⟨fun h => absurd h z1, fun _ => ⟨fun h => absurd h z2, fun _ => ⟨fun h => absurd h z3, fun _ => ⟨zi_inr (by omega) (by omega), ⟨fun h => absurd h z4, fun _ => ⟨zi_inr (by omega) (by omega), ⟨fun h => absurd h z5, fun _ => ⟨zi_inr (by omega) (by omega), ⟨fun _ => rfl, fun h => absurd z6 h⟩⟩⟩⟩⟩⟩⟩⟩⟩, fun h => absurd hze h⟩⟩⟩, fun h => absurd h hz3⟩⟩⟩⟩, fun h => absurd h h3⟩⟩
    have z7 : ¬ x5 ≤ J 66 o - x4 := by
      intro z7
      rw [b5] at z4 z6
      rw [e5] at z5 z7
      have y1 := z_lq.1 (Int32.not_lt.1 z1)
      have y2 := z_lq.1 (Int32.not_lt.1 z2)
      have y3 := z_lq.1 (Int32.not_lt.1 z3)
      have y1 : 0 ≤ x5.toInt := y1
      have y2 : 0 ≤ x2.toInt := y2
      have y3 : 0 ≤ x4.toInt := y3
      have y4 := z_lq.1 (Int32.not_lt.1 z4)
      have y5 := z_lq.1 (Int32.not_lt.1 z5)
      have y6 := z_lq.1 (Int32.not_lt.1 z6)
      have y7 := z_lq.1 z7
      have za : (zi a).toInt = a := zi_int (by omega)
      have zb : (zi b).toInt = b := zi_int (by omega)
      rw [za] at y4
      rw [zb] at y5
      rw [z_sub (by omega) (by omega), za] at y6
      rw [z_sub (by omega) (by omega), zb] at y7
      have t1 : x5.toNatClampNeg = x5.toInt.toNat := rfl
      have t2 : x2.toNatClampNeg = x2.toInt.toNat := rfl
      have t3 : x4.toNatClampNeg = x4.toInt.toNat := rfl
      exact hP ⟨⟨_, _, zi_of y1, zi_of y2, by omega⟩, ⟨_, _, zi_of y1, zi_of y3, by omega⟩⟩
    exact ⟨fun h => absurd h h1, fun _ => ⟨fun _ => ⟨zi_inr (by omega) (by omega), ⟨fun h => absurd h hz1, fun _ => ⟨zi_inr (by omega) (by omega), ⟨fun _ => ⟨zi_inr (by omega) (by omega), ⟨zi_inr (by omega) (by omega), ⟨fun _ => ⟨fun h => absurd h z1, fun _ => ⟨fun h => absurd h z2, fun _ => ⟨fun h => absurd h z3, fun _ => ⟨zi_inr (by omega) (by omega), ⟨fun h => absurd h z4, fun _ => ⟨zi_inr (by omega) (by omega), ⟨fun h => absurd h z5, fun _ => ⟨zi_inr (by omega) (by omega), ⟨fun h => absurd h z6, fun _ => ⟨zi_inr (by omega) (by omega), ⟨fun h => absurd h z7, fun _ => rfl⟩⟩⟩⟩⟩⟩⟩⟩⟩⟩⟩, fun h => absurd hze h⟩⟩⟩, fun h => absurd h hz3⟩⟩⟩⟩, fun h => absurd h h3⟩⟩
