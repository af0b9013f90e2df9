/-- only the sheets change -/
theorem Rel.sheets {n m : Nat} {G : zG} {I J I1 J1 : zI} (R : Rel n m G I J) (hI : ∀ c, ¬ (46 ≤ c ∧ c ≤ 51) → I1 c = I c) (hJ : ∀ c, ¬ (65 ≤ c ∧ c ≤ 67) → J1 c = J c) (h : SHs I1 J1) : Rel n m G I1 J1 :=
  R.chg (fun c h => hI c (by omega)) (fun k _ _ => by rw [hI 0 (by omega)]) (fun c h => hJ c (by omega)) (fun k _ => by rw [hJ 57 (by omega)]) (R.H.fr (fun c _ _ => hI c (by omega)) (by rw [hJ 57 (by omega)]) (hJ 58 (by omega)) (hJ 59 (by omega)) (hJ 60 (by omega))) (R.L.fr (by rw [hI 1 (by omega)]) (by rw [hJ 57 (by omega)])) (R.P.fr (by rw [hI 0 (by omega)]) (by rw [hJ 57 (by omega)]) (hI 44 (by omega)) (hJ 61 (by omega))) h (R.i.fr (Nat.le_refl _) (by rw [hI 0 (by omega)]) (fun c _ _ => hI c (by omega)) (fun k _ _ => by rw [hJ 57 (by omega)]) (hJ 64 (by omega)) (fun y _ => by rw [hJ 58 (by omega), hJ 59 (by omega)]; exact ⟨rfl, rfl⟩))
/-- one sheet is another -/
theorem SHs.one {I J I1 J1 : zI} {s : Nat} (h : SHs I J) (hs : s < 4) (h1 : SH1 I1 J1 s) (hI : ∀ t, t < 4 → t ≠ s → I1 50 t = I 50 t ∧ I1 51 t = I 51 t ∧ I1 (46 + t) = I (46 + t)) (hJ : ∀ t, t ≠ s → J1 65 t = J 65 t ∧ J1 66 t = J 66 t) (hc : ∀ q, q / 40 ≠ s → J1 67 q = J 67 q) : SHs I1 J1 := by
  intro t ht
  by_cases e : t = s
  · subst e; exact h1
  · obtain ⟨a, b⟩ := h t ht
    obtain ⟨i1, i2, i3⟩ := hI t ht e
    obtain ⟨j1, j2⟩ := hJ t e
    refine ⟨by rw [i1, j1]; exact a, ?_⟩
    rw [j1, j2, i2, i3]
    rcases b with b | ⟨q, k, b1, b2, b3, b4, b5, b6⟩
    · exact Or.inl b
    · exact Or.inr ⟨q, k, b1, b2, b3, b4, b5, fun i hi => (b6 i hi).trans (hc _ (by omega)).symm⟩
theorem z40 (s i : Nat) : (40 : Int32) * zi s + zi i = zi (40 * s + i) := by rw [show (40 : Int32) = zi 40 from rfl, zi_mul, zi_add]
theorem film_loop {X : Nat × (Nat → Int32)} {d : Nat} {G : zG} (hS : SG G) {s x k : Nat} (hs : s < 4) (hx : x < 4) (hk : k ≤ 30) :
    ∀ (j i : Nat) (J : zI), i + j = 40 → ∃ J1 : zI, Ev X d 199 59 [.ref 57, .int (zi s), .int (zi x), .int (zi k), .int (zi i)] [] G J (some (.int (zi k)), G, J1) ∧ (∀ c, c ≠ 67 → J1 c = J c) ∧ (∀ q, q / 40 ≠ s → J1 67 q = J 67 q) ∧ (∀ q, q < i → J1 67 (40 * s + q) = J 67 (40 * s + q)) ∧ ∀ q, i ≤ q → q < k → J1 67 (40 * s + q) = J 74 (4 * q + x) := by
  intro j
  induction j with
  | zero =>
    intro i J hi
    obtain rfl : i = 40 := by omega
    exact ⟨J, wp_Z_film_59 _ _ _ _ hS ⟨fun _ => rfl, fun h => absurd (by decide) h⟩, fun _ _ => rfl, fun _ _ => rfl, fun _ _ => rfl, fun q h1 h2 => absurd h2 (by omega)⟩
  | succ j ih =>
    intro i J hi
    have n4 : ¬ (40 : Int32) ≤ zi i := fun h => absurd ((zi_le (a := 40) (by omega) (by omega)).1 h) (by omega)
    by_cases hk2 : zi k ≤ zi i
    · have hk3 := (zi_le (by omega) (by omega)).1 hk2
      obtain ⟨J1, k1, k2, k3, k4, k5⟩ := ih (i + 1) (z_up J 67 (40 * s + i) 0) (by omega)
      refine ⟨J1, wp_Z_film_59 _ _ _ _ hS ?_, fun c h => (k2 c h).trans (up_cell h), fun q h => (k3 q h).trans (up_place (by omega)), fun q h => (k4 q (by omega)).trans (up_place (by omega)), fun q h1 h2 => absurd h2 (by omega)⟩
      rw [z40, zi_nat (show 40 * s + i < _ by omega), zi1 i]
      exact ⟨fun h => absurd h n4, fun _ => ⟨fun _ => ⟨zi_inr (by omega) (by omega), fun I4_ e1 => (by subst e1; exact fun y5_ e2 => (by subst e2; exact k1))⟩, fun h => absurd hk2 h⟩⟩
    · have hk3 : i < k := by
        rcases Nat.lt_or_ge i k with h | h
        · exact h
        · exact absurd ((zi_le (by omega) (by omega)).2 h) hk2
      obtain ⟨J1, k1, k2, k3, k4, k5⟩ := ih (i + 1) (z_up J 67 (40 * s + i) (J 74 (4 * i + x))) (by omega)
      refine ⟨J1, wp_Z_film_59 _ _ _ _ hS ?_, fun c h => (k2 c h).trans (up_cell h), fun q h => (k3 q h).trans (up_place (by omega)), fun q h => (k4 q (by omega)).trans (up_place (by omega)), fun q h1 h2 => ?_⟩
      · rw [z40, z41, zi_nat (show 40 * s + i < _ by omega), zi_nat (show 4 * i + x < _ by omega), zi1 i]
        exact ⟨fun h => absurd h n4, fun _ => ⟨fun h => absurd h hk2, fun _ => ⟨zi_inr (by omega) (by omega), ⟨zi_inr (by omega) (by omega), fun I8_ e1 => (by subst e1; exact fun y9_ e2 => (by subst e2; exact k1))⟩⟩⟩⟩
      · by_cases e : q = i
        · subst e; rw [k4 q (by omega), up_same]
        · rw [k5 q (by omega) h2, up_cell (by decide)]
theorem q_film (x1 x2 x3 : Int32) : CallOK 109 199 [.int x1, .int x2, .int x3] := by
  intro X n m G I J R
  have hS := R.S
  have hn := R.H.le
  have es := R.sh x2
  by_cases h1 : f_T_isSheet x1 = 0
  · exact ⟨n, m, G, _, I, J, Cv.of hq_109 (z_le rfl) rfl (wp_T_film _ _ _ (by omega) hS ⟨fun h => absurd h1 h, fun _ => rfl⟩), Cv.of hq_199 (z_le rfl) rfl (wp_Z_film _ _ _ (by omega) hS ⟨fun h => absurd h1 h, fun _ => rfl⟩), R, fun _ _ _ => rfl, fun _ _ => rfl⟩
  by_cases hs : f_T_isShower I x2 = 0
  · exact ⟨n, m, G, _, I, J, Cv.of hq_109 (z_le rfl) rfl (wp_T_film _ _ _ (by omega) hS ⟨fun _ => ⟨fun h => absurd hs h, fun _ => rfl⟩, fun h => absurd h h1⟩), Cv.of hq_199 (z_le rfl) rfl (wp_Z_film _ _ _ (by omega) hS ⟨fun _ => ⟨fun h => absurd (es.trans hs) h, fun _ => rfl⟩, fun h => absurd h h1⟩), R, fun _ _ _ => rfl, fun _ _ => rfl⟩
  have hs' : ¬ f_Z_isShower J x2 = 0 := fun h => hs (es.symm.trans h)
  by_cases h3 : f_T_within x3 0 30 = 0
  · exact ⟨n, m, G, _, I, J, Cv.of hq_109 (z_le rfl) rfl (wp_T_film _ _ _ (by omega) hS ⟨fun _ => ⟨fun _ => ⟨fun h => absurd h3 h, fun _ => rfl⟩, fun h => absurd h hs⟩, fun h => absurd h h1⟩), Cv.of hq_199 (z_le rfl) rfl (wp_Z_film _ _ _ (by omega) hS ⟨fun _ => ⟨fun _ => ⟨fun h => absurd h3 h, fun _ => rfl⟩, fun h => absurd h hs'⟩, fun h => absurd h h1⟩), R, fun _ _ _ => rfl, fun _ _ => rfl⟩
  obtain ⟨s, -, hs4, rfl⟩ := wi_spec (a := 0) (b := 3) (by omega) (by omega) h1
  obtain ⟨x, hx, rfl⟩ := R.shx hs
  obtain ⟨k, -, hk, rfl⟩ := wi_spec (a := 0) (b := 30) (by omega) (by omega) h3
  obtain ⟨r0, hA⟩ := R.AD
  obtain ⟨I4, J4, k1, k2, k3, k4, mf, -, -⟩ := live_sim (X := X) (d := 93) hS (Or.inl rfl) hA R.q
  have R4 := R.fr k3.C k4.Z
  obtain ⟨I9, hI9⟩ : ∃ I9 : zI, I9 = z_up (z_up I4 50 s 2) 51 s (zi k) := ⟨_, rfl⟩
  obtain ⟨I1, hI1⟩ : ∃ I1 : zI, I1 = va_up I9 (46 + s) (va_cpy (I9 (27 + x)) (I9 (46 + s)) 0 0 k) := ⟨_, rfl⟩
  obtain ⟨J9, hJ9⟩ : ∃ J9 : zI, J9 = z_up (z_up J4 65 s 2) 66 s (zi k) := ⟨_, rfl⟩
  obtain ⟨J1, l1, l2, l3, -, l5⟩ := film_loop (X := X) (d := 100) hS (s := s) (x := x) (by omega) (by omega) hk 40 0 J9 (by omega)
  have gI : ∀ c, ¬ (46 ≤ c ∧ c ≤ 51) → I1 c = I4 c := fun c h => by rw [hI1, va_up_ne _ _ (by omega), hI9, up_cell (by omega), up_cell (by omega)]
  have gJ : ∀ c, ¬ (65 ≤ c ∧ c ≤ 67) → J1 c = J4 c := fun c h => by rw [l2 c (by omega), hJ9, up_cell (by omega), up_cell (by omega)]
  have lz27 : zl G (27 + x) = 30 := (SGrow hS (Or.inl ⟨rfl, rfl, rfl⟩) (show x < 4 by omega)).2.2.2
  have lz46 : zl G (46 + s) = 40 := (SGrow hS (Or.inr (Or.inr ⟨rfl, rfl, rfl⟩)) (show s < 4 by omega)).2.2.2
  have R1 : Rel n m G I1 J1 := by
    refine R4.sheets gI gJ (R4.s.one (s := s) (by omega) ⟨?_, Or.inr ⟨2, k, by omega, ?_, by omega, ?_, ?_, fun i hi => ?_⟩⟩ (fun t ht hts => ?_) (fun t hts => ?_) (fun q hq => ?_))
    · rw [hI1, va_up_ne _ _ (by omega), hI9, up_cell (by decide), up_same, l2 65 (by decide), hJ9, up_cell (by decide), up_same]
    · rw [l2 65 (by decide), hJ9, up_cell (by decide), up_same]; rfl
    · rw [hI1, va_up_ne _ _ (by omega), hI9, up_same]
    · rw [l2 66 (by decide), hJ9, up_same]
    · rw [l5 i (by omega) hi, hJ9, up_cell (by decide), up_cell (by decide), hI1, va_up_self]
      show (if 0 ≤ i ∧ i < 0 + k then I9 (27 + x) (0 + (i - 0)) else _) = _
      rw [if_pos ⟨by omega, by omega⟩, show 0 + (i - 0) = i by omega, hI9, up_cell (by omega), up_cell (by omega)]
      exact (mf i x (by omega) hx).1
    · refine ⟨?_, ?_, ?_⟩
      · rw [hI1, va_up_ne _ _ (by omega), hI9, up_cell (by decide), up_place hts]
      · rw [hI1, va_up_ne _ _ (by omega), hI9, up_place hts, up_cell (by decide)]
      · rw [hI1, va_up_ne _ _ (by omega), hI9, up_cell (by omega), up_cell (by omega)]
    · rw [l2 65 (by decide), l2 66 (by decide), hJ9]
      exact ⟨by rw [up_cell (by decide), up_place hts], by rw [up_place hts, up_cell (by decide)]⟩
    · rw [l3 q hq, hJ9, up_cell (by decide), up_cell (by decide)]
  refine ⟨n, m, G, .int (zi k), I1, J1, Cv.of hq_109 (z_le rfl) rfl (wp_T_film _ _ _ (by omega) hS ?_), Cv.of hq_199 (z_le rfl) rfl (wp_Z_film _ _ _ (by omega) hS ?_), R1, fun c h1 h2 => by rw [gI c (by omega), k3 c (by omega) (by unfold isScr; omega)], fun c h => by rw [gJ c (by omega), k4 c (by omega)]⟩
  · rw [zi_nat (show s < _ by omega), zi_nat (show x < _ by omega), zi_nat (show k < _ by omega), lz27, lz46]
    have c0 : (0 : Int32).toNatClampNeg = 0 := rfl
    rw [c0]
    have cpy : 0 ≤ (0 : Int32) ∧ 0 ≤ (0 : Int32) ∧ 0 ≤ zi k ∧ 0 + k ≤ 30 ∧ 0 + k ≤ 40 := ⟨by decide, by decide, (zi_le (a := 0) (by omega) (by omega)).2 (by omega), by omega, by omega⟩
    refine ⟨fun _ => ⟨fun _ => ⟨fun _ => ⟨I4, k1, ⟨zi_inr (by omega) (by omega), fun I7_ e1 => ⟨zi_inr (by omega) (by omega), fun I9_ e2 => ⟨zi_inr (by omega) (by omega), ⟨zi_inr (by omega) (by omega), ⟨cpy, fun I15_ e3 => ?_⟩⟩⟩⟩⟩⟩, fun h => absurd h h3⟩, fun h => absurd h hs⟩, fun h => absurd h h1⟩
    rw [e3, e2, e1, hI1, hI9]
  · rw [zi_nat (show s < _ by omega)]
    exact ⟨fun _ => ⟨fun _ => ⟨fun _ => ⟨J4, k2, ⟨zi_inr (by omega) (by omega), fun I7_ e1 => (by subst e1; exact ⟨zi_inr (by omega) (by omega), fun I9_ e2 => (by subst e2; exact (by rw [hJ9] at l1; exact l1))⟩)⟩⟩, fun h => absurd h h3⟩, fun h => absurd h hs'⟩, fun h => absurd h h1⟩
theorem sht_loop {X : Nat × (Nat → Int32)} {d : Nat} {G : zG} (hS : SG G) {s : Nat} (hs : s < 4) (x2 x3 : Int32) :
    ∀ (j i : Nat) (J : zI), i + j = 40 → ∃ J1 : zI, Ev X d 209 70 [.ref 57, .int (zi s), .int x2, .int x3, .int (zi i)] [] G J (some (.int 1), G, J1) ∧ (∀ c, c ≠ 67 → J1 c = J c) ∧ (∀ q, q / 40 ≠ s → J1 67 q = J 67 q) ∧ (∀ q, q < i → J1 67 (40 * s + q) = J 67 (40 * s + q)) ∧ ∀ q, i ≤ q → q < 40 → J1 67 (40 * s + q) = 0 := by
  intro j
  induction j with
  | zero =>
    intro i J hi
    obtain rfl : i = 40 := by omega
    exact ⟨J, wp_Z_sheet_70 _ _ _ _ hS ⟨fun _ => rfl, fun h => absurd (by decide) h⟩, fun _ _ => rfl, fun _ _ => rfl, fun _ _ => rfl, fun q h1 h2 => absurd h2 (by omega)⟩
  | succ j ih =>
    intro i J hi
    have n4 : ¬ (40 : Int32) ≤ zi i := fun h => absurd ((zi_le (a := 40) (by omega) (by omega)).1 h) (by omega)
    obtain ⟨J1, k1, k2, k3, k4, k5⟩ := ih (i + 1) (z_up J 67 (40 * s + i) 0) (by omega)
    refine ⟨J1, wp_Z_sheet_70 _ _ _ _ hS ?_, fun c h => (k2 c h).trans (up_cell h), fun q h => (k3 q h).trans (up_place (by omega)), fun q h => (k4 q (by omega)).trans (up_place (by omega)), fun q h1 h2 => ?_⟩
    · rw [z40, zi_nat (show 40 * s + i < _ by omega), zi1 i]
      exact ⟨fun h => absurd h n4, fun _ => ⟨zi_inr (by omega) (by omega), fun I3_ e1 => (by subst e1; exact fun y4_ e2 => (by subst e2; exact k1))⟩⟩
    · by_cases e : q = i
      · subst e; rw [k4 q (by omega), up_same]
      · exact k5 q (by omega) h2
theorem wi_m1 {v : Int32} (h : ¬ f_T_within v (-1) 2 = 0) (h1 : ¬ v = -1) : ∃ q : Nat, q < 3 ∧ v = zi q := by
  unfold f_T_within at h
  by_cases a : v < -1
  · rw [if_pos a] at h; exact absurd rfl h
  · rw [if_neg a] at h
    by_cases b : 2 < v
    · rw [if_pos b] at h; exact absurd rfl h
    · have q1 := z_lq.1 (Int32.not_lt.1 a)
      have q2 := z_lq.1 (Int32.not_lt.1 b)
      have q1 : (-1 : Int) ≤ v.toInt := q1
      have q2 : v.toInt ≤ 2 := q2
      have q3 : v.toInt ≠ -1 := fun e => h1 (Int32.toInt_inj.1 e)
      exact ⟨v.toNatClampNeg, by have e : v.toNatClampNeg = v.toInt.toNat := rfl; omega, zi_of (by omega)⟩
theorem q_sheet (x1 x2 x3 : Int32) : CallOK 120 209 [.int x1, .int x2, .int x3] := by
  intro X n m G I J R
  have hS := R.S
  have hn := R.H.le
  by_cases h1 : f_T_isSheet x1 = 0
  · exact ⟨n, m, G, _, I, J, Cv.of hq_120 (z_le rfl) rfl (wp_T_sheet _ _ _ (by omega) hS ⟨fun _ => rfl, fun h => absurd h1 h⟩), Cv.of hq_209 (z_le rfl) rfl (wp_Z_sheet _ _ _ hS ⟨fun _ => rfl, fun h => absurd h1 h⟩), R, fun _ _ _ => rfl, fun _ _ => rfl⟩
  by_cases h2 : f_T_within x2 (-1) 2 = 0
  · exact ⟨n, m, G, _, I, J, Cv.of hq_120 (z_le rfl) rfl (wp_T_sheet _ _ _ (by omega) hS ⟨fun h => absurd h h1, fun _ => ⟨fun h => absurd h2 h, fun _ => rfl⟩⟩), Cv.of hq_209 (z_le rfl) rfl (wp_Z_sheet _ _ _ hS ⟨fun h => absurd h h1, fun _ => ⟨fun _ => rfl, fun h => absurd h2 h⟩⟩), R, fun _ _ _ => rfl, fun _ _ => rfl⟩
  obtain ⟨s, -, hs4, rfl⟩ := wi_spec (a := 0) (b := 3) (by omega) (by omega) h1
  by_cases h4 : x2 = -1
  · obtain ⟨J1, l1, l2, l3, -, -⟩ := sht_loop (X := X) (d := 100) hS (s := s) (by omega) x2 x3 40 0 (z_up (z_up J 65 s x2) 66 s 0) (by omega)
    have gJ : ∀ c, ¬ (65 ≤ c ∧ c ≤ 67) → J1 c = J c := fun c h => by rw [l2 c (by omega), up_cell (by omega), up_cell (by omega)]
    have gI : ∀ c, ¬ (46 ≤ c ∧ c ≤ 51) → z_up I 50 s (-1) c = I c := fun c h => up_cell (by omega)
    have R1 : Rel n m G (z_up I 50 s (-1)) J1 := by
      refine R.sheets gI gJ (R.s.one (s := s) (by omega) ⟨?_, Or.inl ?_⟩ (fun t ht hts => ?_) (fun t hts => ?_) (fun q hq => ?_))
      · rw [up_same, l2 65 (by decide), up_cell (by decide), up_same, h4]
      · rw [l2 65 (by decide), up_cell (by decide), up_same, h4]
      · exact ⟨up_place hts, by rw [up_cell (by decide)], up_cell (by omega)⟩
      · rw [l2 65 (by decide), l2 66 (by decide)]
        exact ⟨by rw [up_cell (by decide), up_place hts], by rw [up_place hts, up_cell (by decide)]⟩
      · rw [l3 q hq, up_cell (by decide), up_cell (by decide)]
    refine ⟨n, m, G, .int 1, z_up I 50 s (-1), J1, Cv.of hq_120 (z_le rfl) rfl (wp_T_sheet _ _ _ (by omega) hS ?_), Cv.of hq_209 (z_le rfl) rfl (wp_Z_sheet _ _ _ hS ?_), R1, fun c h1 h2 => gI c (by omega), fun c h => gJ c (by omega)⟩
    · rw [zi_nat (show s < _ by omega)]
      exact ⟨fun h => absurd h h1, fun _ => ⟨fun _ => ⟨fun h => absurd h4 h, fun _ => ⟨zi_inr (by omega) (by omega), fun I15_ e1 => (by subst e1; exact rfl)⟩⟩, fun h => absurd h h2⟩⟩
    · rw [zi_nat (show s < _ by omega)]
      exact ⟨fun h => absurd h h1, fun _ => ⟨fun h => absurd h h2, fun _ => ⟨fun _ => ⟨fun _ => ⟨zi_inr (by omega) (by omega), fun I6_ e1 => (by subst e1; exact ⟨fun h => absurd h4 h, fun _ => ⟨zi_inr (by omega) (by omega), fun I11_ e2 => (by subst e2; exact l1)⟩⟩)⟩, fun h => absurd h4 h⟩, fun h => absurd h4 h⟩⟩⟩
  obtain ⟨q, hq, e2⟩ := wi_m1 h2 h4
  by_cases h5 : x3 ≤ 40
  · by_cases h6 : 0 ≤ x3
    · obtain ⟨k, hk, rfl⟩ : ∃ k : Nat, k ≤ 40 ∧ x3 = zi k := by
        have a := z_lq.1 h6
        have b := z_lq.1 h5
        have a : 0 ≤ x3.toInt := a
        have b : x3.toInt ≤ 40 := b
        exact ⟨x3.toNatClampNeg, by have e : x3.toNatClampNeg = x3.toInt.toNat := rfl; omega, zi_of a⟩
      have rw46 := SGrow hS (Or.inr (Or.inr ⟨rfl, rfl, rfl⟩)) (show s < 4 by omega)
      obtain ⟨I2, f1, f2, f3⟩ := c_fill (X := X) (d := 99) (a := 46 + s) (N := 40) rw46.2.1 rw46.2.2.1 rw46.2.2.2 (by omega) 0 (z_up (z_up I 50 s x2) 51 s (zi k))
      obtain ⟨J1, l1, l2, l3, -, l5⟩ := sht_loop (X := X) (d := 100) hS (s := s) (by omega) x2 (zi k) 40 0 (z_up (z_up J 65 s x2) 66 s (zi k)) (by omega)
      have gI : ∀ c, ¬ (46 ≤ c ∧ c ≤ 51) → I2 c = I c := fun c h => by rw [f2 c (by omega), up_cell (by omega), up_cell (by omega)]
      have gJ : ∀ c, ¬ (65 ≤ c ∧ c ≤ 67) → J1 c = J c := fun c h => by rw [l2 c (by omega), up_cell (by omega), up_cell (by omega)]
      have R1 : Rel n m G I2 J1 := by
        refine R.sheets gI gJ (R.s.one (s := s) (by omega) ⟨?_, Or.inr ⟨q, k, hq, ?_, hk, ?_, ?_, fun i hi => ?_⟩⟩ (fun t ht hts => ?_) (fun t hts => ?_) (fun u hu => ?_))
        · rw [f2 50 (by omega), up_cell (by decide), up_same, l2 65 (by decide), up_cell (by decide), up_same]
        · rw [l2 65 (by decide), up_cell (by decide), up_same, e2]
        · rw [f2 51 (by omega), up_same]
        · rw [l2 66 (by decide), up_same]
        · rw [f3 i (by omega), l5 i (by omega) (by omega)]
        · refine ⟨?_, ?_, ?_⟩
          · rw [f2 50 (by omega), up_cell (by decide), up_place hts]
          · rw [f2 51 (by omega), up_place hts, up_cell (by decide)]
          · rw [f2 (46 + t) (by omega), up_cell (by omega), up_cell (by omega)]
        · rw [l2 65 (by decide), l2 66 (by decide)]
          exact ⟨by rw [up_cell (by decide), up_place hts], by rw [up_place hts, up_cell (by decide)]⟩
        · rw [l3 u hu, up_cell (by decide), up_cell (by decide)]
      refine ⟨n, m, G, .int 1, I2, J1, Cv.of hq_120 (z_le rfl) rfl (wp_T_sheet _ _ _ (by omega) hS ?_), Cv.of hq_209 (z_le rfl) rfl (wp_Z_sheet _ _ _ hS ?_), R1, fun c h1 h2 => gI c (by omega), fun c h => gJ c (by omega)⟩
      · rw [zi_nat (show s < _ by omega)]
        exact ⟨fun h => absurd h h1, fun _ => ⟨fun _ => ⟨fun _ => ⟨fun _ => ⟨fun _ => ⟨zi_inr (by omega) (by omega), fun I7_ e1 => (by subst e1; exact ⟨zi_inr (by omega) (by omega), fun I9_ e2 => (by subst e2; exact ⟨zi_inr (by omega) (by omega), ⟨I2, f1, rfl⟩⟩)⟩)⟩, fun h => absurd h6 h⟩, fun h => absurd h5 h⟩, fun h => absurd h h4⟩, fun h => absurd h h2⟩⟩
      · rw [zi_nat (show s < _ by omega)]
        exact ⟨fun h => absurd h h1, fun _ => ⟨fun h => absurd h h2, fun _ => ⟨fun h => absurd h h4, fun _ => ⟨fun _ => ⟨fun h => absurd h h4, fun _ => ⟨fun _ => ⟨zi_inr (by omega) (by omega), fun I31_ e1 => (by subst e1; exact ⟨fun _ => ⟨zi_inr (by omega) (by omega), fun I34_ e2 => (by subst e2; exact l1)⟩, fun h => absurd h h4⟩)⟩, fun h => absurd h6 h⟩⟩, fun h => absurd h5 h⟩⟩⟩⟩
    · exact ⟨n, m, G, .int (-14), I, J, Cv.of hq_120 (z_le rfl) rfl (wp_T_sheet _ _ _ (by omega) hS ⟨fun h => absurd h h1, fun _ => ⟨fun _ => ⟨fun _ => ⟨fun _ => ⟨fun h => absurd h h6, fun _ => rfl⟩, fun h => absurd h5 h⟩, fun h => absurd h h4⟩, fun h => absurd h h2⟩⟩), Cv.of hq_209 (z_le rfl) rfl (wp_Z_sheet _ _ _ hS ⟨fun h => absurd h h1, fun _ => ⟨fun h => absurd h h2, fun _ => ⟨fun h => absurd h h4, fun _ => ⟨fun _ => ⟨fun h => absurd h h4, fun _ => ⟨fun h => absurd h h6, fun _ => rfl⟩⟩, fun h => absurd h5 h⟩⟩⟩⟩), R, fun _ _ _ => rfl, fun _ _ => rfl⟩
  · exact ⟨n, m, G, .int (-2), I, J, Cv.of hq_120 (z_le rfl) rfl (wp_T_sheet _ _ _ (by omega) hS ⟨fun h => absurd h h1, fun _ => ⟨fun _ => ⟨fun _ => ⟨fun h => absurd h h5, fun _ => rfl⟩, fun h => absurd h h4⟩, fun h => absurd h h2⟩⟩), Cv.of hq_209 (z_le rfl) rfl (wp_Z_sheet _ _ _ hS ⟨fun h => absurd h h1, fun _ => ⟨fun h => absurd h h2, fun _ => ⟨fun h => absurd h h4, fun _ => ⟨fun h => absurd h h5, fun _ => rfl⟩⟩⟩⟩), R, fun _ _ _ => rfl, fun _ _ => rfl⟩
theorem q_cell (x1 x2 x3 : Int32) : CallOK 121 210 [.int x1, .int x2, .int x3] := by
  intro X n m G I J R
  have hS := R.S
  have hn := R.H.le
  by_cases h1 : f_T_isSheet x1 = 0
  · exact ⟨n, m, G, _, I, J, Cv.of hq_121 (z_le rfl) rfl (wp_T_cell _ _ _ (by omega) hS ⟨fun h => absurd h1 h, fun _ => rfl⟩), Cv.of hq_210 (z_le rfl) rfl (wp_Z_cell _ _ _ hS ⟨fun h => absurd h1 h, fun _ => rfl⟩), R, fun _ _ _ => rfl, fun _ _ => rfl⟩
  obtain ⟨s, -, hs4, rfl⟩ := wi_spec (a := 0) (b := 3) (by omega) (by omega) h1
  obtain ⟨a1, a2⟩ := R.s s (by omega)
  rcases a2 with a2 | ⟨q, k, b1, b2, b3, b4, b5, b6⟩
  · have a3 : I 50 s = -1 := a1.trans a2
    exact ⟨n, m, G, .int (-11), I, J, Cv.of hq_121 (z_le rfl) rfl (wp_T_cell _ _ _ (by omega) hS (by rw [zi_nat (show s < _ by omega)]; exact ⟨fun _ => ⟨zi_inr (by omega) (by omega), ⟨fun h => absurd a3 h, fun _ => rfl⟩⟩, fun h => absurd h h1⟩)), Cv.of hq_210 (z_le rfl) rfl (wp_Z_cell _ _ _ hS (by rw [zi_nat (show s < _ by omega)]; exact ⟨fun _ => ⟨zi_inr (by omega) (by omega), ⟨fun h => absurd a2 h, fun _ => rfl⟩⟩, fun h => absurd h h1⟩)), R, fun _ _ _ => rfl, fun _ _ => rfl⟩
  · have a2 : ¬ J 65 s = -1 := by rw [b2]; exact zi_nm (by omega)
    have a3 : ¬ I 50 s = -1 := by rw [a1]; exact a2
    by_cases h2 : f_T_within x2 0 (zi k - 1) = 0
    · have h2T : f_T_within x2 0 (I 51 s - 1) = 0 := by rw [b4]; exact h2
      have h2Z : f_Z_in x2 0 (J 66 s - 1) = 0 := by rw [b5]; exact h2
      exact ⟨n, m, G, .int (-12), I, J, Cv.of hq_121 (z_le rfl) rfl (wp_T_cell _ _ _ (by omega) hS (by rw [zi_nat (show s < _ by omega)]; exact ⟨fun _ => ⟨zi_inr (by omega) (by omega), ⟨fun _ => ⟨zi_inr (by omega) (by omega), ⟨fun h => absurd h2T h, fun _ => rfl⟩⟩, fun h => absurd h a3⟩⟩, fun h => absurd h h1⟩)), Cv.of hq_210 (z_le rfl) rfl (wp_Z_cell _ _ _ hS (by rw [zi_nat (show s < _ by omega)]; exact ⟨fun _ => ⟨zi_inr (by omega) (by omega), ⟨fun _ => ⟨zi_inr (by omega) (by omega), ⟨fun h => absurd h2Z h, fun _ => rfl⟩⟩, fun h => absurd h a2⟩⟩, fun h => absurd h h1⟩)), R, fun _ _ _ => rfl, fun _ _ => rfl⟩
    · have h2T : ¬ f_T_within x2 0 (I 51 s - 1) = 0 := by rw [b4]; exact h2
      have h2Z : ¬ f_Z_in x2 0 (J 66 s - 1) = 0 := by rw [b5]; exact h2
      obtain ⟨i, hi, rfl⟩ : ∃ i : Nat, i < k ∧ x2 = zi i := by
        rcases Nat.eq_zero_or_pos k with e | e
        · subst e
          exfalso
          unfold f_T_within at h2
          by_cases u : x2 < 0
          · rw [if_pos u] at h2; exact h2 rfl
          · rw [if_neg u] at h2
            have u1 := z_lq.1 (Int32.not_lt.1 u)
            have u1 : 0 ≤ x2.toInt := u1
            rw [if_pos ((z_lt (a := zi 0 - 1) (b := x2)).2 (show (-1 : Int) < x2.toInt by omega))] at h2
            exact h2 rfl
        · rw [show zi k - 1 = zi (k - 1) from zi_sub (b := 1) e] at h2
          obtain ⟨i, -, i2, i3⟩ := wi_spec (a := 0) (b := k - 1) (by omega) (by omega) h2
          exact ⟨i, by omega, i3⟩
      have R1 : ∀ u : Int32, Rel n m G (z_up I (46 + s) i u) (z_up J 67 (40 * s + i) u) := fun u => by
        refine R.sheets (fun c h => up_cell (by omega)) (fun c h => up_cell (by omega)) (R.s.one (s := s) (by omega) ⟨?_, Or.inr ⟨q, k, b1, ?_, b3, ?_, ?_, fun y hy => ?_⟩⟩ (fun t ht hts => ?_) (fun t hts => ?_) (fun y hy => ?_))
        · rw [up_cell (by omega), up_cell (by decide)]; exact a1
        · rw [up_cell (by decide)]; exact b2
        · rw [up_cell (by omega)]; exact b4
        · rw [up_cell (by decide)]; exact b5
        · by_cases e : y = i
          · rw [e, up_same, up_same]
          · rw [up_place e, up_place (by omega)]; exact b6 y hy
        · exact ⟨by rw [up_cell (by omega)], by rw [up_cell (by omega)], up_cell (by omega)⟩
        · exact ⟨by rw [up_cell (by decide)], by rw [up_cell (by decide)]⟩
        · exact up_place (by omega)
      have gz : ∀ u : Int32, (∀ c, 57 ≤ c → c < 80 → z_up I (46 + s) i u c = I c) ∧ (∀ c, c < 57 ∨ 80 ≤ c → z_up J 67 (40 * s + i) u c = J c) := fun u => ⟨fun c h1 h2 => up_cell (by omega), fun c h => up_cell (by omega)⟩
      have cT : ∀ u : Int32, f_T_asOfSort (J 65 s) x3 = u → Cv X 100 121 [.ref 0, .int (zi s), .int (zi i), .int x3] G I (some (.int 1), G, z_up I (46 + s) i u) := fun u hu => by
        refine Cv.of hq_121 (z_le rfl) rfl (wp_T_cell _ _ _ (by omega) hS ?_)
        rw [zi_nat (show s < _ by omega), zi_nat (show i < _ by omega)]
        exact ⟨fun _ => ⟨zi_inr (by omega) (by omega), ⟨fun _ => ⟨zi_inr (by omega) (by omega), ⟨fun _ => ⟨zi_inr (by omega) (by omega), ⟨zi_inr (by omega) (by omega), ⟨zi_inr (by omega) (by omega), fun I10_ e1 => (by subst e1; exact (by rw [a1, hu]))⟩⟩⟩, fun h => absurd h h2T⟩⟩, fun h => absurd h a3⟩⟩, fun h => absurd h h1⟩
      have z4 := z40 s i
      by_cases e0 : J 65 s = 0
      · refine ⟨n, m, G, .int 1, _, _, cT (x3.toInt8.toInt32) (by rw [f_T_asOfSort, if_pos e0]), Cv.of hq_210 (z_le rfl) rfl (wp_Z_cell _ _ _ hS ?_), R1 _, (gz _).1, (gz _).2⟩
        rw [z4, zi_nat (show s < _ by omega), zi_nat (show 40 * s + i < _ by omega)]
        exact ⟨fun _ => ⟨zi_inr (by omega) (by omega), ⟨fun _ => ⟨zi_inr (by omega) (by omega), ⟨fun _ => ⟨zi_inr (by omega) (by omega), ⟨fun h => absurd e0 h, fun _ => ⟨zi_inr (by omega) (by omega), fun I15_ e1 => (by subst e1; exact rfl)⟩⟩⟩, fun h => absurd h h2Z⟩⟩, fun h => absurd h a2⟩⟩, fun h => absurd h h1⟩
      by_cases e1 : J 65 s = 1
      · refine ⟨n, m, G, .int 1, _, _, cT (x3.toInt16.toInt32) (by rw [f_T_asOfSort, if_neg e0, if_pos e1]), Cv.of hq_210 (z_le rfl) rfl (wp_Z_cell _ _ _ hS ?_), R1 _, (gz _).1, (gz _).2⟩
        rw [z4, zi_nat (show s < _ by omega), zi_nat (show 40 * s + i < _ by omega)]
        exact ⟨fun _ => ⟨zi_inr (by omega) (by omega), ⟨fun _ => ⟨zi_inr (by omega) (by omega), ⟨fun _ => ⟨zi_inr (by omega) (by omega), ⟨fun _ => ⟨zi_inr (by omega) (by omega), ⟨fun h => absurd e1 h, fun _ => ⟨zi_inr (by omega) (by omega), fun I13_ e1 => (by subst e1; exact rfl)⟩⟩⟩, fun h => absurd h e0⟩⟩, fun h => absurd h h2Z⟩⟩, fun h => absurd h a2⟩⟩, fun h => absurd h h1⟩
      · refine ⟨n, m, G, .int 1, _, _, cT (x3) (by rw [f_T_asOfSort, if_neg e0, if_neg e1]), Cv.of hq_210 (z_le rfl) rfl (wp_Z_cell _ _ _ hS ?_), R1 _, (gz _).1, (gz _).2⟩
        rw [z4, zi_nat (show s < _ by omega), zi_nat (show 40 * s + i < _ by omega)]
        exact ⟨fun _ => ⟨zi_inr (by omega) (by omega), ⟨fun _ => ⟨zi_inr (by omega) (by omega), ⟨fun _ => ⟨zi_inr (by omega) (by omega), ⟨fun _ => ⟨zi_inr (by omega) (by omega), ⟨fun _ => ⟨zi_inr (by omega) (by omega), fun I11_ e1 => (by subst e1; exact rfl)⟩, fun h => absurd h e1⟩⟩, fun h => absurd h e0⟩⟩, fun h => absurd h h2Z⟩⟩, fun h => absurd h a2⟩⟩, fun h => absurd h h1⟩
