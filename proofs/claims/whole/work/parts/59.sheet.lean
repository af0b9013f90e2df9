/-! WHAT A SHEET TELLS -/
def SHk (I J : zI) (s k : Nat) : Prop := s < 4 ∧ k ≤ 30 ∧ I 51 s = zi k ∧ J 66 s = zi k ∧ ∀ i, i < k → I (46 + s) i = J 67 (40 * s + i)
theorem SHk.fr {I J I1 J1 : zI} {s k : Nat} (h : SHk I J s k) (hI : ∀ c, 46 ≤ c → c ≤ 51 → I1 c = I c) (h1 : J1 66 = J 66) (h2 : J1 67 = J 67) : SHk I1 J1 s k := by
  obtain ⟨a, b, c, d, e⟩ := h
  exact ⟨a, b, by rw [hI 51 (by omega) (by omega)]; exact c, by rw [h1]; exact d, fun i hi => by rw [hI (46 + s) (by omega) (by omega), h2]; exact e i hi⟩
theorem ref_sim {X : Nat × (Nat → Int32)} {d n m : Nat} {G : zG} {I J : zI} (R : Rel n m G I J) (x1 : Int32) : ∃ v : Int32, Cv X (d + 2) 101 [.ref 0, .int x1] G I (some (.int v), G, I) ∧ Cv X (d + 2) 193 [.ref 57, .int x1] G J (some (.int v), G, J) ∧ (v = 0 → ∃ s k, x1 = zi s ∧ SHk I J s k) := by
  have hS := R.S
  by_cases h1 : f_T_isSheet x1 = 0
  · exact ⟨-2, Cv.of hq_101 (z_le rfl) rfl (wp_T_sheetRefusal _ (by omega) hS ⟨fun h => absurd h1 h, fun _ => rfl⟩), Cv.of hq_193 (z_le rfl) rfl (wp_Z_sheetWrong _ hS ⟨fun h => absurd h1 h, fun _ => rfl⟩), fun h => absurd h (by decide)⟩
  obtain ⟨s, -, hs, rfl⟩ := wi_spec (a := 0) (b := 3) (by omega) (by omega) h1
  obtain ⟨a1, a2⟩ := R.s s (by omega)
  rcases a2 with a2 | ⟨q, k, b1, b2, b3, b4, b5, b6⟩
  · have a3 : I 50 s = -1 := a1.trans a2
    exact ⟨-11, Cv.of hq_101 (z_le rfl) rfl (wp_T_sheetRefusal _ (by omega) hS (by rw [zi_nat (show s < _ by omega)]; exact ⟨fun _ => ⟨zi_inr (by omega) (by omega), ⟨fun h => absurd a3 h, fun _ => rfl⟩⟩, fun h => absurd h h1⟩)), Cv.of hq_193 (z_le rfl) rfl (wp_Z_sheetWrong _ hS (by rw [zi_nat (show s < _ by omega)]; exact ⟨fun _ => ⟨zi_inr (by omega) (by omega), ⟨fun h => absurd a2 h, fun _ => rfl⟩⟩, fun h => absurd h h1⟩)), fun h => absurd h (by decide)⟩
  · have a2 : ¬ J 65 s = -1 := by rw [b2]; exact zi_nm (by omega)
    have a3 : ¬ I 50 s = -1 := by rw [a1]; exact a2
    by_cases h3 : zi k ≤ 30
    · have h3T : I 51 s ≤ 30 := by rw [b4]; exact h3
      have h3Z : J 66 s ≤ 30 := by rw [b5]; exact h3
      exact ⟨0, Cv.of hq_101 (z_le rfl) rfl (wp_T_sheetRefusal _ (by omega) hS (by rw [zi_nat (show s < _ by omega)]; exact ⟨fun _ => ⟨zi_inr (by omega) (by omega), ⟨fun _ => ⟨zi_inr (by omega) (by omega), ⟨fun _ => rfl, fun h => absurd h3T h⟩⟩, fun h => absurd h a3⟩⟩, fun h => absurd h h1⟩)), Cv.of hq_193 (z_le rfl) rfl (wp_Z_sheetWrong _ hS (by rw [zi_nat (show s < _ by omega)]; exact ⟨fun _ => ⟨zi_inr (by omega) (by omega), ⟨fun _ => ⟨zi_inr (by omega) (by omega), ⟨fun _ => rfl, fun h => absurd h3Z h⟩⟩, fun h => absurd h a2⟩⟩, fun h => absurd h h1⟩)), fun _ => ⟨s, k, rfl, by omega, (zi_le (b := 30) (by omega) (by omega)).1 h3, b4, b5, b6⟩⟩
    · have h3T : ¬ I 51 s ≤ 30 := by rw [b4]; exact h3
      have h3Z : ¬ J 66 s ≤ 30 := by rw [b5]; exact h3
      exact ⟨-2, Cv.of hq_101 (z_le rfl) rfl (wp_T_sheetRefusal _ (by omega) hS (by rw [zi_nat (show s < _ by omega)]; exact ⟨fun _ => ⟨zi_inr (by omega) (by omega), ⟨fun _ => ⟨zi_inr (by omega) (by omega), ⟨fun h => absurd h h3T, fun _ => rfl⟩⟩, fun h => absurd h a3⟩⟩, fun h => absurd h h1⟩)), Cv.of hq_193 (z_le rfl) rfl (wp_Z_sheetWrong _ hS (by rw [zi_nat (show s < _ by omega)]; exact ⟨fun _ => ⟨zi_inr (by omega) (by omega), ⟨fun _ => ⟨zi_inr (by omega) (by omega), ⟨fun h => absurd h h3Z, fun _ => rfl⟩⟩, fun h => absurd h a2⟩⟩, fun h => absurd h h1⟩)), fun h => absurd h (by decide)⟩
theorem told_sim {X : Nat × (Nat → Int32)} {d n m : Nat} {G : zG} {I J : zI} (R : Rel n m G I J) (x1 x2 : Int32) : ∃ v : Int32, Cv X (d + 3) 100 [.ref 0, .int x1, .int x2] G I (some (.int v), G, I) ∧ Cv X (d + 3) 192 [.ref 57, .int x1, .int x2] G J (some (.int v), G, J) ∧ (v = 0 → ∃ s k x, x1 = zi s ∧ SHk I J s k ∧ x2 = zi x ∧ x < n) := by
  have hS := R.S
  have es := R.sh x2
  obtain ⟨v, c1, c2, h⟩ := ref_sim (X := X) (d := d) R x1
  by_cases hv : v = 0
  · obtain ⟨s, k, e1, e2⟩ := h hv
    by_cases hs : f_T_isShower I x2 = 0
    · exact ⟨-5, Cv.of hq_100 (z_le rfl) rfl (wp_T_filmRefusal _ _ (by omega) hS ⟨v, I, c1, ⟨fun _ => ⟨fun _ => rfl, fun h => absurd hs h⟩, fun h => absurd hv h⟩⟩), Cv.of hq_192 (z_le rfl) rfl (wp_Z_toldWrong _ _ (by omega) hS ⟨v, J, c2, ⟨fun _ => ⟨fun _ => rfl, fun h => absurd (es.trans hs) h⟩, fun h => absurd hv h⟩⟩), fun h => absurd h (by decide)⟩
    · have hs' : ¬ f_Z_isShower J x2 = 0 := fun h => hs (es.symm.trans h)
      obtain ⟨x, hx, rfl⟩ := R.shx hs
      exact ⟨0, Cv.of hq_100 (z_le rfl) rfl (wp_T_filmRefusal _ _ (by omega) hS ⟨v, I, c1, ⟨fun _ => ⟨fun h => absurd h hs, fun _ => rfl⟩, fun h => absurd hv h⟩⟩), Cv.of hq_192 (z_le rfl) rfl (wp_Z_toldWrong _ _ (by omega) hS ⟨v, J, c2, ⟨fun _ => ⟨fun h => absurd h hs', fun _ => rfl⟩, fun h => absurd hv h⟩⟩), fun _ => ⟨s, k, x, e1, e2, rfl, hx⟩⟩
  · exact ⟨v, Cv.of hq_100 (z_le rfl) rfl (wp_T_filmRefusal _ _ (by omega) hS ⟨v, I, c1, ⟨fun h => absurd h hv, fun _ => rfl⟩⟩), Cv.of hq_192 (z_le rfl) rfl (wp_Z_toldWrong _ _ (by omega) hS ⟨v, J, c2, ⟨fun h => absurd h hv, fun _ => rfl⟩⟩), fun h => absurd h hv⟩
theorem other_loop {X : Nat × (Nat → Int32)} {d : Nat} {G : zG} (hS : SG G) {I J : zI} {s k x : Nat} (h : SHk I J s k) (hx : x < 4) (hM : ∀ t, t < 30 → I (27 + x) t = J 74 (4 * t + x)) :
    ∀ (m t : Nat), t + m = k → ∃ r : Int32, (r = -1 ∨ ∃ e : Nat, e < 30 ∧ r = zi e) ∧ Ev X d 103 15 [.ref 0, .int (zi s), .int (zi x), .int (zi k), .int (zi t)] [] G I (some (.int r), G, I) ∧ Ev X d 194 8 [.ref 57, .int (zi s), .int (zi x), .int (zi t)] [] G J (some (.int r), G, J) := by
  obtain ⟨a, b, c, e, f⟩ := h
  intro m
  induction m with
  | zero =>
    intro t ht
    obtain rfl : t = k := by omega
    refine ⟨-1, Or.inl rfl, wp_T_firstOther_15 _ _ _ _ hS ⟨fun _ => rfl, fun h => absurd (Int32.le_refl _) h⟩, wp_Z_unlike_8 _ _ _ hS ?_⟩
    rw [zi_nat (show s < _ by omega), e]
    exact ⟨zi_inr (by omega) (by omega), fun _ => rfl, fun h => absurd (Int32.le_refl _) h⟩
  | succ m ih =>
    intro t ht
    have nx : ¬ zi k ≤ zi t := fun h => absurd ((zi_le (by omega) (by omega)).1 h) (by omega)
    have f1 := f t (by omega)
    have e40 : (40 : Int32) * zi s + zi t = zi (40 * s + t) := by rw [show (40 : Int32) = zi 40 from rfl, zi_mul, zi_add]
    by_cases q : J 67 (40 * s + t) = J 74 (4 * t + x)
    · obtain ⟨r, hr, k1, k2⟩ := ih (t + 1) (by omega)
      refine ⟨r, hr, wp_T_firstOther_15 _ _ _ _ hS ?_, wp_Z_unlike_8 _ _ _ hS ?_⟩
      · rw [zi_nat (show s < _ by omega), zi_nat (show t < _ by omega), zi_nat (show x < _ by omega), f1, hM t (by omega), zi1 t]
        exact ⟨fun h => absurd h nx, fun _ => ⟨zi_inr (by omega) (by omega), ⟨zi_inr (by omega) (by omega), ⟨zi_inr (by omega) (by omega), ⟨zi_inr (by omega) (by omega), ⟨fun _ => fun y9_ e1 => (by subst e1; exact k1), fun h => absurd q h⟩⟩⟩⟩⟩⟩
      · rw [zi_nat (show s < _ by omega), e, e40, z41, zi_nat (show 40 * s + t < _ by omega), zi_nat (show 4 * t + x < _ by omega), zi1 t]
        exact ⟨zi_inr (by omega) (by omega), ⟨fun h => absurd h nx, fun _ => ⟨zi_inr (by omega) (by omega), ⟨zi_inr (by omega) (by omega), ⟨fun _ => fun y6_ e1 => (by subst e1; exact k2), fun h => absurd q h⟩⟩⟩⟩⟩
    · refine ⟨zi t, Or.inr ⟨t, by omega, rfl⟩, wp_T_firstOther_15 _ _ _ _ hS ?_, wp_Z_unlike_8 _ _ _ hS ?_⟩
      · rw [zi_nat (show s < _ by omega), zi_nat (show t < _ by omega), zi_nat (show x < _ by omega), f1, hM t (by omega)]
        exact ⟨fun h => absurd h nx, fun _ => ⟨zi_inr (by omega) (by omega), ⟨zi_inr (by omega) (by omega), ⟨zi_inr (by omega) (by omega), ⟨zi_inr (by omega) (by omega), ⟨fun h => absurd h q, fun _ => rfl⟩⟩⟩⟩⟩⟩
      · rw [zi_nat (show s < _ by omega), e, e40, z41, zi_nat (show 40 * s + t < _ by omega), zi_nat (show 4 * t + x < _ by omega)]
        exact ⟨zi_inr (by omega) (by omega), ⟨fun h => absurd h nx, fun _ => ⟨zi_inr (by omega) (by omega), ⟨zi_inr (by omega) (by omega), ⟨fun h => absurd h q, fun _ => rfl⟩⟩⟩⟩⟩
theorem other_sim {X : Nat × (Nat → Int32)} {d : Nat} {G : zG} (hS : SG G) {I J : zI} {s k x : Nat} (h : SHk I J s k) (hx : x < 4) (hM : ∀ t, t < 30 → I (27 + x) t = J 74 (4 * t + x)) :
    ∃ r : Int32, (r = -1 ∨ ∃ e : Nat, e < 30 ∧ r = zi e) ∧ Cv X (d + 1) 103 [.ref 0, .int (zi s), .int (zi x)] G I (some (.int r), G, I) ∧ Ev X d 194 8 [.ref 57, .int (zi s), .int (zi x), .int 0] [] G J (some (.int r), G, J) := by
  obtain ⟨r, hr, k1, k2⟩ := other_loop (X := X) (d := d) hS h hx hM k 0 (by omega)
  refine ⟨r, hr, Cv.of hq_103 (z_le rfl) rfl (wp_T_firstOther _ _ hS ?_), k2⟩
  have hk := h.2.1
  rw [zi_nat (show s < _ from by have := h.1; omega), h.2.2.1]
  refine ⟨zi_inr h.1 (by have := h.1; omega), fun y hy => ?_⟩
  rw [hy, if_neg (show ¬ (30 : Int32) < zi k from fun e => absurd ((zi_lt (a := 30) (by omega) (by omega)).1 e) (by omega))]
  exact k1.deep (by omega)
theorem q_judge (x1 x2 : Int32) : Quiet 99 191 [.int x1, .int x2] := by
  intro X n m G I J R
  have hS := R.S
  have hn := R.H.le
  obtain ⟨v, c1, c2, h⟩ := told_sim (X := X) (d := 96) R x1 x2
  by_cases hv : v = 0
  · obtain ⟨s, k, x, rfl, hk, rfl, hx⟩ := h hv
    obtain ⟨r0, hA⟩ := R.AD
    obtain ⟨I1, J1, k1, k2, k3, k4, mf, -, -⟩ := live_sim (X := X) (d := 92) hS (Or.inl rfl) hA R.q
    obtain ⟨r, -, d1, d2⟩ := other_sim (X := X) (d := 98) hS (I := I1) (J := J1) (hk.fr (fun c _ _ => k3.F (by omega)) (k4 66 (by omega)) (k4 67 (by omega))) (x := x) (by omega) (fun t ht => (mf t x (by omega) hx).1)
    have z1 : Cv X 99 194 [.ref 57, .int (zi s), .int (zi x)] G J (some (.int r), G, J1) := Cv.of hq_194 (z_le rfl) rfl (wp_Z_unlike _ _ hS ⟨J1, k2, d2.deep (by omega)⟩)
    exact ⟨.int r, I1, J1, Cv.of hq_99 (z_le rfl) rfl (wp_T_judge _ _ hS ⟨v, I, c1, ⟨fun _ => ⟨I1, k1.deep (by omega), ⟨r, I1, d1, rfl⟩⟩, fun h => absurd hv h⟩⟩), Cv.of hq_191 (z_le rfl) rfl (wp_Z_judge _ _ hS ⟨v, J, c2, ⟨fun h => absurd hv h, fun _ => ⟨r, J1, z1, rfl⟩⟩⟩), k3.C, k4.Z⟩
  · exact ⟨.int v, I, J, Cv.of hq_99 (z_le rfl) rfl (wp_T_judge _ _ hS ⟨v, I, c1, ⟨fun h => absurd h hv, fun _ => rfl⟩⟩), Cv.of hq_191 (z_le rfl) rfl (wp_Z_judge _ _ hS ⟨v, J, c2, ⟨fun _ => rfl, fun h => absurd h hv⟩⟩), FC.rf, FZ.rf⟩
theorem whose_loop {X : Nat × (Nat → Int32)} {G : zG} (hS : SG G) {n r0 m s k : Nat} {I I1 : zI} (hn : n ≤ 4) (hL : Cv X 98 62 [.ref 0, .ref 1] G I (none, G, I1)) :
    ∀ (j x : Nat) (J : zI) (acc : Int32), x + j = n → AD 1 n r0 m G I J → J 57 34 = -1 → SHk I J s k → (I1 1 7 = zi n) → ∃ (w : Int32) (J1 : zI), Ev X 100 104 25 [.ref 0, .int (zi s), .int 0, .int acc, .int (zi x)] [] G I1 (some (.int w), G, I1) ∧ Ev X 100 195 17 [.ref 57, .int (zi s), .int 0, .int acc, .int (zi x)] [] G J (some (.int w), G, J1) ∧ FZ J J1 := by
  intro j
  induction j with
  | zero =>
    intro x J acc hx hA hq hk c7
    obtain rfl : x = n := by omega
    exact ⟨acc, J, wp_T_whose_25 _ _ _ _ hS ⟨fun _ => rfl, fun h => absurd (by rw [c7]; exact Int32.le_refl _) h⟩, wp_Z_whose_17 _ _ _ _ hS ⟨fun _ => rfl, fun h => absurd (by rw [hA.1.cj]; exact Int32.le_refl _) h⟩, FZ.rf⟩
  | succ j ih =>
    intro x J acc hx hA hq hk c7
    have nx : ¬ zi n ≤ zi x := fun h => absurd ((zi_le (by omega) (by omega)).1 h) (by omega)
    obtain ⟨I1', J1, k1, k2, k3, k4, mf, -, -⟩ := live_sim (X := X) (d := 92) hS (Or.inl rfl) hA hq
    obtain rfl : I1' = I1 := by
      have := Cv_det k1 hL
      cases this; rfl
    obtain ⟨r, hr0, d1, d2⟩ := other_sim (X := X) (d := 98) hS (I := I1') (J := J1) (hk.fr (fun c _ _ => k3.F (by omega)) (k4 66 (by omega)) (k4 67 (by omega))) (x := x) (by omega) (fun t ht => (mf t x (by omega) (by omega)).1)
    have z1 : Cv X 99 194 [.ref 57, .int (zi s), .int (zi x)] G J (some (.int r), G, J1) := Cv.of hq_194 (z_le rfl) rfl (wp_Z_unlike _ _ hS ⟨J1, k2, d2.deep (by omega)⟩)
    have hA1 : AD 1 n r0 m G I J1 := hA.fr (by omega) FrL.rf k4
    have hq1 : J1 57 34 = -1 := by rw [k4 57 (by omega)]; exact hq
    have hk1 : SHk I J1 s k := hk.fr (fun _ _ _ => rfl) (k4 66 (by omega)) (k4 67 (by omega))
    by_cases hr : r = -1
    · obtain ⟨w, J9, q1, q2, q3⟩ := ih (x + 1) J1 (acc ||| (1 <<< (zi x &&& 31))) (by omega) hA1 hq1 hk1 c7
      exact ⟨w, J9, wp_T_whose_25 _ _ _ _ hS (by rw [c7]; exact ⟨fun h => absurd h nx, fun _ => ⟨r, I1', d1, ⟨fun h => absurd hr h, fun _ => fun y7_ e1 => (by subst e1; exact fun y8_ e2 => (by subst e2; exact (by rw [zi1 x]; exact q1)))⟩⟩⟩), wp_Z_whose_17 _ _ _ _ hS (by rw [hA.1.cj]; exact ⟨fun h => absurd h nx, fun _ => ⟨r, J1, z1, ⟨fun h => absurd hr h, fun _ => fun y8_ e1 => (by subst e1; exact fun y9_ e2 => (by subst e2; exact (by rw [zi1 x]; exact q2)))⟩⟩⟩), k4.Z.tr q3⟩
    · obtain ⟨w, J9, q1, q2, q3⟩ := ih (x + 1) J1 acc (by omega) hA1 hq1 hk1 c7
      exact ⟨w, J9, wp_T_whose_25 _ _ _ _ hS (by rw [c7]; exact ⟨fun h => absurd h nx, fun _ => ⟨r, I1', d1, ⟨fun _ => fun y6_ e1 => (by subst e1; exact (by rw [zi1 x]; exact q1)), fun h => absurd h hr⟩⟩⟩), wp_Z_whose_17 _ _ _ _ hS (by rw [hA.1.cj]; exact ⟨fun h => absurd h nx, fun _ => ⟨r, J1, z1, ⟨fun _ => fun y6_ e1 => (by subst e1; exact fun y7_ e2 => (by subst e2; exact (by rw [zi1 x, Int32.or_zero]; exact q2))), fun h => absurd h hr⟩⟩⟩), k4.Z.tr q3⟩
theorem q_whose (x1 : Int32) : Quiet 104 195 [.int x1] := by
  intro X n m G I J R
  have hS := R.S
  have hn := R.H.le
  obtain ⟨v, c1, c2, h⟩ := ref_sim (X := X) (d := 97) R x1
  by_cases hv : v = 0
  · obtain ⟨s, k, rfl, hk⟩ := h hv
    obtain ⟨r0, hA⟩ := R.AD
    obtain ⟨I1, -, k1, -, k3, -, -⟩ := live_sim (X := X) (d := 92) hS (Or.inl rfl) hA R.q
    obtain ⟨w, J1, q1, q2, q3⟩ := whose_loop (X := X) hS hn k1 n 0 J 0 (by omega) hA R.q hk (by rw [k3.F (by omega)]; exact R.H.ci)
    subst hv
    exact ⟨.int w, I1, J1, Cv.of hq_104 (z_le rfl) rfl (wp_T_whose _ hS ⟨0, I, c1, ⟨fun _ => ⟨I1, k1.deep (by omega), q1⟩, fun h => absurd rfl h⟩⟩), Cv.of hq_195 (z_le rfl) rfl (wp_Z_whose _ hS ⟨0, J, c2, ⟨fun _ => q2, fun h => absurd rfl h⟩⟩), k3.C, q3⟩
  · exact ⟨.int v, I, J, Cv.of hq_104 (z_le rfl) rfl (wp_T_whose _ hS ⟨v, I, c1, ⟨fun h => absurd h hv, fun _ => rfl⟩⟩), Cv.of hq_195 (z_le rfl) rfl (wp_Z_whose _ hS ⟨v, J, c2, ⟨fun h => absurd h hv, fun _ => rfl⟩⟩), FC.rf, FZ.rf⟩
/-- what a sheet tells is held against one, in thought -/
theorem shown_sim {X : Nat × (Nat → Int32)} {d : Nat} {G : zG} (hS : SG G) {n r0 m s k x b : Nat} (hn : n ≤ 4) (hx : x < n) {I J : zI} (hA : AD 9 n r0 m G I J) (hq : J 57 34 = -1) (hk : SHk I J s k) :
    ∃ (r : Int32) (I1 J1 : zI), Cv X (d + 8) 106 [.ref 0, .int (zi s), .int (zi x), .int (zi b)] G I (some (.int (if r = -1 then 1 <<< (zi b &&& 31) else 0)), G, I1) ∧ Cv X (d + 8) 194 [.ref 57, .int (zi s), .int (zi x)] G J (some (.int r), G, J1) ∧ FrL I I1 ∧ FrR J J1 := by
  obtain ⟨I1, J1, k1, k2, k3, k4, mf, -, -⟩ := live_sim (X := X) (d := d) hS (Or.inr rfl) hA hq
  obtain ⟨r, hr0, d1, d2⟩ := other_sim (X := X) (d := d + 6) hS (I := I1) (J := J1) (hk.fr (fun c _ _ => k3.F (by omega)) (k4 66 (by omega)) (k4 67 (by omega))) (x := x) (by omega) (fun t ht => (mf t x (by omega) hx).1)
  refine ⟨r, I1, J1, ?_, Cv.of hq_194 (z_le rfl) rfl (wp_Z_unlike _ _ hS ⟨J1, k2.deep (by omega), d2.deep (by omega)⟩), k3, k4⟩
  by_cases hr : r = -1
  · rw [if_pos hr]
    exact Cv.of hq_106 (z_le rfl) rfl (wp_T_bitIfShown _ _ _ hS ⟨I1, k1.deep (by omega), ⟨r, I1, d1, ⟨fun h => absurd hr h, fun _ => rfl⟩⟩⟩)
  · rw [if_neg hr]
    exact Cv.of hq_106 (z_le rfl) rfl (wp_T_bitIfShown _ _ _ hS ⟨I1, k1.deep (by omega), ⟨r, I1, d1, ⟨fun _ => rfl, fun h => absurd h hr⟩⟩⟩)
