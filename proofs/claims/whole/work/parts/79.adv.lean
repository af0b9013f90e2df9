theorem f_bl (v : Int32) : (f_R_isBlank v = 0 ↔ bl v = false) := by
  unfold f_R_isBlank bl
  by_cases h : v = 32
  · simp [h]
  · by_cases h2 : v = 10
    · simp [h2]
    · simp [h, h2]
theorem f_lt (v : Int32) : (f_R_isLetter v = 0 ↔ lt_ v = false) := by
  unfold f_R_isLetter lt_
  by_cases h : v < 97
  · simp [h]
  · by_cases h2 : 122 < v
    · simp [h, h2]
    · simp [h, h2]
theorem f_di (v : Int32) : (f_R_isDigit v = 0 ↔ di v = false) := by
  unfold f_R_isDigit di
  by_cases h : v < 48
  · simp [h]
  · by_cases h2 : 57 < v
    · simp [h, h2]
    · simp [h, h2]
set_option maxRecDepth 4000 in
theorem f_sg (v : Int32) : f_R_signOf v = zi (sgT v) := by
  unfold f_R_signOf sgT
  by_cases h1 : v = 40
  · subst h1; rfl
  by_cases h2 : v = 41
  · subst h2; rfl
  by_cases h3 : v = 59
  · subst h3; rfl
  by_cases h4 : v = 43
  · subst h4; rfl
  by_cases h5 : v = 45
  · subst h5; rfl
  by_cases h6 : v = 42
  · subst h6; rfl
  by_cases h7 : v = 60
  · subst h7; rfl
  by_cases h8 : v = 61
  · subst h8; rfl
  simp only [h1, h2, h3, h4, h5, h6, h7, h8, if_false, ite_self]
  rfl
/-- the bytes lie in the class's tape -/
def By (I : zI) (b : Nat → Int32) (n : Nat) : Prop := I 39 1 = zi n ∧ ∀ k, k < n → I 44 k = b k
theorem num_loop {X : Nat × (Nat → Int32)} {d : Nat} {G : zG} (hS : S5 G) {b : Nat → Int32} {n p : Nat} (hn : n ≤ 160) :
    ∀ (m q : Nat) (I : zI), q + m = n → p ≤ q → By I b n → I 39 2 = zi p → I 39 3 = zi q → (q - p ≤ 4 → I 39 5 = zi (dval b p (q - p))) →
    ∃ I1 : zI, Ev X (d + 1) 20 7 [.ref 39, .int (zi (q - p))] [] G I (none, G, I1) ∧ I1 39 4 = (if run (fun k => di (b k)) m q - p ≤ 4 then 2 else 1) ∧ I1 39 3 = zi (run (fun k => di (b k)) m q) ∧ (run (fun k => di (b k)) m q - p ≤ 4 → I1 39 5 = zi (dval b p (run (fun k => di (b k)) m q - p))) ∧ (∀ c, c ≠ 39 → I1 c = I c) ∧ ∀ k, k ≠ 3 → k ≠ 4 → k ≠ 5 → I1 39 k = I 39 k := by
  intro m
  induction m with
  | zero =>
    intro q I hq hpq hB h2 h3 hv
    obtain rfl : q = n := by omega
    have h1 := hB.1
    show ∃ I1 : zI, _ ∧ I1 39 4 = (if q - p ≤ 4 then 2 else 1) ∧ I1 39 3 = zi q ∧ (q - p ≤ 4 → I1 39 5 = zi (dval b p (q - p))) ∧ _ ∧ _
    have le : zi q ≤ zi q := Int32.le_refl _
    by_cases h160 : (160 : Int32) ≤ zi (q - p)
    · by_cases h4 : q - p ≤ 4
      · have h4' : zi q - zi p ≤ 4 := by rw [zi_sub hpq]; exact (zi_le (b := 4) (by omega) (by omega)).2 h4
        refine ⟨z_up I 39 4 2, w5_R_readNumber_7 _ hS ?_, by rw [up_same, if_pos h4], by rw [up_place (by decide)]; exact h3, fun h => by rw [up_place (by decide)]; exact hv h, fun c h => up_cell h, fun k h1 h2 h3 => up_place h2⟩
        rw [h3, h2, h1]
        exact ⟨fun _ => ⟨fun _ => fun I3_ e1 => (by subst e1; exact rfl), fun h => absurd h4' h⟩, fun h => absurd h160 h⟩
      · have h4' : ¬ zi q - zi p ≤ 4 := by rw [zi_sub hpq]; exact fun e => h4 ((zi_le (b := 4) (by omega) (by omega)).1 e)
        refine ⟨z_up I 39 4 1, w5_R_readNumber_7 _ hS ?_, by rw [up_same, if_neg h4], by rw [up_place (by decide)]; exact h3, fun h => absurd h h4, fun c h => up_cell h, fun k h1 h2 h3 => up_place h2⟩
        rw [h3, h2, h1]
        exact ⟨fun _ => ⟨fun h => absurd h h4', fun _ => fun I4_ e1 => (by subst e1; exact rfl)⟩, fun h => absurd h160 h⟩
    · by_cases h4 : q - p ≤ 4
      · have h4' : zi q - zi p ≤ 4 := by rw [zi_sub hpq]; exact (zi_le (b := 4) (by omega) (by omega)).2 h4
        refine ⟨z_up I 39 4 2, w5_R_readNumber_7 _ hS ?_, by rw [up_same, if_pos h4], by rw [up_place (by decide)]; exact h3, fun h => by rw [up_place (by decide)]; exact hv h, fun c h => up_cell h, fun k h1 h2 h3 => up_place h2⟩
        rw [h3, h2, h1]
        exact ⟨fun h => absurd h h160, fun _ => ⟨fun _ => ⟨fun _ => fun I7_ e1 => (by subst e1; exact rfl), fun h => absurd h4' h⟩, fun h => absurd le h⟩⟩
      · have h4' : ¬ zi q - zi p ≤ 4 := by rw [zi_sub hpq]; exact fun e => h4 ((zi_le (b := 4) (by omega) (by omega)).1 e)
        refine ⟨z_up I 39 4 1, w5_R_readNumber_7 _ hS ?_, by rw [up_same, if_neg h4], by rw [up_place (by decide)]; exact h3, fun h => absurd h h4, fun c h => up_cell h, fun k h1 h2 h3 => up_place h2⟩
        rw [h3, h2, h1]
        exact ⟨fun h => absurd h h160, fun _ => ⟨fun _ => ⟨fun h => absurd h h4', fun _ => fun I8_ e1 => (by subst e1; exact rfl)⟩, fun h => absurd le h⟩⟩
  | succ m ih =>
    intro q I hq hpq hB h2 h3 hv
    have h1 := hB.1
    have n160 : ¬ (160 : Int32) ≤ zi (q - p) := fun e => absurd ((zi_le (a := 160) (by omega) (by omega)).1 e) (by omega)
    have nle : ¬ zi n ≤ zi q := fun e => absurd ((zi_le (by omega) (by omega)).1 e) (by omega)
    have ebq : I 44 q = b q := hB.2 q (by omega)
    by_cases hd : di (b q) = true
    · rw [show run (fun k => di (b k)) (m + 1) q = run (fun k => di (b k)) m (q + 1) from if_pos hd]
      obtain ⟨v1, v2, v3⟩ := di_v hd
      have nd : ¬ f_R_isDigit (b q) = 0 := fun e => by rw [(f_di _).1 e] at hd; cases hd
      obtain ⟨I2, hI2⟩ : ∃ I2 : zI, I2 = z_up (z_up I 39 5 (I 39 5 * 10 + b q - 48)) 39 3 (zi (q + 1)) := ⟨_, rfl⟩
      obtain ⟨I1, k1, k2, k3, k4, k5, k6⟩ := ih (q + 1) I2 (by omega) (by omega) ⟨by rw [hI2, up_place (by decide), up_place (by decide)]; exact h1, fun k hk => by rw [hI2, up_cell (by decide), up_cell (by decide)]; exact hB.2 k hk⟩ (by rw [hI2, up_place (by decide), up_place (by decide)]; exact h2) (by rw [hI2, up_same]) (fun h => by
        rw [hI2, up_place (by decide), up_same, hv (by omega), v3, show q + 1 - p = (q - p) + 1 by omega]
        show zi _ * zi 10 + zi _ - zi 48 = _
        rw [zi_mul, zi_add, zi_sub (by omega), dval, show p + (q - p) = q by omega]
        exact congrArg zi (by omega))
      refine ⟨I1, w5_R_readNumber_7 _ hS ?_, k2, k3, k4, fun c h => by rw [k5 c h, hI2, up_cell h, up_cell h], fun k a1 a2 a3 => by rw [k6 k a1 a2 a3, hI2, up_place a1, up_place a3]⟩
      rw [h3, h1, zi_nat (show q < _ by omega), ebq]
      refine ⟨fun h => absurd h n160, fun _ => ⟨fun h => absurd h nle, fun _ => ⟨zi_inr (by omega) (by omega), fun h => absurd h nd, fun _ => ⟨zi_inr (by omega) (by omega), fun A g A2 g2 y hy => ?_⟩⟩⟩⟩
      have e3 : A 39 3 = zi q := by rw [g, up_place (by decide)]; exact h3
      rw [e3, zi1 q] at g2
      obtain rfl : A2 = I2 := by rw [g2, g, hI2]
      rw [hy, zi1 (q - p), show q - p + 1 = q + 1 - p by omega]; exact k1
    · rw [show run (fun k => di (b k)) (m + 1) q = q from if_neg hd]
      have nd : f_R_isDigit (b q) = 0 := (f_di _).2 (by simpa using hd)
      have ebq2 : f_R_isDigit (I 44 q) = 0 := by rw [ebq]; exact nd
      by_cases h4 : q - p ≤ 4
      · have h4' : zi q - zi p ≤ 4 := by rw [zi_sub hpq]; exact (zi_le (b := 4) (by omega) (by omega)).2 h4
        refine ⟨z_up I 39 4 2, w5_R_readNumber_7 _ hS ?_, by rw [up_same, if_pos h4], by rw [up_place (by decide)]; exact h3, fun h => by rw [up_place (by decide)]; exact hv h, fun c h => up_cell h, fun k h1 h2 h3 => up_place h2⟩
        rw [h3, h2, h1, zi_nat (show q < _ by omega)]
        exact ⟨fun h => absurd h n160, fun _ => ⟨fun h => absurd h nle, fun _ => ⟨zi_inr (by omega) (by omega), ⟨fun _ => ⟨fun _ => fun I12_ e1 => (by subst e1; exact rfl), fun h => absurd h4' h⟩, fun h => absurd ebq2 h⟩⟩⟩⟩
      · have h4' : ¬ zi q - zi p ≤ 4 := by rw [zi_sub hpq]; exact fun e => h4 ((zi_le (b := 4) (by omega) (by omega)).1 e)
        refine ⟨z_up I 39 4 1, w5_R_readNumber_7 _ hS ?_, by rw [up_same, if_neg h4], by rw [up_place (by decide)]; exact h3, fun h => absurd h h4, fun c h => up_cell h, fun k h1 h2 h3 => up_place h2⟩
        rw [h3, h2, h1, zi_nat (show q < _ by omega)]
        exact ⟨fun h => absurd h n160, fun _ => ⟨fun h => absurd h nle, fun _ => ⟨zi_inr (by omega) (by omega), ⟨fun _ => ⟨fun h => absurd h h4', fun _ => fun I13_ e1 => (by subst e1; exact rfl)⟩, fun h => absurd ebq2 h⟩⟩⟩⟩
theorem c_word {X : Nat × (Nat → Int32)} {d : Nat} {G : zG} (hS : S5 G) {I : zI} {b : Nat → Int32} {p L : Nat} (hp : I 39 2 = zi p) (hb : I 39 3 = zi (p + L)) (hn : p + L ≤ 160) (hB : ∀ c, c < L → I 44 (p + c) = b (p + c)) :
    Cv X (d + 5) 17 [.ref 39] G I (some (.int (zi (if wj b p L = 0 then 1 else wj b p L + 10))), G, I) := by
  have A1 : spw I p L 1 → spB b p L 1 = true := fun h => decide_eq_true ⟨h.1, fun c hc => (hB c hc).symm.trans (h.2 c hc)⟩
  have B1 : ¬ spw I p L 1 → spB b p L 1 = false := fun h => decide_eq_false (fun e => h ⟨e.1, fun c hc => (hB c hc).trans (e.2 c hc)⟩)
  have A2 : spw I p L 2 → spB b p L 2 = true := fun h => decide_eq_true ⟨h.1, fun c hc => (hB c hc).symm.trans (h.2 c hc)⟩
  have B2 : ¬ spw I p L 2 → spB b p L 2 = false := fun h => decide_eq_false (fun e => h ⟨e.1, fun c hc => (hB c hc).trans (e.2 c hc)⟩)
  have A3 : spw I p L 3 → spB b p L 3 = true := fun h => decide_eq_true ⟨h.1, fun c hc => (hB c hc).symm.trans (h.2 c hc)⟩
  have B3 : ¬ spw I p L 3 → spB b p L 3 = false := fun h => decide_eq_false (fun e => h ⟨e.1, fun c hc => (hB c hc).trans (e.2 c hc)⟩)
  have A4 : spw I p L 4 → spB b p L 4 = true := fun h => decide_eq_true ⟨h.1, fun c hc => (hB c hc).symm.trans (h.2 c hc)⟩
  have B4 : ¬ spw I p L 4 → spB b p L 4 = false := fun h => decide_eq_false (fun e => h ⟨e.1, fun c hc => (hB c hc).trans (e.2 c hc)⟩)
  have A5 : spw I p L 5 → spB b p L 5 = true := fun h => decide_eq_true ⟨h.1, fun c hc => (hB c hc).symm.trans (h.2 c hc)⟩
  have B5 : ¬ spw I p L 5 → spB b p L 5 = false := fun h => decide_eq_false (fun e => h ⟨e.1, fun c hc => (hB c hc).trans (e.2 c hc)⟩)
  have A6 : spw I p L 6 → spB b p L 6 = true := fun h => decide_eq_true ⟨h.1, fun c hc => (hB c hc).symm.trans (h.2 c hc)⟩
  have B6 : ¬ spw I p L 6 → spB b p L 6 = false := fun h => decide_eq_false (fun e => h ⟨e.1, fun c hc => (hB c hc).trans (e.2 c hc)⟩)
  have A7 : spw I p L 7 → spB b p L 7 = true := fun h => decide_eq_true ⟨h.1, fun c hc => (hB c hc).symm.trans (h.2 c hc)⟩
  have B7 : ¬ spw I p L 7 → spB b p L 7 = false := fun h => decide_eq_false (fun e => h ⟨e.1, fun c hc => (hB c hc).trans (e.2 c hc)⟩)
  have A8 : spw I p L 8 → spB b p L 8 = true := fun h => decide_eq_true ⟨h.1, fun c hc => (hB c hc).symm.trans (h.2 c hc)⟩
  have B8 : ¬ spw I p L 8 → spB b p L 8 = false := fun h => decide_eq_false (fun e => h ⟨e.1, fun c hc => (hB c hc).trans (e.2 c hc)⟩)
  have A9 : spw I p L 9 → spB b p L 9 = true := fun h => decide_eq_true ⟨h.1, fun c hc => (hB c hc).symm.trans (h.2 c hc)⟩
  have B9 : ¬ spw I p L 9 → spB b p L 9 = false := fun h => decide_eq_false (fun e => h ⟨e.1, fun c hc => (hB c hc).trans (e.2 c hc)⟩)
  have A10 : spw I p L 10 → spB b p L 10 = true := fun h => decide_eq_true ⟨h.1, fun c hc => (hB c hc).symm.trans (h.2 c hc)⟩
  have B10 : ¬ spw I p L 10 → spB b p L 10 = false := fun h => decide_eq_false (fun e => h ⟨e.1, fun c hc => (hB c hc).trans (e.2 c hc)⟩)
  have A11 : spw I p L 11 → spB b p L 11 = true := fun h => decide_eq_true ⟨h.1, fun c hc => (hB c hc).symm.trans (h.2 c hc)⟩
  have B11 : ¬ spw I p L 11 → spB b p L 11 = false := fun h => decide_eq_false (fun e => h ⟨e.1, fun c hc => (hB c hc).trans (e.2 c hc)⟩)
  have A12 : spw I p L 12 → spB b p L 12 = true := fun h => decide_eq_true ⟨h.1, fun c hc => (hB c hc).symm.trans (h.2 c hc)⟩
  have B12 : ¬ spw I p L 12 → spB b p L 12 = false := fun h => decide_eq_false (fun e => h ⟨e.1, fun c hc => (hB c hc).trans (e.2 c hc)⟩)
  obtain ⟨r1, hr1, c1⟩ := c_spells (X := X) (d := d) hS (S5r hS rfl) (I := I) (L := L) (j := 1) (by decide) hp hb hn
  obtain ⟨r2, hr2, c2⟩ := c_spells (X := X) (d := d) hS (S5r hS rfl) (I := I) (L := L) (j := 2) (by decide) hp hb hn
  obtain ⟨r3, hr3, c3⟩ := c_spells (X := X) (d := d) hS (S5r hS rfl) (I := I) (L := L) (j := 3) (by decide) hp hb hn
  obtain ⟨r4, hr4, c4⟩ := c_spells (X := X) (d := d) hS (S5r hS rfl) (I := I) (L := L) (j := 4) (by decide) hp hb hn
  obtain ⟨r5, hr5, c5⟩ := c_spells (X := X) (d := d) hS (S5r hS rfl) (I := I) (L := L) (j := 5) (by decide) hp hb hn
  obtain ⟨r6, hr6, c6⟩ := c_spells (X := X) (d := d) hS (S5r hS rfl) (I := I) (L := L) (j := 6) (by decide) hp hb hn
  obtain ⟨r7, hr7, c7⟩ := c_spells (X := X) (d := d) hS (S5r hS rfl) (I := I) (L := L) (j := 7) (by decide) hp hb hn
  obtain ⟨r8, hr8, c8⟩ := c_spells (X := X) (d := d) hS (S5r hS rfl) (I := I) (L := L) (j := 8) (by decide) hp hb hn
  obtain ⟨r9, hr9, c9⟩ := c_spells (X := X) (d := d) hS (S5r hS rfl) (I := I) (L := L) (j := 9) (by decide) hp hb hn
  obtain ⟨r10, hr10, c10⟩ := c_spells (X := X) (d := d) hS (S5r hS rfl) (I := I) (L := L) (j := 10) (by decide) hp hb hn
  obtain ⟨r11, hr11, c11⟩ := c_spells (X := X) (d := d) hS (S5r hS rfl) (I := I) (L := L) (j := 11) (by decide) hp hb hn
  obtain ⟨r12, hr12, c12⟩ := c_spells (X := X) (d := d) hS (S5r hS rfl) (I := I) (L := L) (j := 12) (by decide) hp hb hn
  rcases hr1 with ⟨rfl, s1⟩ | ⟨rfl, s1⟩
  · have w : wj b p L = 1 := by
      unfold wj
      simp only [wjf, A1 s1, Nat.reduceSub, if_true, if_false, Bool.false_eq_true]
    rw [w]
    exact Cv.of hq_17 (z_le rfl) rfl (w5_R_wordHere hS ⟨1, I, c1, ⟨fun h => absurd h (by decide), fun _ => rfl⟩⟩)
  rcases hr2 with ⟨rfl, s2⟩ | ⟨rfl, s2⟩
  · have w : wj b p L = 2 := by
      unfold wj
      simp only [wjf, B1 s1, A2 s2, Nat.reduceSub, if_true, if_false, Bool.false_eq_true]
    rw [w]
    exact Cv.of hq_17 (z_le rfl) rfl (w5_R_wordHere hS ⟨0, I, c1, ⟨fun _ => ⟨1, I, c2, ⟨fun h => absurd h (by decide), fun _ => rfl⟩⟩, fun h => absurd rfl h⟩⟩)
  rcases hr3 with ⟨rfl, s3⟩ | ⟨rfl, s3⟩
  · have w : wj b p L = 3 := by
      unfold wj
      simp only [wjf, B1 s1, B2 s2, A3 s3, Nat.reduceSub, if_true, if_false, Bool.false_eq_true]
    rw [w]
    exact Cv.of hq_17 (z_le rfl) rfl (w5_R_wordHere hS ⟨0, I, c1, ⟨fun _ => ⟨0, I, c2, ⟨fun _ => ⟨1, I, c3, ⟨fun h => absurd h (by decide), fun _ => rfl⟩⟩, fun h => absurd rfl h⟩⟩, fun h => absurd rfl h⟩⟩)
  rcases hr4 with ⟨rfl, s4⟩ | ⟨rfl, s4⟩
  · have w : wj b p L = 4 := by
      unfold wj
      simp only [wjf, B1 s1, B2 s2, B3 s3, A4 s4, Nat.reduceSub, if_true, if_false, Bool.false_eq_true]
    rw [w]
    exact Cv.of hq_17 (z_le rfl) rfl (w5_R_wordHere hS ⟨0, I, c1, ⟨fun _ => ⟨0, I, c2, ⟨fun _ => ⟨0, I, c3, ⟨fun _ => ⟨1, I, c4, ⟨fun h => absurd h (by decide), fun _ => rfl⟩⟩, fun h => absurd rfl h⟩⟩, fun h => absurd rfl h⟩⟩, fun h => absurd rfl h⟩⟩)
  rcases hr5 with ⟨rfl, s5⟩ | ⟨rfl, s5⟩
  · have w : wj b p L = 5 := by
      unfold wj
      simp only [wjf, B1 s1, B2 s2, B3 s3, B4 s4, A5 s5, Nat.reduceSub, if_true, if_false, Bool.false_eq_true]
    rw [w]
    exact Cv.of hq_17 (z_le rfl) rfl (w5_R_wordHere hS ⟨0, I, c1, ⟨fun _ => ⟨0, I, c2, ⟨fun _ => ⟨0, I, c3, ⟨fun _ => ⟨0, I, c4, ⟨fun _ => ⟨1, I, c5, ⟨fun h => absurd h (by decide), fun _ => rfl⟩⟩, fun h => absurd rfl h⟩⟩, fun h => absurd rfl h⟩⟩, fun h => absurd rfl h⟩⟩, fun h => absurd rfl h⟩⟩)
  rcases hr6 with ⟨rfl, s6⟩ | ⟨rfl, s6⟩
  · have w : wj b p L = 6 := by
      unfold wj
      simp only [wjf, B1 s1, B2 s2, B3 s3, B4 s4, B5 s5, A6 s6, Nat.reduceSub, if_true, if_false, Bool.false_eq_true]
    rw [w]
    exact Cv.of hq_17 (z_le rfl) rfl (w5_R_wordHere hS ⟨0, I, c1, ⟨fun _ => ⟨0, I, c2, ⟨fun _ => ⟨0, I, c3, ⟨fun _ => ⟨0, I, c4, ⟨fun _ => ⟨0, I, c5, ⟨fun _ => ⟨1, I, c6, ⟨fun h => absurd h (by decide), fun _ => rfl⟩⟩, fun h => absurd rfl h⟩⟩, fun h => absurd rfl h⟩⟩, fun h => absurd rfl h⟩⟩, fun h => absurd rfl h⟩⟩, fun h => absurd rfl h⟩⟩)
  rcases hr7 with ⟨rfl, s7⟩ | ⟨rfl, s7⟩
  · have w : wj b p L = 7 := by
      unfold wj
      simp only [wjf, B1 s1, B2 s2, B3 s3, B4 s4, B5 s5, B6 s6, A7 s7, Nat.reduceSub, if_true, if_false, Bool.false_eq_true]
    rw [w]
    exact Cv.of hq_17 (z_le rfl) rfl (w5_R_wordHere hS ⟨0, I, c1, ⟨fun _ => ⟨0, I, c2, ⟨fun _ => ⟨0, I, c3, ⟨fun _ => ⟨0, I, c4, ⟨fun _ => ⟨0, I, c5, ⟨fun _ => ⟨0, I, c6, ⟨fun _ => ⟨1, I, c7, ⟨fun h => absurd h (by decide), fun _ => rfl⟩⟩, fun h => absurd rfl h⟩⟩, fun h => absurd rfl h⟩⟩, fun h => absurd rfl h⟩⟩, fun h => absurd rfl h⟩⟩, fun h => absurd rfl h⟩⟩, fun h => absurd rfl h⟩⟩)
  rcases hr8 with ⟨rfl, s8⟩ | ⟨rfl, s8⟩
  · have w : wj b p L = 8 := by
      unfold wj
      simp only [wjf, B1 s1, B2 s2, B3 s3, B4 s4, B5 s5, B6 s6, B7 s7, A8 s8, Nat.reduceSub, if_true, if_false, Bool.false_eq_true]
    rw [w]
    exact Cv.of hq_17 (z_le rfl) rfl (w5_R_wordHere hS ⟨0, I, c1, ⟨fun _ => ⟨0, I, c2, ⟨fun _ => ⟨0, I, c3, ⟨fun _ => ⟨0, I, c4, ⟨fun _ => ⟨0, I, c5, ⟨fun _ => ⟨0, I, c6, ⟨fun _ => ⟨0, I, c7, ⟨fun _ => ⟨1, I, c8, ⟨fun h => absurd h (by decide), fun _ => rfl⟩⟩, fun h => absurd rfl h⟩⟩, fun h => absurd rfl h⟩⟩, fun h => absurd rfl h⟩⟩, fun h => absurd rfl h⟩⟩, fun h => absurd rfl h⟩⟩, fun h => absurd rfl h⟩⟩, fun h => absurd rfl h⟩⟩)
  rcases hr9 with ⟨rfl, s9⟩ | ⟨rfl, s9⟩
  · have w : wj b p L = 9 := by
      unfold wj
      simp only [wjf, B1 s1, B2 s2, B3 s3, B4 s4, B5 s5, B6 s6, B7 s7, B8 s8, A9 s9, Nat.reduceSub, if_true, if_false, Bool.false_eq_true]
    rw [w]
    exact Cv.of hq_17 (z_le rfl) rfl (w5_R_wordHere hS ⟨0, I, c1, ⟨fun _ => ⟨0, I, c2, ⟨fun _ => ⟨0, I, c3, ⟨fun _ => ⟨0, I, c4, ⟨fun _ => ⟨0, I, c5, ⟨fun _ => ⟨0, I, c6, ⟨fun _ => ⟨0, I, c7, ⟨fun _ => ⟨0, I, c8, ⟨fun _ => ⟨1, I, c9, ⟨fun h => absurd h (by decide), fun _ => rfl⟩⟩, fun h => absurd rfl h⟩⟩, fun h => absurd rfl h⟩⟩, fun h => absurd rfl h⟩⟩, fun h => absurd rfl h⟩⟩, fun h => absurd rfl h⟩⟩, fun h => absurd rfl h⟩⟩, fun h => absurd rfl h⟩⟩, fun h => absurd rfl h⟩⟩)
  rcases hr10 with ⟨rfl, s10⟩ | ⟨rfl, s10⟩
  · have w : wj b p L = 10 := by
      unfold wj
      simp only [wjf, B1 s1, B2 s2, B3 s3, B4 s4, B5 s5, B6 s6, B7 s7, B8 s8, B9 s9, A10 s10, Nat.reduceSub, if_true, if_false, Bool.false_eq_true]
    rw [w]
    exact Cv.of hq_17 (z_le rfl) rfl (w5_R_wordHere hS ⟨0, I, c1, ⟨fun _ => ⟨0, I, c2, ⟨fun _ => ⟨0, I, c3, ⟨fun _ => ⟨0, I, c4, ⟨fun _ => ⟨0, I, c5, ⟨fun _ => ⟨0, I, c6, ⟨fun _ => ⟨0, I, c7, ⟨fun _ => ⟨0, I, c8, ⟨fun _ => ⟨0, I, c9, ⟨fun _ => ⟨1, I, c10, ⟨fun h => absurd h (by decide), fun _ => rfl⟩⟩, fun h => absurd rfl h⟩⟩, fun h => absurd rfl h⟩⟩, fun h => absurd rfl h⟩⟩, fun h => absurd rfl h⟩⟩, fun h => absurd rfl h⟩⟩, fun h => absurd rfl h⟩⟩, fun h => absurd rfl h⟩⟩, fun h => absurd rfl h⟩⟩, fun h => absurd rfl h⟩⟩)
  rcases hr11 with ⟨rfl, s11⟩ | ⟨rfl, s11⟩
  · have w : wj b p L = 11 := by
      unfold wj
      simp only [wjf, B1 s1, B2 s2, B3 s3, B4 s4, B5 s5, B6 s6, B7 s7, B8 s8, B9 s9, B10 s10, A11 s11, Nat.reduceSub, if_true, if_false, Bool.false_eq_true]
    rw [w]
    exact Cv.of hq_17 (z_le rfl) rfl (w5_R_wordHere hS ⟨0, I, c1, ⟨fun _ => ⟨0, I, c2, ⟨fun _ => ⟨0, I, c3, ⟨fun _ => ⟨0, I, c4, ⟨fun _ => ⟨0, I, c5, ⟨fun _ => ⟨0, I, c6, ⟨fun _ => ⟨0, I, c7, ⟨fun _ => ⟨0, I, c8, ⟨fun _ => ⟨0, I, c9, ⟨fun _ => ⟨0, I, c10, ⟨fun _ => ⟨1, I, c11, ⟨fun h => absurd h (by decide), fun _ => rfl⟩⟩, fun h => absurd rfl h⟩⟩, fun h => absurd rfl h⟩⟩, fun h => absurd rfl h⟩⟩, fun h => absurd rfl h⟩⟩, fun h => absurd rfl h⟩⟩, fun h => absurd rfl h⟩⟩, fun h => absurd rfl h⟩⟩, fun h => absurd rfl h⟩⟩, fun h => absurd rfl h⟩⟩, fun h => absurd rfl h⟩⟩)
  rcases hr12 with ⟨rfl, s12⟩ | ⟨rfl, s12⟩
  · have w : wj b p L = 12 := by
      unfold wj
      simp only [wjf, B1 s1, B2 s2, B3 s3, B4 s4, B5 s5, B6 s6, B7 s7, B8 s8, B9 s9, B10 s10, B11 s11, A12 s12, Nat.reduceSub, if_true, if_false, Bool.false_eq_true]
    rw [w]
    exact Cv.of hq_17 (z_le rfl) rfl (w5_R_wordHere hS ⟨0, I, c1, ⟨fun _ => ⟨0, I, c2, ⟨fun _ => ⟨0, I, c3, ⟨fun _ => ⟨0, I, c4, ⟨fun _ => ⟨0, I, c5, ⟨fun _ => ⟨0, I, c6, ⟨fun _ => ⟨0, I, c7, ⟨fun _ => ⟨0, I, c8, ⟨fun _ => ⟨0, I, c9, ⟨fun _ => ⟨0, I, c10, ⟨fun _ => ⟨0, I, c11, ⟨fun _ => ⟨1, I, c12, ⟨fun h => absurd h (by decide), fun _ => rfl⟩⟩, fun h => absurd rfl h⟩⟩, fun h => absurd rfl h⟩⟩, fun h => absurd rfl h⟩⟩, fun h => absurd rfl h⟩⟩, fun h => absurd rfl h⟩⟩, fun h => absurd rfl h⟩⟩, fun h => absurd rfl h⟩⟩, fun h => absurd rfl h⟩⟩, fun h => absurd rfl h⟩⟩, fun h => absurd rfl h⟩⟩, fun h => absurd rfl h⟩⟩)
  have w : wj b p L = 0 := by
    unfold wj
    simp only [wjf, B1 s1, B2 s2, B3 s3, B4 s4, B5 s5, B6 s6, B7 s7, B8 s8, B9 s9, B10 s10, B11 s11, B12 s12, Nat.reduceSub, if_true, if_false, Bool.false_eq_true]
  rw [w]
  exact Cv.of hq_17 (z_le rfl) rfl (w5_R_wordHere hS ⟨0, I, c1, ⟨fun _ => ⟨0, I, c2, ⟨fun _ => ⟨0, I, c3, ⟨fun _ => ⟨0, I, c4, ⟨fun _ => ⟨0, I, c5, ⟨fun _ => ⟨0, I, c6, ⟨fun _ => ⟨0, I, c7, ⟨fun _ => ⟨0, I, c8, ⟨fun _ => ⟨0, I, c9, ⟨fun _ => ⟨0, I, c10, ⟨fun _ => ⟨0, I, c11, ⟨fun _ => ⟨0, I, c12, ⟨fun _ => rfl, fun h => absurd rfl h⟩⟩, fun h => absurd rfl h⟩⟩, fun h => absurd rfl h⟩⟩, fun h => absurd rfl h⟩⟩, fun h => absurd rfl h⟩⟩, fun h => absurd rfl h⟩⟩, fun h => absurd rfl h⟩⟩, fun h => absurd rfl h⟩⟩, fun h => absurd rfl h⟩⟩, fun h => absurd rfl h⟩⟩, fun h => absurd rfl h⟩⟩, fun h => absurd rfl h⟩⟩)
theorem let_loop {X : Nat × (Nat → Int32)} {d : Nat} {G : zG} (hS : S5 G) {b : Nat → Int32} {n p : Nat} (hn : n ≤ 160) :
    ∀ (m q : Nat) (I : zI), q + m = n → p ≤ q → By I b n → I 39 2 = zi p → I 39 3 = zi q →
    ∃ I1 : zI, Ev X (d + 6) 14 103 [.ref 39, .int (zi (q - p))] [] G I (none, G, I1) ∧ I1 39 4 = zi (if wj b p (run (fun k => lt_ (b k)) m q - p) = 0 then 1 else wj b p (run (fun k => lt_ (b k)) m q - p) + 10) ∧ I1 39 3 = zi (run (fun k => lt_ (b k)) m q) ∧ (∀ c, c ≠ 39 → I1 c = I c) ∧ ∀ k, k ≠ 3 → k ≠ 4 → I1 39 k = I 39 k := by
  have stop : ∀ (q : Nat) (I : zI), p ≤ q → q ≤ n → By I b n → I 39 2 = zi p → I 39 3 = zi q → Cv X (d + 5) 17 [.ref 39] G I (some (.int (zi (if wj b p (q - p) = 0 then 1 else wj b p (q - p) + 10))), G, I) := fun q I hpq hqn hB h2 h3 => c_word hS h2 (by rw [h3]; exact congrArg zi (by omega)) (by omega) (fun c hc => hB.2 _ (by omega))
  intro m
  induction m with
  | zero =>
    intro q I hq hpq hB h2 h3
    obtain rfl : q = n := by omega
    have h1 := hB.1
    have le : I 39 1 ≤ I 39 3 := by rw [h1, h3]; exact Int32.le_refl _
    have cw := stop q I hpq (Nat.le_refl _) hB h2 h3
    refine ⟨z_up I 39 4 (zi (if wj b p (q - p) = 0 then 1 else wj b p (q - p) + 10)), w5_R_advance_103 _ hS ?_, up_same, by rw [up_place (by decide)]; exact h3, fun c h => up_cell h, fun k _ h => up_place h⟩
    exact ⟨fun _ => ⟨_, I, cw, fun I5 h5 => by rw [h5]⟩, fun _ => ⟨fun _ => ⟨_, I, cw, fun I5 h5 => by rw [h5]⟩, fun h => absurd le h⟩⟩
  | succ m ih =>
    intro q I hq hpq hB h2 h3
    have h1 := hB.1
    have n160 : ¬ (160 : Int32) ≤ zi (q - p) := fun e => absurd ((zi_le (a := 160) (by omega) (by omega)).1 e) (by omega)
    have nle : ¬ I 39 1 ≤ I 39 3 := by rw [h1, h3]; exact fun e => absurd ((zi_le (by omega) (by omega)).1 e) (by omega)
    have ebq : I 44 q = b q := hB.2 q (by omega)
    by_cases hd : lt_ (b q) = true
    · rw [show run (fun k => lt_ (b k)) (m + 1) q = run (fun k => lt_ (b k)) m (q + 1) from if_pos hd]
      have nd : ¬ f_R_isLetter (b q) = 0 := fun e => by rw [(f_lt _).1 e] at hd; cases hd
      obtain ⟨I2, hI2⟩ : ∃ I2 : zI, I2 = z_up I 39 3 (zi (q + 1)) := ⟨_, rfl⟩
      obtain ⟨I1, k1, k2, k3, k5, k6⟩ := ih (q + 1) I2 (by omega) (by omega) ⟨by rw [hI2, up_place (by decide)]; exact h1, fun k hk => by rw [hI2, up_cell (by decide)]; exact hB.2 k hk⟩ (by rw [hI2, up_place (by decide)]; exact h2) (by rw [hI2, up_same])
      refine ⟨I1, w5_R_advance_103 _ hS ?_, k2, k3, fun c h => by rw [k5 c h, hI2, up_cell h], fun k a1 a2 => by rw [k6 k a1 a2, hI2, up_place a1]⟩
      refine ⟨fun h => absurd h n160, fun _ => ⟨fun h => absurd h nle, fun _ => ?_⟩⟩
      rw [h3, zi_nat (show q < _ by omega), ebq, zi1 q]
      refine ⟨zi_inr (by omega) (by omega), fun h => absurd h nd, fun _ A g y hy => ?_⟩
      obtain rfl : A = I2 := by rw [g, hI2]
      rw [hy, zi1 (q - p), show q - p + 1 = q + 1 - p by omega]; exact k1
    · rw [show run (fun k => lt_ (b k)) (m + 1) q = q from if_neg hd]
      have nd : f_R_isLetter (b q) = 0 := (f_lt _).2 (by simpa using hd)
      have cw := stop q I hpq (by omega) hB h2 h3
      refine ⟨z_up I 39 4 (zi (if wj b p (q - p) = 0 then 1 else wj b p (q - p) + 10)), w5_R_advance_103 _ hS ?_, up_same, by rw [up_place (by decide)]; exact h3, fun c h => up_cell h, fun k _ h => up_place h⟩
      refine ⟨fun h => absurd h n160, fun _ => ⟨fun h => absurd h nle, fun _ => ?_⟩⟩
      rw [h3, zi_nat (show q < _ by omega), ebq]
      exact ⟨zi_inr (by omega) (by omega), fun _ => ⟨_, I, cw, fun I5 h5 => by rw [h5]⟩, fun h => absurd nd h⟩
/-- behind the blanks -/
theorem adv_tail {X : Nat × (Nat → Int32)} {d : Nat} {G : zG} (hS : S5 G) {b : Nat → Int32} {n i : Nat} (hn : n ≤ 160) (hi : i ≤ n) {I : zI} (hB : By I b n) (h2 : I 39 2 = zi (tkp b n i)) :
    ∃ I1 : zI, ((∀ I2 : zI, I2 = z_up I 39 3 (I 39 2) → ((I2 39 2) < (I2 39 1) → z_inr (I2 39 2) 160 ∧ (((f_R_isLetter (I2 44 (I2 39 2).toNatClampNeg)) = 0 → z_inr (I2 39 2) 160 ∧ (((f_R_isDigit (I2 44 (I2 39 2).toNatClampNeg)) = 0 → z_inr (I2 39 2) 160 ∧ ((∀ I9 : zI, I9 = z_up I2 39 4 (f_R_signOf (I2 44 (I2 39 2).toNatClampNeg)) → (∀ I10 : zI, I10 = z_up I9 39 3 ((I9 39 2) + 1) → ((none : Option Value), G, I1) = (none, G, I10))))) ∧ (¬ (f_R_isDigit (I2 44 (I2 39 2).toNatClampNeg)) = 0 → ∃ (I11 : zI), Cv X (d + 5) 20 [.ref 39] G I2 (none, G, I11) ∧ (((none : Option Value), G, I1) = (none, G, I11))))) ∧ (¬ (f_R_isLetter (I2 44 (I2 39 2).toNatClampNeg)) = 0 → Ev X (d + 6) 14 103 [.ref 39, .int 0] [] G I2 (none, G, I1)))) ∧ (¬ (I2 39 2) < (I2 39 1) → (∀ I13 : zI, I13 = z_up I2 39 4 0 → ((none : Option Value), G, I1) = (none, G, I13))))) ∧ I1 39 2 = zi (tkp b n i) ∧ I1 39 3 = zi (tke b n i) ∧ I1 39 4 = zi (tkt b n i) ∧ (tkt b n i = 2 → I1 39 5 = zi (tkv b n i)) ∧ (∀ c, c ≠ 39 → I1 c = I c) ∧ ∀ k, k ≠ 2 → k ≠ 3 → k ≠ 4 → k ≠ 5 → I1 39 k = I 39 k := by
  have h1 := hB.1
  obtain ⟨p, hp⟩ : ∃ p, p = tkp b n i := ⟨_, rfl⟩
  have hpl := (tkp_le (b := b) hi).2
  rw [← hp] at h2 hpl
  obtain ⟨I2, hI2⟩ : ∃ I2 : zI, I2 = z_up I 39 3 (zi p) := ⟨_, rfl⟩
  have a1 : I2 39 1 = zi n := by rw [hI2, up_place (by decide)]; exact h1
  have a2 : I2 39 2 = zi p := by rw [hI2, up_place (by decide)]; exact h2
  have a3 : I2 39 3 = zi p := by rw [hI2, up_same]
  have hB2 : By I2 b n := ⟨a1, fun k hk => by rw [hI2, up_cell (by decide)]; exact hB.2 k hk⟩
  have ap : ∀ k, k ≠ 3 → I2 39 k = I 39 k := fun k hk => by rw [hI2, up_place hk]
  have ac : ∀ c, c ≠ 39 → I2 c = I c := fun c hc => by rw [hI2, up_cell hc]
  have et : tkt b n i = if n ≤ p then 0 else if lt_ (b p) = true then (if wj b p (tke b n i - p) = 0 then 1 else wj b p (tke b n i - p) + 10) else if di (b p) = true then (if tke b n i - p ≤ 4 then 2 else 1) else sgT (b p) := by rw [hp]; rfl
  have ee : tke b n i = if n ≤ p then p else if lt_ (b p) = true then run (fun k => lt_ (b k)) (n - p) p else if di (b p) = true then run (fun k => di (b k)) (n - p) p else p + 1 := by rw [hp]; rfl
  by_cases hnp : n ≤ p
  · have nlt : ¬ zi p < zi n := fun e => absurd ((zi_lt (by omega) (by omega)).1 e) (by omega)
    rw [if_pos hnp] at et ee
    refine ⟨z_up I2 39 4 0, fun A g => ?_, by rw [up_place (by decide), a2, hp], by rw [up_place (by decide), a3, ee], by rw [up_same, et]; rfl, (fun h => by rw [et] at h; cases h), fun c h => by rw [up_cell h, ac c h], fun k _ k3 k4 _ => by rw [up_place k4, ap k k3]⟩
    obtain rfl : A = I2 := by rw [g, h2, hI2]
    rw [a1, a2]
    exact ⟨fun h => absurd h nlt, fun _ I13 h13 => by rw [h13]⟩
  rw [if_neg hnp] at et ee
  have plt : zi p < zi n := (zi_lt (by omega) (by omega)).2 (by omega)
  have ebp : I2 44 p = b p := hB2.2 p (by omega)
  by_cases hl : lt_ (b p) = true
  · rw [if_pos hl] at et ee
    have nl : ¬ f_R_isLetter (b p) = 0 := fun e => by rw [(f_lt _).1 e] at hl; cases hl
    obtain ⟨I1, k1, k2, k3, k5, k6⟩ := let_loop (X := X) (d := d) hS (b := b) (p := p) hn (n - p) p I2 (by omega) (Nat.le_refl _) hB2 a2 a3
    rw [Nat.sub_self] at k1
    rw [← ee] at k2 k3
    refine ⟨I1, fun A g => ?_, by rw [k6 2 (by decide) (by decide), a2, hp], k3, by rw [k2, et], fun h => ?_, fun c h => by rw [k5 c h, ac c h], fun k _ k3 k4 _ => by rw [k6 k k3 k4, ap k k3]⟩
    · obtain rfl : A = I2 := by rw [g, h2, hI2]
      rw [a1, a2, zi_nat (show p < _ by omega), ebp]
      exact ⟨fun _ => ⟨zi_inr (by omega) (by omega), fun h => absurd h nl, fun _ => k1⟩, fun h => absurd plt h⟩
    · rw [et] at h
      split at h <;> omega
  rw [if_neg hl] at et ee
  have yl : f_R_isLetter (b p) = 0 := (f_lt _).2 (by simpa using hl)
  by_cases hd : di (b p) = true
  · rw [if_pos hd] at et ee
    have nd : ¬ f_R_isDigit (b p) = 0 := fun e => by rw [(f_di _).1 e] at hd; cases hd
    obtain ⟨I3, hI3⟩ : ∃ I3 : zI, I3 = z_up I2 39 5 0 := ⟨_, rfl⟩
    obtain ⟨I1, k1, k2, k3, k4, k5, k6⟩ := num_loop (X := X) (d := d + 4) hS (b := b) (p := p) hn (n - p) p I3 (by omega) (Nat.le_refl _) ⟨by rw [hI3, up_place (by decide)]; exact a1, fun k hk => by rw [hI3, up_cell (by decide)]; exact hB2.2 k hk⟩ (by rw [hI3, up_place (by decide)]; exact a2) (by rw [hI3, up_place (by decide)]; exact a3) (fun _ => by rw [hI3, up_same, Nat.sub_self]; rfl)
    rw [Nat.sub_self] at k1
    rw [← ee] at k2 k3 k4
    have cn : Cv X (d + 5) 20 [.ref 39] G I2 (none, G, I1) := Cv.of hq_20 (z_le rfl) rfl (w5_R_readNumber hS fun A g => by
      obtain rfl : A = I3 := by rw [g, hI3]
      exact k1)
    refine ⟨I1, fun A g => ?_, by rw [k6 2 (by decide) (by decide) (by decide), hI3, up_place (by decide), a2, hp], k3, ?_, fun h => ?_, fun c h => by rw [k5 c h, hI3, up_cell h, ac c h], fun k k2 k3 k4 k5 => by rw [k6 k k3 k4 k5, hI3, up_place k5, ap k k3]⟩
    · obtain rfl : A = I2 := by rw [g, h2, hI2]
      rw [a1, a2, zi_nat (show p < _ by omega), ebp]
      exact ⟨fun _ => ⟨zi_inr (by omega) (by omega), fun _ => ⟨zi_inr (by omega) (by omega), fun h => absurd h nd, fun _ => ⟨I1, cn, rfl⟩⟩, fun h => absurd yl h⟩, fun h => absurd plt h⟩
    · rw [k2, et]
      by_cases h4 : tke b n i - p ≤ 4
      · rw [if_pos h4, if_pos h4]; rfl
      · rw [if_neg h4, if_neg h4]; rfl
    · rw [et] at h
      by_cases h4 : tke b n i - p ≤ 4
      · rw [k4 h4]; unfold tkv; rw [hp]
      · rw [if_neg h4] at h; cases h
  · rw [if_neg hd] at et ee
    have yd : f_R_isDigit (b p) = 0 := (f_di _).2 (by simpa using hd)
    refine ⟨z_up (z_up I2 39 4 (zi (sgT (b p)))) 39 3 (zi (p + 1)), fun A g => ?_, by rw [up_place (by decide), up_place (by decide), a2, hp], by rw [up_same, ee], by rw [up_place (by decide), up_same, et], fun h => ?_, fun c h => by rw [up_cell h, up_cell h, ac c h], fun k k2 k3 k4 k5 => by rw [up_place k3, up_place k4, ap k k3]⟩
    · obtain rfl : A = I2 := by rw [g, h2, hI2]
      rw [a1, a2, zi_nat (show p < _ by omega), ebp]
      refine ⟨fun _ => ⟨zi_inr (by omega) (by omega), fun _ => ⟨zi_inr (by omega) (by omega), fun _ => ⟨zi_inr (by omega) (by omega), fun A9 g9 A10 g10 => ?_⟩, fun h => absurd yd h⟩, fun h => absurd yl h⟩, fun h => absurd plt h⟩
      have e9 : A9 39 2 = zi p := by rw [g9, up_place (by decide)]; exact a2
      rw [e9, zi1 p] at g10
      rw [g10, g9, f_sg]
    · rw [et] at h
      exfalso
      unfold sgT at h
      repeat' split at h
      all_goals omega
theorem adv_loop {X : Nat × (Nat → Int32)} {d : Nat} {G : zG} (hS : S5 G) {b : Nat → Int32} {n i : Nat} (hn : n ≤ 160) (hi : i ≤ n) :
    ∀ (m q : Nat) (I : zI), q + m = n → i ≤ q → By I b n → I 39 2 = zi q → tkp b n i = run (fun k => bl (b k)) m q →
    ∃ I1 : zI, Ev X (d + 6) 14 10 [.ref 39, .int (zi (q - i))] [] G I (none, G, I1) ∧ I1 39 2 = zi (tkp b n i) ∧ I1 39 3 = zi (tke b n i) ∧ I1 39 4 = zi (tkt b n i) ∧ (tkt b n i = 2 → I1 39 5 = zi (tkv b n i)) ∧ (∀ c, c ≠ 39 → I1 c = I c) ∧ ∀ k, k ≠ 2 → k ≠ 3 → k ≠ 4 → k ≠ 5 → I1 39 k = I 39 k := by
  intro m
  induction m with
  | zero =>
    intro q I hq hiq hB h2 hr
    obtain rfl : q = n := by omega
    have hr : tkp b q i = q := hr
    obtain ⟨I1, t, k⟩ := adv_tail (X := X) (d := d) hS hn hi hB (by rw [hr]; exact h2)
    have le : I 39 1 ≤ I 39 2 := by rw [hB.1, h2]; exact Int32.le_refl _
    exact ⟨I1, w5_R_advance_10 _ hS ⟨fun _ => t, fun _ => ⟨fun _ => t, fun h => absurd le h⟩⟩, k⟩
  | succ m ih =>
    intro q I hq hiq hB h2 hr
    have n160 : ¬ (160 : Int32) ≤ zi (q - i) := fun e => absurd ((zi_le (a := 160) (by omega) (by omega)).1 e) (by omega)
    have nle : ¬ I 39 1 ≤ I 39 2 := by rw [hB.1, h2]; exact fun e => absurd ((zi_le (by omega) (by omega)).1 e) (by omega)
    have ebq : I 44 q = b q := hB.2 q (by omega)
    have ein : z_inr (I 39 2) 160 := by rw [h2]; exact zi_inr (by omega) (by omega)
    have eb2 : I 44 (I 39 2).toNatClampNeg = b q := by rw [h2, zi_nat (by omega)]; exact ebq
    by_cases hd : bl (b q) = true
    · have nd : ¬ f_R_isBlank (I 44 (I 39 2).toNatClampNeg) = 0 := fun e => by rw [eb2] at e; rw [(f_bl _).1 e] at hd; cases hd
      obtain ⟨I2, hI2⟩ : ∃ I2 : zI, I2 = z_up I 39 2 (zi (q + 1)) := ⟨_, rfl⟩
      obtain ⟨I1, k1, k2, k3, k4, k5, k6, k7⟩ := ih (q + 1) I2 (by omega) (by omega) ⟨by rw [hI2, up_place (by decide)]; exact hB.1, fun k hk => by rw [hI2, up_cell (by decide)]; exact hB.2 k hk⟩ (by rw [hI2, up_same]) (by rw [hr]; exact if_pos hd)
      refine ⟨I1, w5_R_advance_10 _ hS ⟨fun h => absurd h n160, fun _ => ⟨fun h => absurd h nle, fun _ => ⟨ein, fun h => absurd h nd, fun _ A g y hy => ?_⟩⟩⟩, k2, k3, k4, k5, fun c h => by rw [k6 c h, hI2, up_cell h], fun k a b c e => by rw [k7 k a b c e, hI2, up_place a]⟩
      rw [h2, zi1 q] at g
      obtain rfl : A = I2 := by rw [g, hI2]
      rw [hy, zi1 (q - i), show q - i + 1 = q + 1 - i by omega]; exact k1
    · have nd : f_R_isBlank (I 44 (I 39 2).toNatClampNeg) = 0 := by rw [eb2]; exact (f_bl _).2 (by simpa using hd)
      have hr : tkp b n i = q := hr.trans (if_neg hd)
      obtain ⟨I1, t, k⟩ := adv_tail (X := X) (d := d) hS hn hi hB (by rw [hr]; exact h2)
      exact ⟨I1, w5_R_advance_10 _ hS ⟨fun h => absurd h n160, fun _ => ⟨fun h => absurd h nle, fun _ => ⟨ein, fun _ => t, fun h => absurd nd h⟩⟩⟩, k⟩
theorem c_adv {X : Nat × (Nat → Int32)} {d : Nat} {G : zG} (hS : S5 G) {b : Nat → Int32} {n i : Nat} (hn : n ≤ 160) (hi : i ≤ n) {I : zI} (hB : By I b n) (h3 : I 39 3 = zi i) :
    ∃ I1 : zI, Cv X (d + 6) 14 [.ref 39] G I (none, G, I1) ∧ I1 39 2 = zi (tkp b n i) ∧ I1 39 3 = zi (tke b n i) ∧ I1 39 4 = zi (tkt b n i) ∧ (tkt b n i = 2 → I1 39 5 = zi (tkv b n i)) ∧ (∀ c, c ≠ 39 → I1 c = I c) ∧ ∀ k, k ≠ 2 → k ≠ 3 → k ≠ 4 → k ≠ 5 → I1 39 k = I 39 k := by
  obtain ⟨I2, hI2⟩ : ∃ I2 : zI, I2 = z_up I 39 2 (zi i) := ⟨_, rfl⟩
  obtain ⟨I1, k1, k2, k3, k4, k5, k6, k7⟩ := adv_loop (X := X) (d := d) hS (b := b) hn hi (n - i) i I2 (by omega) (Nat.le_refl _) ⟨by rw [hI2, up_place (by decide)]; exact hB.1, fun k hk => by rw [hI2, up_cell (by decide)]; exact hB.2 k hk⟩ (by rw [hI2, up_same]) rfl
  rw [Nat.sub_self] at k1
  refine ⟨I1, Cv.of hq_14 (z_le rfl) rfl (w5_R_advance hS fun A g => ?_), k2, k3, k4, k5, fun c h => by rw [k6 c h, hI2, up_cell h], fun k a b c e => by rw [k7 k a b c e, hI2, up_place a]⟩
  obtain rfl : A = I2 := by rw [g, h3, hI2]
  exact k1
