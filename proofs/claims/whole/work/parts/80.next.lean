def kkL : List Nat := [1, 2, 3, 7, 8, 9, 10, 11, 12, 4, 5, 6]
def kk (k : Nat) : Nat := kkL.getD k 0
theorem wd_row : ∀ k, k < 12 → ∀ x, x < 8 → wdL.getD (8 * k + x) 0 = if x < (zTb (kk k)).length then (zTb (kk k)).getD x 0 else 32 := by decide +kernel
theorem wd_len : ∀ k, k < 12 → (zTb (kk k)).length ≤ 8 ∧ kk k < 13 ∧ 1 ≤ kk k := by decide +kernel
theorem wd_let : ∀ j, j < 13 → 1 ≤ j → ∀ x, x < (zTb j).length → ¬ (zTb j).getD x 0 = 32 := by decide +kernel
theorem kk_in : ∀ j, j < 13 → 1 ≤ j → ∃ k, k < 12 ∧ kk k = j := by decide +kernel
def wch (b : Nat → Int32) (p L x : Nat) : Int32 := if x < L then b (p + x) else 32
def wm (b : Nat → Int32) (p L k : Nat) : Bool := decide (L ≤ 8) && (List.range 8).all (fun x => decide (wdL.getD (8 * k + x) 0 = wch b p L x))
theorem wm_t {b : Nat → Int32} {p L k : Nat} : wm b p L k = true ↔ (L ≤ 8 ∧ ∀ x, x < 8 → wdL.getD (8 * k + x) 0 = wch b p L x) := by
  unfold wm
  rw [Bool.and_eq_true, decide_eq_true_iff, List.all_eq_true]
  exact and_congr Iff.rfl ⟨fun h x hx => of_decide_eq_true (h x (List.mem_range.2 hx)), fun h x hx => decide_eq_true (h x (List.mem_range.1 hx))⟩
theorem lt_32 {v : Int32} (h : lt_ v = true) : ¬ v = 32 := by
  intro e; subst e; revert h; decide
theorem wm_sp {b : Nat → Int32} {p L k : Nat} (hk : k < 12) (hl : ∀ x, x < L → lt_ (b (p + x)) = true) : wm b p L k = spB b p L (kk k) := by
  have w1 := wd_row k hk
  obtain ⟨w2, w3, w4⟩ := wd_len k hk
  have w5 := wd_let (kk k) w3 w4
  have : wm b p L k = true ↔ spB b p L (kk k) = true := by
    rw [wm_t]
    unfold spB
    rw [decide_eq_true_iff]
    constructor
    · rintro ⟨h8, h⟩
      have h : ∀ x, x < 8 → wdL.getD (8 * k + x) 0 = if x < L then b (p + x) else 32 := h
      have eL : L = (zTb (kk k)).length := by
        rcases Nat.lt_trichotomy L (zTb (kk k)).length with q | q | q
        · have := h L (by omega)
          rw [if_neg (Nat.lt_irrefl _), w1 L (by omega), if_pos q] at this
          exact absurd this (w5 L q)
        · exact q
        · have := h (zTb (kk k)).length (by omega)
          rw [if_pos q, w1 _ (by omega), if_neg (Nat.lt_irrefl _)] at this
          exact absurd this.symm (lt_32 (hl _ q))
      refine ⟨eL, fun c hc => ?_⟩
      have := h c (by omega)
      rw [if_pos hc, w1 c (by omega), if_pos (by omega)] at this
      exact this.symm
    · rintro ⟨eL, h⟩
      refine ⟨by omega, fun x hx => ?_⟩
      show _ = if x < L then b (p + x) else 32
      rw [w1 x hx]
      by_cases q : x < L
      · rw [if_pos q, if_pos (by omega)]; exact (h x q).symm
      · rw [if_neg q, if_neg (by omega)]
  cases h1 : wm b p L k <;> cases h2 : spB b p L (kk k) <;> simp_all
def wk (b : Nat → Int32) (p L : Nat) : Nat → Nat
  | 0 => 12
  | m + 1 => if wm b p L (11 - m) = true then 11 - m else wk b p L m
theorem wk_sp {b : Nat → Int32} {p L : Nat} : ∀ m, m ≤ 12 → (wk b p L m = 12 ∧ ∀ k, 12 - m ≤ k → k < 12 → wm b p L k = false) ∨ (wk b p L m < 12 ∧ wm b p L (wk b p L m) = true) := by
  intro m
  induction m with
  | zero => intro _; exact Or.inl ⟨rfl, fun k h1 h2 => absurd h2 (by omega)⟩
  | succ m ih =>
    intro hm
    rw [wk]
    by_cases h : wm b p L (11 - m) = true
    · rw [if_pos h]; exact Or.inr ⟨by omega, h⟩
    · rw [if_neg h]
      rcases ih (by omega) with ⟨a, c⟩ | a
      · refine Or.inl ⟨a, fun k h1 h2 => ?_⟩
        by_cases q : k = 11 - m
        · subst q; simpa using h
        · exact c k (by omega) h2
      · exact Or.inr a
theorem wk_wj {b : Nat → Int32} {p L : Nat} (hl : ∀ x, x < L → lt_ (b (p + x)) = true) : (wj b p L = 0 ∧ wk b p L 12 = 12) ∨ (wk b p L 12 < 12 ∧ kk (wk b p L 12) = wj b p L ∧ wj b p L ≠ 0) := by
  obtain ⟨s1, s2⟩ := wjf_sp (b := b) (p := p) (L := L) 12 (by omega)
  have le := wj_le b p L 12 (by omega)
  have k12 := wk_sp (b := b) (p := p) (L := L) 12 (by omega)
  unfold wj
  by_cases h : wjf b p L 12 = 0
  · refine Or.inl ⟨h, ?_⟩
    rcases k12 with k12 | ⟨h1, h2⟩
    · exact k12.1
    · obtain ⟨-, w3, w4⟩ := wd_len _ h1
      rw [wm_sp h1 hl, s2 h _ (by omega) (by omega)] at h2
      cases h2
  · have s := s1 h
    obtain ⟨k, hk, ek⟩ := kk_in _ (by omega) (Nat.pos_of_ne_zero h)
    rcases k12 with ⟨h1, h2⟩ | ⟨h1, h2⟩
    · have := h2 k (by omega) hk
      rw [wm_sp hk hl, ek, s] at this
      cases this
    · obtain ⟨-, w3, w4⟩ := wd_len _ h1
      rw [wm_sp h1 hl] at h2
      exact Or.inr ⟨h1, spB_one w3 (by omega) h2 s, h⟩
theorem c_wordFrom {X : Nat × (Nat → Int32)} {d : Nat} {G : zG} (hS : SG G) {J : zI} {b : Nat → Int32} {n p L : Nat} (hn : n ≤ 160) (hpn : p + L ≤ n) (hb : ∀ k, k < n → J 61 k = b k) (hw : WDs J) :
    Cv X d 132 [.ref 57, .int (zi p), .int (zi (p + L))] G J (some (.int (zi (wk b p L 12))), G, J) := by
  have eL : zi (p + L) - zi p = zi L := (zi_sub (by omega)).trans (congrArg zi (by omega))
  -- the letters of the word k from place x on
  have inner : ∀ (k : Nat) (yes : Bool) (m x : Nat), k < 12 → x + m = 8 → ((yes = true ↔ (L ≤ 8 ∧ ∀ c, c < x → wdL.getD (8 * k + c) 0 = if c < L then b (p + c) else 32))) → ∀ res, (wm b p L k = true → res = (some (.int (zi k)), G, J)) → (wm b p L k = false → ∀ f : Int32, Ev X d 132 2 [.ref 57, .int (zi p), .int (zi (p + L)), .int (zi (k + 1)), .int 0, .int f] [] G J res) → Ev X d 132 26 [.ref 57, .int (zi p), .int (zi (p + L)), .int (zi k), .int (if yes = true then 1 else 0), .int (zi x)] [] G J res := by
    intro k yes m
    induction m generalizing yes with
    | zero =>
      intro x hk hx hy res r1 r2
      obtain rfl : x = 8 := by omega
      have l8 : (8 : Int32) ≤ zi 8 := Int32.le_refl _
      refine wp_Z_wordFrom_26 _ _ _ _ _ hS ⟨fun _ => ⟨fun h y e => ?_, fun h => ?_⟩, fun h => absurd l8 h⟩
      · rw [e, zi1 k, h]
        refine r2 ?_ _
        exact Bool.eq_false_iff.2 (fun q => by
          have q := wm_t.1 q
          rw [if_pos (hy.2 q)] at h; cases h)
      · refine r1 ?_
        refine wm_t.2 (hy.1 ?_)
        cases yes
        · exact absurd rfl h
        · rfl
    | succ m ih =>
      intro x hk hx hy res r1 r2
      have l8 : ¬ (8 : Int32) ≤ zi x := fun e => absurd ((zi_le (a := 8) (by omega) (by omega)).1 e) (by omega)
      have en : (8 : Int32) * zi k + zi x = zi (8 * k + x) := by
        show zi 8 * zi k + zi x = _
        rw [zi_mul, zi_add]
      have ep : zi p + zi x = zi (p + x) := zi_add
      have nt : (zi (8 * k + x)).toNatClampNeg = 8 * k + x := zi_nat (by omega)
      refine wp_Z_wordFrom_26 _ _ _ _ _ hS ⟨fun h => absurd h l8, fun _ => ⟨fun h => ?_, fun h => ?_⟩⟩
      · refine ⟨fun _ y e => ?_, fun n => absurd h n⟩
        rw [e, zi1 k, h]
        refine r2 ?_ _
        exact Bool.eq_false_iff.2 (fun q => by
          have q := wm_t.1 q
          rw [if_pos (hy.2 ⟨q.1, fun c hc => q.2 c (by omega)⟩)] at h; cases h)
      · obtain rfl : yes = true := by
          cases yes
          · exact absurd rfl h
          · rfl
        have hy1 := hy.1 rfl
        have go : ∀ y : Bool, (y = true ↔ wdL.getD (8 * k + x) 0 = if x < L then b (p + x) else 32) → Ev X d 132 26 [.ref 57, .int (zi p), .int (zi (p + L)), .int (zi k), .int (if y = true then 1 else 0), .int (zi (x + 1))] [] G J res := fun y e => ih y (x + 1) hk (by omega) ⟨fun q => ⟨hy1.1, fun c hc => by
            by_cases w : c = x
            · subst w; exact e.1 q
            · exact hy1.2 c (by omega)⟩, fun q => e.2 (q.2 x (by omega))⟩ res r1 r2
        rw [en, ep, nt, hw _ (show 8 * k + x < 96 by omega)]
        refine ⟨zi_inr (by omega) (by omega), fun g => ?_, fun g => ?_⟩
        · have g : ¬ x < L := fun q => absurd ((zi_le (by omega) (by omega)).1 g) (by omega)
          refine ⟨fun w y e => ?_, fun w y e => ?_⟩
          · rw [e, zi1 x]
            exact go false ⟨(fun q => by cases q), fun q => by rw [if_neg g] at q; exact absurd q w⟩
          · rw [e, zi1 x]
            exact go true ⟨fun _ => by rw [if_neg g]; exact w, fun _ => rfl⟩
        · have g : x < L := Nat.lt_of_not_le fun q => g ((zi_le (by omega) (by omega)).2 (by omega))
          rw [zi_nat (show p + x < _ by omega), hb _ (show p + x < n by omega)]
          refine ⟨zi_inr (by omega) (by omega), fun w y e => ?_, fun w y e => ?_⟩
          · rw [e, zi1 x]
            exact go false ⟨(fun q => by cases q), fun q => by rw [if_pos g] at q; exact absurd q w⟩
          · rw [e, zi1 x]
            exact go true ⟨fun _ => by rw [if_pos g]; exact w, fun _ => rfl⟩
  have outer : ∀ (m k : Nat) (v4 v5 : Value) (c4 : v4.category = 1) (c5 : v5.category = 1), k + m = 12 → Ev X d 132 2 [.ref 57, .int (zi p), .int (zi (p + L)), .int (zi k), v4, v5] [] G J (some (.int (zi (wk b p L m))), G, J) := by
    intro m
    induction m with
    | zero =>
      intro k v4 v5 c4 c5 hk
      obtain rfl : k = 12 := by omega
      exact wp_Z_wordFrom_2 _ _ _ _ c4 _ c5 ⟨fun _ => rfl, fun h => absurd (Int32.le_refl _) h⟩
    | succ m ih =>
      intro k v4 v5 c4 c5 hk
      have l12 : ¬ (12 : Int32) ≤ zi k := fun e => absurd ((zi_le (a := 12) (by omega) (by omega)).1 e) (by omega)
      have res1 : wm b p L k = true → (some (Value.int (zi (wk b p L (m + 1)))), G, J) = (some (Value.int (zi k)), G, J) := fun h => by
        rw [wk, show 11 - m = k by omega, if_pos h]
      have res2 : wm b p L k = false → ∀ f : Int32, Ev X d 132 2 [.ref 57, .int (zi p), .int (zi (p + L)), .int (zi (k + 1)), .int 0, .int f] [] G J (some (.int (zi (wk b p L (m + 1)))), G, J) := fun h f => by
        rw [wk, show 11 - m = k by omega, if_neg (by rw [h]; exact Bool.false_ne_true)]
        exact ih (k + 1) _ _ rfl rfl (by omega)
      refine wp_Z_wordFrom_2 _ _ _ _ c4 _ c5 ⟨fun h => absurd h l12, fun _ => ⟨fun h => ?_, fun h => ?_⟩⟩
      · rw [eL] at h
        have h := (zi_lt (a := 8) (by omega) (by omega)).1 h
        exact inner k false 8 0 (by omega) rfl ⟨fun q => (by cases q), fun q => absurd q.1 (by omega)⟩ _ res1 res2
      · rw [eL] at h
        have h := Nat.le_of_not_lt fun q => h ((zi_lt (a := 8) (by omega) (by omega)).2 q)
        exact inner k true 8 0 (by omega) rfl ⟨fun q => ⟨h, fun c hc => absurd hc (by omega)⟩, fun _ => rfl⟩ _ res1 res2
  exact Cv.of hq_132 (z_le rfl) rfl (wp_Z_wordFrom _ _ (outer 12 0 _ _ rfl rfl rfl))
/-- what the model writes of a token -/
def rtk (t : Nat) : Int32 := if t = 0 then 0 else if t = 1 then -1 else if t = 2 then 1 else if t = 3 then 40 else if t = 4 then 41 else if t = 5 then 59 else if t = 6 then 43 else if t = 7 then 45 else if t = 8 then 42 else if t = 9 then 60 else if t = 10 then 61 else if t ≤ 13 then 3 else if t ≤ 16 then zi (t - 10) else 2
def RT (J : zI) (t v : Nat) : Prop := J 57 20 = rtk t ∧ (t = 2 → J 57 21 = zi v) ∧ (11 ≤ t → t ≤ 13 → J 57 21 = zi (t - 11)) ∧ (17 ≤ t → J 57 21 = zi (t - 17))
theorem f_Zlt (v : Int32) : f_Z_in v 97 122 = 0 ↔ lt_ v = false := by
  unfold f_Z_in lt_
  by_cases h : v < 97
  · simp [h]
  · by_cases h2 : 122 < v
    · simp [h, h2]
    · simp [h, h2]
theorem f_Zdi (v : Int32) : f_Z_in v 48 57 = 0 ↔ di v = false := by
  unfold f_Z_in di
  by_cases h : v < 48
  · simp [h]
  · by_cases h2 : 57 < v
    · simp [h, h2]
    · simp [h, h2]
def ByZ (J : zI) (b : Nat → Int32) (n : Nat) : Prop := J 57 5 = zi n ∧ (∀ k, k < n → J 61 k = b k) ∧ WDs J
theorem ByZ.up {J : zI} {b : Nat → Int32} {n : Nat} (h : ByZ J b n) {k : Nat} {v : Int32} (hk : k ≠ 5) : ByZ (z_up J 57 k v) b n :=
  ⟨by rw [up_place (Ne.symm hk)]; exact h.1, fun c hc => by rw [up_cell (by decide)]; exact h.2.1 c hc, fun c hc => by rw [up_cell (by decide)]; exact h.2.2 c hc⟩
theorem rtk_word : ∀ k, k < 12 → kk k ≠ 0 → rtk (kk k + 10) = (if (3 : Int32) ≤ zi k then if (9 : Int32) ≤ zi k then zi 4 + zi k - 9 else 2 else 3) ∧ (11 ≤ kk k + 10 → kk k + 10 ≤ 13 → (if (3 : Int32) ≤ zi k then zi k - 3 else zi k) = zi (kk k + 10 - 11)) ∧ (17 ≤ kk k + 10 → (if (3 : Int32) ≤ zi k then zi k - 3 else zi k) = zi (kk k + 10 - 17)) := by decide +kernel
theorem zwords {X : Nat × (Nat → Int32)} {d : Nat} {G : zG} (hS : SG G) {b : Nat → Int32} {n p : Nat} (hn : n ≤ 160) :
    ∀ (m q : Nat) (J : zI) (x1 : Int32), q + m = n → p ≤ q → ByZ J b n → J 57 19 = zi p → J 57 18 = zi q → (∀ x, p ≤ x → x < q → lt_ (b x) = true) →
    ∃ J1 : zI, Ev X (d + 1) 130 103 [.ref 57, .int x1, zU] [] G J (none, G, J1) ∧ RT J1 (if wj b p (run (fun k => lt_ (b k)) m q - p) = 0 then 1 else wj b p (run (fun k => lt_ (b k)) m q - p) + 10) 0 ∧ J1 57 18 = zi (run (fun k => lt_ (b k)) m q) ∧ (∀ c, c ≠ 57 → J1 c = J c) ∧ ∀ k, k ≠ 18 → k ≠ 20 → k ≠ 21 → J1 57 k = J 57 k := by
  have stop : ∀ (q : Nat) (J : zI) (P : Prop), p ≤ q → q ≤ n → ByZ J b n → J 57 19 = zi p → J 57 18 = zi q → (∀ x, p ≤ x → x < q → lt_ (b x) = true) →
      ∃ J1 : zI, (∃ (r4 : Int32) (I2 : zI), Cv X d 132 [.ref 57, .int (J 57 19), .int (J 57 18)] G J (some (.int r4), G, I2) ∧ (((3 ≤ r4 → (9 ≤ r4 → (¬ r4 = 12 → (∀ I8 : zI, I8 = z_up I2 57 20 ((4 + r4) - 9) → (3 ≤ r4 → (∀ I10 : zI, I10 = z_up I8 57 21 (r4 - 3) → ((none : Option Value), G, J1) = (none, G, I10))) ∧ (¬ 3 ≤ r4 → (∀ I11 : zI, I11 = z_up I8 57 21 r4 → ((none : Option Value), G, J1) = (none, G, I11))))) ∧ (r4 = 12 → (∀ I12 : zI, I12 = z_up I2 57 20 (-1) → (3 ≤ r4 → (∀ I14 : zI, I14 = z_up I12 57 21 (r4 - 3) → ((none : Option Value), G, J1) = (none, G, I14))) ∧ (¬ 3 ≤ r4 → (∀ I15 : zI, I15 = z_up I12 57 21 r4 → ((none : Option Value), G, J1) = (none, G, I15)))))) ∧ (¬ 9 ≤ r4 → (∀ I16 : zI, I16 = z_up I2 57 20 2 → (3 ≤ r4 → (∀ I18 : zI, I18 = z_up I16 57 21 (r4 - 3) → ((none : Option Value), G, J1) = (none, G, I18))) ∧ (¬ 3 ≤ r4 → (∀ I19 : zI, I19 = z_up I16 57 21 r4 → ((none : Option Value), G, J1) = (none, G, I19)))))) ∧ (¬ 3 ≤ r4 → (∀ I20 : zI, I20 = z_up I2 57 20 3 → (3 ≤ r4 → (∀ I22 : zI, I22 = z_up I20 57 21 (r4 - 3) → ((none : Option Value), G, J1) = (none, G, I22))) ∧ (¬ 3 ≤ r4 → (∀ I23 : zI, I23 = z_up I20 57 21 r4 → ((none : Option Value), G, J1) = (none, G, I23)))))))) ∧ RT J1 (if wj b p (q - p) = 0 then 1 else wj b p (q - p) + 10) 0 ∧ J1 57 18 = zi q ∧ (∀ c, c ≠ 57 → J1 c = J c) ∧ ∀ k, k ≠ 18 → k ≠ 20 → k ≠ 21 → J1 57 k = J 57 k := by
    intro q J P hpq hqn hB h9 h8 hl
    have hl' : ∀ x, x < q - p → lt_ (b (p + x)) = true := fun x hx => hl _ (by omega) (by omega)
    have cw := c_wordFrom (X := X) (d := d) hS (n := n) (p := p) (L := q - p) hn (by omega) hB.2.1 hB.2.2
    rw [show p + (q - p) = q by omega, ← h9, ← h8] at cw
    rcases wk_wj hl' with ⟨e1, e2⟩ | ⟨e1, e2, e3⟩
    · rw [e2] at cw
      refine ⟨z_up (z_up J 57 20 (-1)) 57 21 9, ⟨_, J, cw, ?_⟩, ?_, by rw [up_place (by decide), up_place (by decide)]; exact h8, fun c h => by rw [up_cell h, up_cell h], fun k _ h h2 => by rw [up_place h2, up_place h]⟩
      · refine ⟨fun _ => ⟨fun _ => ⟨fun h => absurd rfl h, fun _ A g => ⟨fun _ A2 g2 => by rw [g2, g]; rfl, fun h => absurd (by decide) h⟩⟩, fun h => absurd (by decide) h⟩, fun h => absurd (by decide) h⟩
      · rw [if_pos e1]
        exact ⟨by rw [up_place (by decide), up_same]; rfl, fun h => absurd h (by decide), fun h => absurd h (by decide), fun h => absurd h (by decide)⟩
    · have hk0 : kk (wk b p (q - p) 12) ≠ 0 := by rw [e2]; exact e3
      obtain ⟨t1, t2, t3⟩ := rtk_word _ e1 hk0
      rw [if_neg e3, ← e2]
      generalize wk b p (q - p) 12 = k at *
      refine ⟨z_up (z_up J 57 20 (if (3 : Int32) ≤ zi k then if (9 : Int32) ≤ zi k then zi 4 + zi k - 9 else 2 else 3)) 57 21 (if (3 : Int32) ≤ zi k then zi k - 3 else zi k), ⟨_, J, cw, ?_⟩, ⟨by rw [up_place (by decide), up_same, t1], fun h => ?_, fun a c => by rw [up_same]; exact t2 a c, fun a => by rw [up_same]; exact t3 a⟩, by rw [up_place (by decide), up_place (by decide)]; exact h8, fun c h => by rw [up_cell h, up_cell h], fun k _ h h2 => by rw [up_place h2, up_place h]⟩
      · have n12 : ¬ zi k = 12 := fun e => absurd ((zi_eq (b := 12) (by omega) (by omega)).1 e) (by omega)
        refine ⟨fun h3 => ⟨fun h9 => ⟨fun _ A g => ⟨fun _ A2 g2 => ?_, fun h => absurd h3 h⟩, fun h => absurd h n12⟩, fun h9 A g => ⟨fun _ A2 g2 => ?_, fun h => absurd h3 h⟩⟩, fun h3 A g => ⟨fun h => absurd h h3, fun _ A2 g2 => ?_⟩⟩
        · rw [g2, g, if_pos h3, if_pos h9, if_pos h3]; rfl
        · rw [g2, g, if_pos h3, if_neg h9, if_pos h3]
        · rw [g2, g, if_neg h3, if_neg h3]
      · have := wd_len k e1; omega
  intro m
  induction m with
  | zero =>
    intro q J x1 hq hpq hB h9 h8 hl
    obtain rfl : q = n := by omega
    obtain ⟨J1, k1, k2⟩ := stop q J True hpq (Nat.le_refl _) hB h9 h8 hl
    have le : J 57 5 ≤ J 57 18 := by rw [hB.1, h8]; exact Int32.le_refl _
    exact ⟨J1, wp_Z_next_103 _ hS ⟨fun _ => k1, fun h => absurd le h⟩, k2⟩
  | succ m ih =>
    intro q J x1 hq hpq hB h9 h8 hl
    have nle : ¬ J 57 5 ≤ J 57 18 := by rw [hB.1, h8]; exact fun e => absurd ((zi_le (by omega) (by omega)).1 e) (by omega)
    have ein : z_inr (J 57 18) 160 := by rw [h8]; exact zi_inr (by omega) (by omega)
    have eb : J 61 (J 57 18).toNatClampNeg = b q := by rw [h8, zi_nat (by omega)]; exact hB.2.1 q (by omega)
    by_cases hd : lt_ (b q) = true
    · rw [show run (fun k => lt_ (b k)) (m + 1) q = run (fun k => lt_ (b k)) m (q + 1) from if_pos hd]
      have nd : ¬ f_Z_in (J 61 (J 57 18).toNatClampNeg) 97 122 = 0 := fun e => by rw [eb] at e; rw [(f_Zlt _).1 e] at hd; cases hd
      obtain ⟨J2, hJ2⟩ : ∃ J2 : zI, J2 = z_up J 57 18 (zi (q + 1)) := ⟨_, rfl⟩
      obtain ⟨J1, k1, k2, k3, k5, k6⟩ := ih (q + 1) J2 x1 (by omega) (by omega) (by rw [hJ2]; exact hB.up (by decide)) (by rw [hJ2, up_place (by decide)]; exact h9) (by rw [hJ2, up_same]) (fun x hx1 hx2 => by
        by_cases e : x = q
        · subst e; exact hd
        · exact hl x hx1 (by omega))
      refine ⟨J1, wp_Z_next_103 _ hS ⟨fun h => absurd h nle, fun _ => ⟨ein, fun h => absurd h nd, fun _ A g => ?_⟩⟩, k2, k3, fun c h => by rw [k5 c h, hJ2, up_cell h], fun k a1 a2 a3 => by rw [k6 k a1 a2 a3, hJ2, up_place a1]⟩
      rw [h8, zi1 q] at g
      obtain rfl : A = J2 := by rw [g, hJ2]
      exact k1
    · rw [show run (fun k => lt_ (b k)) (m + 1) q = q from if_neg hd]
      have nd : f_Z_in (J 61 (J 57 18).toNatClampNeg) 97 122 = 0 := by rw [eb]; exact (f_Zlt _).2 (by simpa using hd)
      obtain ⟨J1, k1, k2⟩ := stop q J True hpq (by omega) hB h9 h8 hl
      exact ⟨J1, wp_Z_next_103 _ hS ⟨fun h => absurd h nle, fun _ => ⟨ein, fun _ => k1, fun h => absurd nd h⟩⟩, k2⟩
theorem znums {X : Nat × (Nat → Int32)} {d : Nat} {G : zG} (hS : SG G) {b : Nat → Int32} {n p : Nat} (hn : n ≤ 160) :
    ∀ (m q : Nat) (J : zI) (x1 : Int32), q + m = n → p ≤ q → ByZ J b n → J 57 18 = zi q → (q - p ≤ 4 → J 57 21 = zi (dval b p (q - p))) →
    ∃ J1 : zI, Ev X (d + 1) 130 230 [.ref 57, .int x1, .int (zi (q - p))] [] G J (none, G, J1) ∧ RT J1 (if run (fun k => di (b k)) m q - p ≤ 4 then 2 else 1) (dval b p (run (fun k => di (b k)) m q - p)) ∧ J1 57 18 = zi (run (fun k => di (b k)) m q) ∧ (∀ c, c ≠ 57 → J1 c = J c) ∧ ∀ k, k ≠ 18 → k ≠ 20 → k ≠ 21 → J1 57 k = J 57 k := by
  have stop : ∀ (q : Nat) (J : zI), p ≤ q → q ≤ n → ByZ J b n → J 57 18 = zi q → (q - p ≤ 4 → J 57 21 = zi (dval b p (q - p))) → ∃ J1 : zI, (((zi (q - p)) ≤ 4 → ∀ I3 : zI, I3 = z_up J 57 20 1 → ((none : Option Value), G, J1) = (none, G, I3)) ∧ (¬ (zi (q - p)) ≤ 4 → ∀ I4 : zI, I4 = z_up J 57 20 (-1) → ((none : Option Value), G, J1) = (none, G, I4))) ∧ RT J1 (if q - p ≤ 4 then 2 else 1) (dval b p (q - p)) ∧ J1 57 18 = zi q ∧ (∀ c, c ≠ 57 → J1 c = J c) ∧ ∀ k, k ≠ 18 → k ≠ 20 → k ≠ 21 → J1 57 k = J 57 k := by
    intro q J hpq hqn hB h8 hv
    by_cases h4 : q - p ≤ 4
    · have h4' : zi (q - p) ≤ 4 := (zi_le (b := 4) (by omega) (by omega)).2 h4
      refine ⟨z_up J 57 20 1, ⟨fun _ A g => by rw [g], fun h => absurd h4' h⟩, ?_, by rw [up_place (by decide)]; exact h8, fun c h => up_cell h, fun k _ h _ => up_place h⟩
      rw [if_pos h4]
      exact ⟨by rw [up_same]; rfl, fun _ => by rw [up_place (by decide)]; exact hv h4, fun h => absurd h (by decide), fun h => absurd h (by decide)⟩
    · have h4' : ¬ zi (q - p) ≤ 4 := fun e => h4 ((zi_le (b := 4) (by omega) (by omega)).1 e)
      refine ⟨z_up J 57 20 (-1), ⟨fun h => absurd h h4', fun _ A g => by rw [g]⟩, ?_, by rw [up_place (by decide)]; exact h8, fun c h => up_cell h, fun k _ h _ => up_place h⟩
      rw [if_neg h4]
      exact ⟨by rw [up_same]; rfl, fun h => absurd h (by decide), fun h => absurd h (by decide), fun h => absurd h (by decide)⟩
  intro m
  induction m with
  | zero =>
    intro q J x1 hq hpq hB h8 hv
    obtain rfl : q = n := by omega
    obtain ⟨J1, k1, k2⟩ := stop q J hpq (Nat.le_refl _) hB h8 hv
    have le : J 57 5 ≤ J 57 18 := by rw [hB.1, h8]; exact Int32.le_refl _
    exact ⟨J1, wp_Z_next_230 _ _ hS ⟨fun _ => k1, fun h => absurd le h⟩, k2⟩
  | succ m ih =>
    intro q J x1 hq hpq hB h8 hv
    have nle : ¬ J 57 5 ≤ J 57 18 := by rw [hB.1, h8]; exact fun e => absurd ((zi_le (by omega) (by omega)).1 e) (by omega)
    have ein : z_inr (J 57 18) 160 := by rw [h8]; exact zi_inr (by omega) (by omega)
    have eb : J 61 (J 57 18).toNatClampNeg = b q := by rw [h8, zi_nat (by omega)]; exact hB.2.1 q (by omega)
    by_cases hd : di (b q) = true
    · rw [show run (fun k => di (b k)) (m + 1) q = run (fun k => di (b k)) m (q + 1) from if_pos hd]
      obtain ⟨v1, v2, v3⟩ := di_v hd
      have nd : ¬ f_Z_in (J 61 (J 57 18).toNatClampNeg) 48 57 = 0 := fun e => by rw [eb] at e; rw [(f_Zdi _).1 e] at hd; cases hd
      have go : ∀ w : Int32, (q + 1 - p ≤ 4 → w = zi (dval b p (q + 1 - p))) → ∃ J1 : zI, (∀ A B : zI, A = z_up J 57 21 w → B = z_up A 57 18 (zi (q + 1)) → Ev X (d + 1) 130 230 [.ref 57, .int x1, .int (zi (q + 1 - p))] [] G B (none, G, J1)) ∧ RT J1 (if run (fun k => di (b k)) m (q + 1) - p ≤ 4 then 2 else 1) (dval b p (run (fun k => di (b k)) m (q + 1) - p)) ∧ J1 57 18 = zi (run (fun k => di (b k)) m (q + 1)) ∧ (∀ c, c ≠ 57 → J1 c = J c) ∧ ∀ k, k ≠ 18 → k ≠ 20 → k ≠ 21 → J1 57 k = J 57 k := fun w hw => by
        obtain ⟨J2, hJ2⟩ : ∃ J2 : zI, J2 = z_up (z_up J 57 21 w) 57 18 (zi (q + 1)) := ⟨_, rfl⟩
        obtain ⟨J1, k1, k2, k3, k5, k6⟩ := ih (q + 1) J2 x1 (by omega) (by omega) (by rw [hJ2]; exact (hB.up (by decide)).up (by decide)) (by rw [hJ2, up_same]) (fun h => by rw [hJ2, up_place (by decide), up_same]; exact hw h)
        refine ⟨J1, fun A B gA gB => ?_, k2, k3, fun c h => by rw [k5 c h, hJ2, up_cell h, up_cell h], fun k a1 a2 a3 => by rw [k6 k a1 a2 a3, hJ2, up_place a1, up_place a3]⟩
        obtain rfl : B = J2 := by rw [gB, gA, hJ2]
        exact k1
      have e1 : zi (q - p) + 1 = zi (q + 1 - p) := (zi1 (q - p)).trans (congrArg zi (by omega))
      by_cases h4 : 4 ≤ q - p
      · have h4' : (4 : Int32) ≤ zi (q - p) := (zi_le (a := 4) (by omega) (by omega)).2 h4
        obtain ⟨J1, k1, k2⟩ := go 0 (fun h => by omega)
        refine ⟨J1, wp_Z_next_230 _ _ hS ⟨fun h => absurd h nle, fun _ => ⟨ein, fun h => absurd h nd, fun _ => ⟨fun _ A gA y hy B gB => ?_, fun h => absurd h4' h⟩⟩⟩, k2⟩
        have eA : A 57 18 = zi q := by rw [gA, up_place (by decide)]; exact h8
        rw [eA, zi1 q] at gB
        rw [hy, e1]
        exact k1 A B gA gB
      · have h4' : ¬ (4 : Int32) ≤ zi (q - p) := fun e => h4 ((zi_le (a := 4) (by omega) (by omega)).1 e)
        obtain ⟨J1, k1, k2⟩ := go (10 * J 57 21 + J 61 (J 57 18).toNatClampNeg - 48) (fun h => by
          rw [eb, hv (by omega), v3, show q + 1 - p = (q - p) + 1 by omega]
          show zi 10 * zi _ + zi _ - zi 48 = _
          rw [zi_mul, zi_add, zi_sub (by omega), dval, show p + (q - p) = q by omega]
          exact congrArg zi (by omega))
        refine ⟨J1, wp_Z_next_230 _ _ hS ⟨fun h => absurd h nle, fun _ => ⟨ein, fun h => absurd h nd, fun _ => ⟨fun h => absurd h h4', fun _ => ⟨ein, fun A gA y hy B gB => ?_⟩⟩⟩⟩, k2⟩
        have eA : A 57 18 = zi q := by rw [gA, up_place (by decide)]; exact h8
        rw [eA, zi1 q] at gB
        rw [hy, e1]
        exact k1 A B gA gB
    · rw [show run (fun k => di (b k)) (m + 1) q = q from if_neg hd]
      have nd : f_Z_in (J 61 (J 57 18).toNatClampNeg) 48 57 = 0 := by rw [eb]; exact (f_Zdi _).2 (by simpa using hd)
      obtain ⟨J1, k1, k2⟩ := stop q J hpq (by omega) hB h8 hv
      exact ⟨J1, wp_Z_next_230 _ _ hS ⟨fun h => absurd h nle, fun _ => ⟨ein, fun _ => k1, fun h => absurd nd h⟩⟩, k2⟩
theorem next_tail {X : Nat × (Nat → Int32)} {d : Nat} {G : zG} (hS : SG G) {b : Nat → Int32} {n i : Nat} (hn : n ≤ 160) (hi : i ≤ n) {I : zI} (hB : ByZ I b n) (h8 : I 57 18 = zi (tkp b n i)) :
    ∃ J1 : zI, (∀ I2 : zI, I2 = z_up I 57 19 (I 57 18) → (∀ I3 : zI, I3 = z_up I2 57 20 0 → (∀ I4 : zI, I4 = z_up I3 57 21 0 → (¬ (I4 57 18) = (I4 57 5) → z_inr (I4 57 18) 160 ∧ (∀ y7 : Int32, y7 = (I4 61 (I4 57 18).toNatClampNeg) → ((f_Z_in y7 97 122) = 0 → ((f_Z_in y7 48 57) = 0 → (y7 = 40 → (∀ I11 : zI, I11 = z_up I4 57 20 y7 → (∀ I12 : zI, I12 = z_up I11 57 18 ((I11 57 18) + 1) → ((none : Option Value), G, J1) = (none, G, I12)))) ∧ (¬ y7 = 40 → (y7 = 41 → (∀ I14 : zI, I14 = z_up I4 57 20 y7 → (∀ I15 : zI, I15 = z_up I14 57 18 ((I14 57 18) + 1) → ((none : Option Value), G, J1) = (none, G, I15)))) ∧ (¬ y7 = 41 → (y7 = 59 → (∀ I17 : zI, I17 = z_up I4 57 20 y7 → (∀ I18 : zI, I18 = z_up I17 57 18 ((I17 57 18) + 1) → ((none : Option Value), G, J1) = (none, G, I18)))) ∧ (¬ y7 = 59 → (y7 = 43 → (∀ I20 : zI, I20 = z_up I4 57 20 y7 → (∀ I21 : zI, I21 = z_up I20 57 18 ((I20 57 18) + 1) → ((none : Option Value), G, J1) = (none, G, I21)))) ∧ (¬ y7 = 43 → (y7 = 45 → (∀ I23 : zI, I23 = z_up I4 57 20 y7 → (∀ I24 : zI, I24 = z_up I23 57 18 ((I23 57 18) + 1) → ((none : Option Value), G, J1) = (none, G, I24)))) ∧ (¬ y7 = 45 → (y7 = 42 → (∀ I26 : zI, I26 = z_up I4 57 20 y7 → (∀ I27 : zI, I27 = z_up I26 57 18 ((I26 57 18) + 1) → ((none : Option Value), G, J1) = (none, G, I27)))) ∧ (¬ y7 = 42 → (y7 = 60 → (∀ I29 : zI, I29 = z_up I4 57 20 y7 → (∀ I30 : zI, I30 = z_up I29 57 18 ((I29 57 18) + 1) → ((none : Option Value), G, J1) = (none, G, I30)))) ∧ (¬ y7 = 60 → (¬ y7 = 61 → (∀ I32 : zI, I32 = z_up I4 57 20 (-1) → (∀ I33 : zI, I33 = z_up I32 57 18 ((I32 57 18) + 1) → ((none : Option Value), G, J1) = (none, G, I33)))) ∧ (y7 = 61 → (∀ I34 : zI, I34 = z_up I4 57 20 y7 → (∀ I35 : zI, I35 = z_up I34 57 18 ((I34 57 18) + 1) → ((none : Option Value), G, J1) = (none, G, I35)))))))))))) ∧ (¬ (f_Z_in y7 48 57) = 0 → Ev X (d + 1) 130 230 [.ref 57, .int y7, .int 0] [] G I4 (none, G, J1))) ∧ (¬ (f_Z_in y7 97 122) = 0 → Ev X (d + 1) 130 103 [.ref 57, .int y7, zU] [] G I4 (none, G, J1)))) ∧ ((I4 57 18) = (I4 57 5) → ((none : Option Value), G, J1) = (none, G, I4))))) ∧ J1 57 18 = zi (tke b n i) ∧ J1 57 19 = zi (tkp b n i) ∧ RT J1 (tkt b n i) (tkv b n i) ∧ (∀ c, c ≠ 57 → J1 c = I c) ∧ ∀ k, k ≠ 18 → k ≠ 19 → k ≠ 20 → k ≠ 21 → J1 57 k = I 57 k := by
  obtain ⟨p, hp⟩ : ∃ p, p = tkp b n i := ⟨_, rfl⟩
  have hpl := (tkp_le (b := b) hi).2
  rw [← hp] at h8 hpl
  obtain ⟨I2, hI2⟩ : ∃ I2 : zI, I2 = z_up (z_up (z_up I 57 19 (zi p)) 57 20 0) 57 21 0 := ⟨_, rfl⟩
  have hB2 : ByZ I2 b n := by rw [hI2]; exact ((hB.up (by decide)).up (by decide)).up (by decide)
  have a8 : I2 57 18 = zi p := by rw [hI2, up_place (by decide), up_place (by decide), up_place (by decide)]; exact h8
  have a9 : I2 57 19 = zi p := by rw [hI2, up_place (by decide), up_place (by decide), up_same]
  have a0 : I2 57 20 = 0 := by rw [hI2, up_place (by decide), up_same]
  have a1 : I2 57 21 = 0 := by rw [hI2, up_same]
  have ap : ∀ k, k ≠ 19 → k ≠ 20 → k ≠ 21 → I2 57 k = I 57 k := fun k x y z => by rw [hI2, up_place z, up_place y, up_place x]
  have ac : ∀ c, c ≠ 57 → I2 c = I c := fun c hc => by rw [hI2, up_cell hc, up_cell hc, up_cell hc]
  have et : tkt b n i = if n ≤ p then 0 else if lt_ (b p) = true then (if wj b p (tke b n i - p) = 0 then 1 else wj b p (tke b n i - p) + 10) else if di (b p) = true then (if tke b n i - p ≤ 4 then 2 else 1) else sgT (b p) := by rw [hp]; rfl
  have ee : tke b n i = if n ≤ p then p else if lt_ (b p) = true then run (fun k => lt_ (b k)) (n - p) p else if di (b p) = true then run (fun k => di (b k)) (n - p) p else p + 1 := by rw [hp]; rfl
  suffices hh : ∃ J1 : zI, ((¬ (I2 57 18) = (I2 57 5) → z_inr (I2 57 18) 160 ∧ (∀ y7 : Int32, y7 = (I2 61 (I2 57 18).toNatClampNeg) → ((f_Z_in y7 97 122) = 0 → ((f_Z_in y7 48 57) = 0 → (y7 = 40 → (∀ I11 : zI, I11 = z_up I2 57 20 y7 → (∀ I12 : zI, I12 = z_up I11 57 18 ((I11 57 18) + 1) → ((none : Option Value), G, J1) = (none, G, I12)))) ∧ (¬ y7 = 40 → (y7 = 41 → (∀ I14 : zI, I14 = z_up I2 57 20 y7 → (∀ I15 : zI, I15 = z_up I14 57 18 ((I14 57 18) + 1) → ((none : Option Value), G, J1) = (none, G, I15)))) ∧ (¬ y7 = 41 → (y7 = 59 → (∀ I17 : zI, I17 = z_up I2 57 20 y7 → (∀ I18 : zI, I18 = z_up I17 57 18 ((I17 57 18) + 1) → ((none : Option Value), G, J1) = (none, G, I18)))) ∧ (¬ y7 = 59 → (y7 = 43 → (∀ I20 : zI, I20 = z_up I2 57 20 y7 → (∀ I21 : zI, I21 = z_up I20 57 18 ((I20 57 18) + 1) → ((none : Option Value), G, J1) = (none, G, I21)))) ∧ (¬ y7 = 43 → (y7 = 45 → (∀ I23 : zI, I23 = z_up I2 57 20 y7 → (∀ I24 : zI, I24 = z_up I23 57 18 ((I23 57 18) + 1) → ((none : Option Value), G, J1) = (none, G, I24)))) ∧ (¬ y7 = 45 → (y7 = 42 → (∀ I26 : zI, I26 = z_up I2 57 20 y7 → (∀ I27 : zI, I27 = z_up I26 57 18 ((I26 57 18) + 1) → ((none : Option Value), G, J1) = (none, G, I27)))) ∧ (¬ y7 = 42 → (y7 = 60 → (∀ I29 : zI, I29 = z_up I2 57 20 y7 → (∀ I30 : zI, I30 = z_up I29 57 18 ((I29 57 18) + 1) → ((none : Option Value), G, J1) = (none, G, I30)))) ∧ (¬ y7 = 60 → (¬ y7 = 61 → (∀ I32 : zI, I32 = z_up I2 57 20 (-1) → (∀ I33 : zI, I33 = z_up I32 57 18 ((I32 57 18) + 1) → ((none : Option Value), G, J1) = (none, G, I33)))) ∧ (y7 = 61 → (∀ I34 : zI, I34 = z_up I2 57 20 y7 → (∀ I35 : zI, I35 = z_up I34 57 18 ((I34 57 18) + 1) → ((none : Option Value), G, J1) = (none, G, I35)))))))))))) ∧ (¬ (f_Z_in y7 48 57) = 0 → Ev X (d + 1) 130 230 [.ref 57, .int y7, .int 0] [] G I2 (none, G, J1))) ∧ (¬ (f_Z_in y7 97 122) = 0 → Ev X (d + 1) 130 103 [.ref 57, .int y7, zU] [] G I2 (none, G, J1)))) ∧ ((I2 57 18) = (I2 57 5) → ((none : Option Value), G, J1) = (none, G, I2))) ∧ J1 57 18 = zi (tke b n i) ∧ J1 57 19 = zi p ∧ RT J1 (tkt b n i) (tkv b n i) ∧ (∀ c, c ≠ 57 → J1 c = I2 c) ∧ ∀ k, k ≠ 18 → k ≠ 20 → k ≠ 21 → J1 57 k = I2 57 k by
    obtain ⟨J1, k1, k2, k3, k4, k5, k6⟩ := hh
    refine ⟨J1, fun A gA A3 gA3 B gB => ?_, k2, by rw [k3, hp], k4, fun c h => by rw [k5 c h, ac c h], fun k x y z w => by rw [k6 k x z w, ap k y z w]⟩
    obtain rfl : B = I2 := by rw [gB, gA3, gA, h8, hI2]
    exact k1
  by_cases hnp : n ≤ p
  · obtain rfl : p = n := by omega
    rw [if_pos hnp] at et ee
    have e : I2 57 18 = I2 57 5 := by rw [a8, hB2.1]
    refine ⟨I2, ⟨fun h => absurd e h, fun _ => rfl⟩, by rw [a8, ee], a9, ?_, fun c _ => rfl, fun k _ _ _ => rfl⟩
    rw [et]
    exact ⟨a0, fun h => absurd h (by decide), fun h => absurd h (by decide), fun h => absurd h (by decide)⟩
  rw [if_neg hnp] at et ee
  have ne : ¬ I2 57 18 = I2 57 5 := by rw [a8, hB2.1]; exact fun e => absurd ((zi_eq (by omega) (by omega)).1 e) (by omega)
  have ein : z_inr (I2 57 18) 160 := by rw [a8]; exact zi_inr (by omega) (by omega)
  have ebp : I2 61 (I2 57 18).toNatClampNeg = b p := by rw [a8, zi_nat (by omega)]; exact hB2.2.1 p (by omega)
  by_cases hl : lt_ (b p) = true
  · rw [if_pos hl] at et ee
    have nl : ¬ f_Z_in (b p) 97 122 = 0 := fun e => by rw [(f_Zlt _).1 e] at hl; cases hl
    obtain ⟨J1, k1, k2, k3, k4, k5⟩ := zwords (X := X) (d := d) hS (b := b) (p := p) hn (n - p) p I2 (b p) (by omega) (Nat.le_refl _) hB2 a9 a8 (fun x h1 h2 => absurd h2 (by omega))
    rw [← ee] at k2 k3
    refine ⟨J1, ⟨fun _ => ⟨ein, fun y hy => ?_⟩, fun h => absurd h ne⟩, k3, by rw [k5 19 (by decide) (by decide) (by decide)]; exact a9, ?_, k4, k5⟩
    · rw [hy, ebp]
      exact ⟨fun h => absurd h nl, fun _ => k1⟩
    · rw [et]
      refine ⟨k2.1, fun h => ?_, k2.2.2.1, k2.2.2.2⟩
      split at h <;> omega
  rw [if_neg hl] at et ee
  have yl : f_Z_in (b p) 97 122 = 0 := (f_Zlt _).2 (by simpa using hl)
  by_cases hd : di (b p) = true
  · rw [if_pos hd] at et ee
    have nd : ¬ f_Z_in (b p) 48 57 = 0 := fun e => by rw [(f_Zdi _).1 e] at hd; cases hd
    obtain ⟨J1, k1, k2, k3, k4, k5⟩ := znums (X := X) (d := d) hS (b := b) (p := p) hn (n - p) p I2 (b p) (by omega) (Nat.le_refl _) hB2 a8 (fun _ => by rw [a1, Nat.sub_self]; rfl)
    rw [← ee] at k2 k3
    rw [Nat.sub_self] at k1
    refine ⟨J1, ⟨fun _ => ⟨ein, fun y hy => ?_⟩, fun h => absurd h ne⟩, k3, by rw [k5 19 (by decide) (by decide) (by decide)]; exact a9, ?_, k4, k5⟩
    · rw [hy, ebp]
      exact ⟨fun _ => ⟨fun h => absurd h nd, fun _ => k1⟩, fun h => absurd yl h⟩
    · rw [et]
      unfold tkv
      rw [← hp]
      exact k2
  · rw [if_neg hd] at et ee
    have yd : f_Z_in (b p) 48 57 = 0 := (f_Zdi _).2 (by simpa using hd)
    refine ⟨z_up (z_up I2 57 20 (rtk (sgT (b p)))) 57 18 (zi (p + 1)), ⟨fun _ => ⟨ein, fun y hy => ?_⟩, fun h => absurd h ne⟩, by rw [up_same, ee], by rw [up_place (by decide), up_place (by decide)]; exact a9, ?_, fun c h => by rw [up_cell h, up_cell h], fun k h h2 _ => by rw [up_place h, up_place h2]⟩
    · rw [hy, ebp]
      have fin : ∀ (v : Int32), rtk (sgT (b p)) = v → ∀ A B : zI, A = z_up I2 57 20 v → B = z_up A 57 18 (A 57 18 + 1) → ((none : Option Value), G, z_up (z_up I2 57 20 (rtk (sgT (b p)))) 57 18 (zi (p + 1))) = (none, G, B) := fun v hv A B gA gB => by
        rw [gB, gA, up_place (by decide), a8, zi1 p, hv]
      refine ⟨fun _ => ⟨fun _ => ?_, fun h => absurd yd h⟩, fun h => absurd yl h⟩
      refine ⟨fun h A gA B gB => fin _ (by rw [h]; rfl) A B gA gB, fun h40 => ?_⟩
      refine ⟨fun h A gA B gB => fin _ (by rw [h]; rfl) A B gA gB, fun h41 => ?_⟩
      refine ⟨fun h A gA B gB => fin _ (by rw [h]; rfl) A B gA gB, fun h59 => ?_⟩
      refine ⟨fun h A gA B gB => fin _ (by rw [h]; rfl) A B gA gB, fun h43 => ?_⟩
      refine ⟨fun h A gA B gB => fin _ (by rw [h]; rfl) A B gA gB, fun h45 => ?_⟩
      refine ⟨fun h A gA B gB => fin _ (by rw [h]; rfl) A B gA gB, fun h42 => ?_⟩
      refine ⟨fun h A gA B gB => fin _ (by rw [h]; rfl) A B gA gB, fun h60 => ?_⟩
      refine ⟨fun h61 A gA B gB => fin _ ?_ A B gA gB, fun h A gA B gB => fin _ (by rw [h]; rfl) A B gA gB⟩
      unfold sgT
      rw [if_neg h40, if_neg h41, if_neg h59, if_neg h43, if_neg h45, if_neg h42, if_neg h60, if_neg h61]
      rfl
    · have h9 : sgT (b p) ≤ 10 ∧ sgT (b p) ≠ 2 := by
        unfold sgT
        repeat' split
        all_goals decide
      rw [et]
      exact ⟨by rw [up_place (by decide), up_same], fun h => by omega, fun h => by omega, fun h => by omega⟩
theorem next_loop {X : Nat × (Nat → Int32)} {d : Nat} {G : zG} (hS : SG G) {b : Nat → Int32} {n i : Nat} (hn : n ≤ 160) (hi : i ≤ n) :
    ∀ (m q : Nat) (I : zI), q + m = n → i ≤ q → ByZ I b n → I 57 18 = zi q → tkp b n i = run (fun k => bl (b k)) m q →
    ∃ J1 : zI, Ev X (d + 1) 130 0 [.ref 57, zU, zU] [] G I (none, G, J1) ∧ J1 57 18 = zi (tke b n i) ∧ J1 57 19 = zi (tkp b n i) ∧ RT J1 (tkt b n i) (tkv b n i) ∧ (∀ c, c ≠ 57 → J1 c = I c) ∧ ∀ k, k ≠ 18 → k ≠ 19 → k ≠ 20 → k ≠ 21 → J1 57 k = I 57 k := by
  intro m
  induction m with
  | zero =>
    intro q I hq hiq hB h2 hr
    obtain rfl : q = n := by omega
    have hr : tkp b q i = q := hr
    obtain ⟨I1, t, k⟩ := next_tail (X := X) (d := d) hS hn hi hB (by rw [hr]; exact h2)
    have le : I 57 5 ≤ I 57 18 := by rw [hB.1, h2]; exact Int32.le_refl _
    exact ⟨I1, wp_Z_next_0 hS ⟨fun _ => t, fun h => absurd le h⟩, k⟩
  | succ m ih =>
    intro q I hq hiq hB h2 hr
    have nle : ¬ I 57 5 ≤ I 57 18 := by rw [hB.1, h2]; exact fun e => absurd ((zi_le (by omega) (by omega)).1 e) (by omega)
    have ein : z_inr (I 57 18) 160 := by rw [h2]; exact zi_inr (by omega) (by omega)
    have eb2 : I 61 (I 57 18).toNatClampNeg = b q := by rw [h2, zi_nat (by omega)]; exact hB.2.1 q (by omega)
    by_cases hd : bl (b q) = true
    · obtain ⟨I2, hI2⟩ : ∃ I2 : zI, I2 = z_up I 57 18 (zi (q + 1)) := ⟨_, rfl⟩
      obtain ⟨I1, k1, k⟩ := ih (q + 1) I2 (by omega) (by omega) (by rw [hI2]; exact hB.up (by decide)) (by rw [hI2, up_same]) (by rw [hr]; exact if_pos hd)
      have go : ∀ A : zI, A = z_up I 57 18 (I 57 18 + 1) → Ev X (d + 1) 130 0 [.ref 57, zU, zU] [] G A (none, G, I1) := fun A g => by
        rw [h2, zi1 q] at g
        obtain rfl : A = I2 := by rw [g, hI2]
        exact k1
      obtain ⟨k2, k3, k4, k6, k7⟩ := k
      refine ⟨I1, wp_Z_next_0 hS ⟨fun h => absurd h nle, fun _ => ⟨ein, fun _ => go, ?_⟩⟩, k2, k3, k4, fun c h => by rw [k6 c h, hI2, up_cell h], fun k a b c e => by rw [k7 k a b c e, hI2, up_place a]⟩
      intro h32
      refine ⟨ein, fun h10 => ?_, fun _ => go⟩
      rw [eb2] at h32 h10
      exfalso
      rcases of_decide_eq_true hd with h | h
      · exact h32 h
      · exact h10 h
    · have hr : tkp b n i = q := hr.trans (if_neg hd)
      obtain ⟨I1, t, k⟩ := next_tail (X := X) (d := d) hS hn hi hB (by rw [hr]; exact h2)
      have n32 : ¬ I 61 (I 57 18).toNatClampNeg = 32 := fun e => hd (by rw [eb2] at e; rw [e]; rfl)
      have n10 : ¬ I 61 (I 57 18).toNatClampNeg = 10 := fun e => hd (by rw [eb2] at e; rw [e]; rfl)
      exact ⟨I1, wp_Z_next_0 hS ⟨fun h => absurd h nle, fun _ => ⟨ein, fun h => absurd h n32, fun _ => ⟨ein, fun _ => t, fun h => absurd h n10⟩⟩⟩, k⟩
theorem c_next {X : Nat × (Nat → Int32)} {d : Nat} {G : zG} (hS : SG G) {b : Nat → Int32} {n i : Nat} (hn : n ≤ 160) (hi : i ≤ n) {J : zI} (hB : ByZ J b n) (h8 : J 57 18 = zi i) :
    ∃ J1 : zI, Cv X (d + 1) 130 [.ref 57] G J (none, G, J1) ∧ J1 57 18 = zi (tke b n i) ∧ J1 57 19 = zi (tkp b n i) ∧ RT J1 (tkt b n i) (tkv b n i) ∧ (∀ c, c ≠ 57 → J1 c = J c) ∧ ∀ k, k ≠ 18 → k ≠ 19 → k ≠ 20 → k ≠ 21 → J1 57 k = J 57 k := by
  obtain ⟨J1, k1, k⟩ := next_loop (X := X) (d := d) hS (b := b) hn hi (n - i) i J (by omega) (Nat.le_refl _) hB h8 rfl
  exact ⟨J1, Cv.of hq_130 (z_le rfl) rfl k1, k⟩
