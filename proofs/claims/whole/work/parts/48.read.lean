/-! WHAT IS READ OF A MORNING, both -/
theorem bit1 (v : Int32) : ∃ b : Nat, b < 2 ∧ v &&& 1 = zi b := by
  have h : (v &&& 1).toBitVec = BitVec.setWidth 32 (BitVec.ofBool (v.toBitVec.getLsbD 0)) := by
    rw [Int32.toBitVec_and]
    exact BitVec.and_one_eq_setWidth_ofBool_getLsbD
  cases hb : v.toBitVec.getLsbD 0
  · exact ⟨0, by decide, Int32.toBitVec_inj.1 (by rw [h, hb]; rfl)⟩
  · exact ⟨1, by decide, Int32.toBitVec_inj.1 (by rw [h, hb]; rfl)⟩
theorem most_loop {X : Nat × (Nat → Int32)} {d : Nat} {G : zG} (hS : SG G) {I J : zI} {x : Nat} (hx : x < 4) (hM : ∀ s, s < 30 → I (27 + x) s = J 74 (4 * s + x)) (a b : Int32) :
    ∀ (m t : Nat) (v : Int32), t + m = 30 → ∃ r : Int32, Ev X (d + 1) 70 9 [.ref 25, .int (zi x), .int a, .int v, .int (zi t)] [] G I (some (.int r), G, I) ∧ ∀ v6 : Value, v6.category = 1 → Ev X (d + 1) 166 15 [.ref 57, .int (zi x), .int b, .int 0, .int v, .int (zi t), v6] [] G J (some (.int r), G, J) := by
  intro m
  induction m with
  | zero =>
    intro t v ht
    obtain rfl : t = 30 := by omega
    exact ⟨v, wp_M_mostFelt_9 _ _ _ _ hS ⟨fun _ => rfl, fun h => absurd (by decide) h⟩, fun v6 c6 => wp_Z_mostFelt_15 _ _ _ _ _ v6 c6 hS ⟨fun _ => rfl, fun h => absurd (by decide) h⟩⟩
  | succ m ih =>
    intro t v ht
    have nt : ¬ (30 : Int32) ≤ zi t := fun h => absurd ((zi_le (a := 30) (by omega) (by omega)).1 h) (by omega)
    obtain ⟨r, k1, k2⟩ := ih (t + 1) (if v < J 74 (4 * t + x) then J 74 (4 * t + x) else v) (by omega)
    refine ⟨r, wp_M_mostFelt_9 _ _ _ _ hS ⟨fun h => absurd h nt, fun _ => ?_⟩, fun v6 c6 => wp_Z_mostFelt_15 _ _ _ _ _ v6 c6 hS ⟨fun h => absurd h nt, fun _ => ?_⟩⟩
    · rw [zi_nat (show x < _ by omega), zi_nat (show t < _ by omega), hM t (by omega), zi1]
      exact ⟨zi_inr (by omega) (by omega), zi_inr (by omega) (by omega), fun y5 h5 y6 h6 => by rw [h5, h6]; exact k1⟩
    · rw [z41, zi_nat (show 4 * t + x < _ by omega), zi1]
      refine ⟨zi_inr (by omega) (by omega), fun y3 h3 => ⟨fun _ => ⟨fun h y hy => ?_, fun h y hy => ?_⟩, fun h => absurd rfl h⟩⟩
      · rw [← h3, if_neg (Int32.not_lt.2 h)] at k2
        rw [hy]; exact k2 _ rfl
      · rw [← h3, if_pos (Int32.not_le.1 h)] at k2
        rw [hy]; exact k2 _ rfl
theorem least_loop {X : Nat × (Nat → Int32)} {d : Nat} {G : zG} (hS : SG G) {I J : zI} {x : Nat} (hx : x < 4) (hM : ∀ s, s < 30 → I (27 + x) s = J 74 (4 * s + x)) (a b : Int32) :
    ∀ (m t : Nat) (v : Int32), t + m = 30 → ∃ r : Int32, Ev X (d + 1) 74 11 [.ref 25, .int (zi x), .int a, .int v, .int (zi t)] [] G I (some (.int r), G, I) ∧ ∀ v6 : Value, v6.category = 1 → Ev X (d + 1) 166 15 [.ref 57, .int (zi x), .int b, .int 1, .int v, .int (zi t), v6] [] G J (some (.int r), G, J) := by
  intro m
  induction m with
  | zero =>
    intro t v ht
    obtain rfl : t = 30 := by omega
    exact ⟨v, wp_M_leastFelt_11 _ _ _ _ hS ⟨fun _ => rfl, fun h => absurd (by decide) h⟩, fun v6 c6 => wp_Z_mostFelt_15 _ _ _ _ _ v6 c6 hS ⟨fun _ => rfl, fun h => absurd (by decide) h⟩⟩
  | succ m ih =>
    intro t v ht
    have nt : ¬ (30 : Int32) ≤ zi t := fun h => absurd ((zi_le (a := 30) (by omega) (by omega)).1 h) (by omega)
    obtain ⟨r, k1, k2⟩ := ih (t + 1) (if J 74 (4 * t + x) < v then J 74 (4 * t + x) else v) (by omega)
    refine ⟨r, wp_M_leastFelt_11 _ _ _ _ hS ⟨fun h => absurd h nt, fun _ => ?_⟩, fun v6 c6 => wp_Z_mostFelt_15 _ _ _ _ _ v6 c6 hS ⟨fun h => absurd h nt, fun _ => ?_⟩⟩
    · rw [zi_nat (show x < _ by omega), zi_nat (show t < _ by omega), hM t (by omega), zi1]
      exact ⟨zi_inr (by omega) (by omega), zi_inr (by omega) (by omega), fun y5 h5 y6 h6 => by rw [h5, h6]; exact k1⟩
    · rw [z41, zi_nat (show 4 * t + x < _ by omega), zi1]
      refine ⟨zi_inr (by omega) (by omega), fun y3 h3 => ⟨fun h => absurd h (by decide), fun _ => ⟨fun h y hy => ?_, fun h y hy => ?_⟩⟩⟩
      · rw [← h3, if_neg (Int32.not_lt.2 h)] at k2
        rw [hy]; exact k2 _ rfl
      · rw [← h3, if_pos (Int32.not_le.1 h)] at k2
        rw [hy]; exact k2 _ rfl
/-- the most felt from a beat on -/
theorem most_sim {X : Nat × (Nat → Int32)} {d : Nat} {G : zG} (hS : SG G) {I J : zI} {x f : Nat} (hx : x < 4) (hf : f < 30) (hM : ∀ s, s < 30 → I (27 + x) s = J 74 (4 * s + x) ∧ rg (J 74 (4 * s + x)) 999) :
    ∃ r : Int32, Cv X (d + 1) 70 [.ref 25, .int (zi x), .int (zi f)] G I (some (.int r), G, I) ∧ Cv X (d + 1) 166 [.ref 57, .int (zi x), .int (zi f), .int 0] G J (some (.int r), G, J) := by
  obtain ⟨r, k1, k2⟩ := most_loop (X := X) (d := d) hS hx (fun s h => (hM s h).1) (zi f) (zi f) (30 - (f + 1)) (f + 1) (J 74 (4 * f + x)) (by omega)
  have nt : ¬ (30 : Int32) ≤ zi f := fun h => absurd ((zi_le (a := 30) (by omega) (by omega)).1 h) (by omega)
  refine ⟨r, Cv.of hq_70 (z_le rfl) rfl (wp_M_mostFelt _ _ fun y hy => ?_), Cv.of hq_166 (z_le rfl) rfl (wp_Z_mostFelt _ _ _ hS ?_)⟩
  · rw [hy, max0 (m := zi f) (by rw [zi_int (by omega)]; omega)]
    refine wp_M_mostFelt_9 _ _ _ _ hS ⟨fun h => absurd h nt, fun _ => ?_⟩
    rw [zi_nat (show x < _ by omega), zi_nat (show f < _ by omega), (hM f hf).1, zi1]
    refine ⟨zi_inr (by omega) (by omega), zi_inr (by omega) (by omega), fun y5 h5 y6 h6 => ?_⟩
    rw [h5, h6, max0 (hM f hf).2.1]; exact k1
  · rw [z41, zi_nat (show 4 * f + x < _ by omega)]
    refine ⟨zi_inr (by omega) (by omega), fun y2 h2 => wp_Z_mostFelt_15 _ _ _ _ _ _ rfl hS ⟨fun h => absurd h nt, fun _ => ?_⟩⟩
    rw [z41, zi_nat (show 4 * f + x < _ by omega), zi1]
    refine ⟨zi_inr (by omega) (by omega), fun y3 h3 => ⟨fun _ => ⟨fun h y hy => ?_, fun h => absurd ?_ h⟩, fun h => absurd rfl h⟩⟩
    · rw [hy, h2]; exact k2 _ rfl
    · rw [h3, h2]; exact Int32.le_refl _
theorem least_sim {X : Nat × (Nat → Int32)} {d : Nat} {G : zG} (hS : SG G) {I J : zI} {x f : Nat} (hx : x < 4) (hf : f < 30) (hM : ∀ s, s < 30 → I (27 + x) s = J 74 (4 * s + x) ∧ rg (J 74 (4 * s + x)) 999) :
    ∃ r : Int32, Cv X (d + 1) 74 [.ref 25, .int (zi x), .int (zi f)] G I (some (.int r), G, I) ∧ Cv X (d + 1) 166 [.ref 57, .int (zi x), .int (zi f), .int 1] G J (some (.int r), G, J) := by
  obtain ⟨r, k1, k2⟩ := least_loop (X := X) (d := d) hS hx (fun s h => (hM s h).1) (zi f) (zi f) (30 - (f + 1)) (f + 1) (J 74 (4 * f + x)) (by omega)
  have nt : ¬ (30 : Int32) ≤ zi f := fun h => absurd ((zi_le (a := 30) (by omega) (by omega)).1 h) (by omega)
  refine ⟨r, Cv.of hq_74 (z_le rfl) rfl (wp_M_leastFelt _ _ fun y hy => ?_), Cv.of hq_166 (z_le rfl) rfl (wp_Z_mostFelt _ _ _ hS ?_)⟩
  · rw [hy, max0 (m := zi f) (by rw [zi_int (by omega)]; omega)]
    refine wp_M_leastFelt_11 _ _ _ _ hS ⟨fun h => absurd h nt, fun _ => ?_⟩
    rw [zi_nat (show x < _ by omega), zi_nat (show f < _ by omega), (hM f hf).1, zi1]
    refine ⟨zi_inr (by omega) (by omega), zi_inr (by omega) (by omega), fun y5 h5 y6 h6 => ?_⟩
    have e : (if J 74 (4 * f + x) < 999 then J 74 (4 * f + x) else 999) = J 74 (4 * f + x) := by
      by_cases q : J 74 (4 * f + x) < 999
      · rw [if_pos q]
      · rw [if_neg q]
        have q2 := z_lq.1 (Int32.not_lt.1 q)
        exact Int32.toInt_inj.1 (Int.le_antisymm q2 (hM f hf).2.2)
    rw [h5, h6, e]; exact k1
  · rw [z41, zi_nat (show 4 * f + x < _ by omega)]
    refine ⟨zi_inr (by omega) (by omega), fun y2 h2 => wp_Z_mostFelt_15 _ _ _ _ _ _ rfl hS ⟨fun h => absurd h nt, fun _ => ?_⟩⟩
    rw [z41, zi_nat (show 4 * f + x < _ by omega), zi1]
    refine ⟨zi_inr (by omega) (by omega), fun y3 h3 => ⟨fun h => absurd h (by decide), fun _ => ⟨fun h y hy => ?_, fun h => absurd ?_ h⟩⟩⟩
    · rw [hy, h2]; exact k2 _ rfl
    · rw [h3, h2]; exact Int32.le_refl _
theorem pd_lt {m : Nat} (h : m < 1000) : zi m - 1 < 0 ↔ m = 0 := by
  rw [z_lt, z_sub (by rw [zi_int (by omega)]; show _ ≤ (m : Int) - 1; omega) (by rw [zi_int (by omega)]; show (m : Int) - 1 < _; omega), zi_int (by omega)]
  show (m : Int) - 1 < 0 ↔ _
  omega
theorem rest_loop {X : Nat × (Nat → Int32)} {d : Nat} {G : zG} (hS : SG G) {I J : zI} {x : Nat} (hx : x < 4) (hM : ∀ s, s < 30 → I (27 + x) s = J 74 (4 * s + x)) (near : Int32) :
    ∀ (m k : Nat), m ≤ 30 → k ≤ 30 → ∃ r : Int32, (r = -1 ∨ ∃ e : Nat, e < 30 ∧ r = zi e) ∧ Ev X (d + 1) 72 8 [.ref 25, .int (zi x), .int (J 60 (5 * x + 1)), .int near, .int (zi k), .int (zi m - 1)] [] G I (some (.int r), G, I) ∧ Ev X (d + 1) 170 6 [.ref 57, .int (zi x), .int near, .int (if k = 30 then -1 else zi k), .int (zi m - 1)] [] G J (some (.int r), G, J) := by
  have fin_ : ∀ k : Nat, k ≤ 30 → (if k = 30 then (-1 : Int32) else zi k) = -1 ∨ ∃ e : Nat, e < 30 ∧ (if k = 30 then (-1 : Int32) else zi k) = zi e := by
    intro k hk
    by_cases e : k = 30
    · rw [if_pos e]; exact Or.inl rfl
    · rw [if_neg e]; exact Or.inr ⟨k, by omega, rfl⟩
  have ans : ∀ k : Nat, k ≤ 30 → ((30 : Int32) ≤ zi k → ((some (.int (if k = 30 then (-1 : Int32) else zi k)) : Option Value), G, I) = (some (.int (-1)), G, I)) ∧ (¬ (30 : Int32) ≤ zi k → ((some (.int (if k = 30 then (-1 : Int32) else zi k)) : Option Value), G, I) = (some (.int (zi k)), G, I)) := by
    intro k hk
    refine ⟨fun h => ?_, fun h => ?_⟩
    · have := (zi_le (a := 30) (by omega) (by omega)).1 h
      rw [if_pos (by omega)]
    · rw [if_neg (fun e => h (by rw [e]; decide))]
  intro m
  induction m with
  | zero =>
    intro k _ hk
    exact ⟨_, fin_ k hk, wp_M_restsFrom_8 _ _ _ _ _ hS ⟨fun _ => ans k hk, fun h => absurd (by decide) h⟩, wp_Z_restsBy_6 _ _ _ _ hS ⟨fun _ => rfl, fun h => absurd (by decide) h⟩⟩
  | succ m ih =>
    intro k hm hk
    have nt : ¬ zi (m + 1) - 1 < 0 := fun h => absurd ((pd_lt (by omega)).1 h) (by omega)
    have e1 : zi (m + 1) - 1 = zi m := zi_sub (b := 1) (by omega)
    rw [e1] at nt ⊢
    have e2 : zi m + (-1) = zi m - 1 := (Int32.sub_eq_add_neg _ _).symm
    have e4 : ∀ s : Nat, (4 : Int32) * zi s + zi x = zi (4 * s + x) := fun s => z41 x s
    by_cases hf : f_Z_far (J 60 (5 * x + 1) - J 74 (4 * m + x)) ≤ near
    · obtain ⟨r, hr, k1, k2⟩ := ih m (by omega) (by omega)
      rw [if_neg (by omega)] at k2
      refine ⟨r, hr, wp_M_restsFrom_8 _ _ _ _ _ hS ⟨fun h => absurd h nt, fun _ => ?_⟩, wp_Z_restsBy_6 _ _ _ _ hS ⟨fun h => absurd h nt, fun _ => ?_⟩⟩
      · rw [zi_nat (show x < _ by omega), zi_nat (show m < _ by omega), hM m (by omega), far_eq]
        refine ⟨zi_inr (by omega) (by omega), zi_inr (by omega) (by omega), fun h => absurd h (Int32.not_lt.2 hf), fun _ y hy => ?_⟩
        rw [hy, e2]; exact k1
      · rw [show (5 : Int32) * zi x + 1 = zi (5 * x + 1) from z51 x 1, e4, zi_nat (show 5 * x + 1 < _ by omega), zi_nat (show 4 * m + x < _ by omega)]
        refine ⟨zi_inr (by omega) (by omega), zi_inr (by omega) (by omega), fun _ y hy => ?_, fun h => absurd hf h⟩
        rw [hy, e2]; exact k2
    · refine ⟨_, fin_ k hk, wp_M_restsFrom_8 _ _ _ _ _ hS ⟨fun h => absurd h nt, fun _ => ?_⟩, wp_Z_restsBy_6 _ _ _ _ hS ⟨fun h => absurd h nt, fun _ => ?_⟩⟩
      · rw [zi_nat (show x < _ by omega), zi_nat (show m < _ by omega), hM m (by omega), far_eq]
        exact ⟨zi_inr (by omega) (by omega), zi_inr (by omega) (by omega), fun _ => ans k hk, fun h => absurd (Int32.not_le.1 hf) h⟩
      · rw [show (5 : Int32) * zi x + 1 = zi (5 * x + 1) from z51 x 1, e4, zi_nat (show 5 * x + 1 < _ by omega), zi_nat (show 4 * m + x < _ by omega)]
        exact ⟨zi_inr (by omega) (by omega), zi_inr (by omega) (by omega), fun h => absurd h hf, fun _ => rfl⟩
/-- from which beat on it rests -/
theorem rest_sim {X : Nat × (Nat → Int32)} {d : Nat} {G : zG} (hS : SG G) {I J : zI} {x : Nat} (hx : x < 4) (hM : ∀ s, s < 30 → I (27 + x) s = J 74 (4 * s + x)) (near : Int32) :
    ∃ r : Int32, (r = -1 ∨ ∃ e : Nat, e < 30 ∧ r = zi e) ∧ Cv X (d + 1) 72 [.ref 25, .int (zi x), .int (J 60 (5 * x + 1)), .int near] G I (some (.int r), G, I) ∧ Cv X (d + 1) 170 [.ref 57, .int (zi x), .int near] G J (some (.int r), G, J) := by
  obtain ⟨r, hr, k1, k2⟩ := rest_loop (X := X) (d := d) hS hx hM near 30 30 (by omega) (by omega)
  exact ⟨r, hr, Cv.of hq_72 (z_le rfl) rfl (wp_M_restsFrom _ _ _ k1), Cv.of hq_170 (z_le rfl) rfl (wp_Z_restsBy _ _ k2)⟩
theorem cost_loop {X : Nat × (Nat → Int32)} {d : Nat} {G : zG} (hS : SG G) {I J : zI} {n : Nat} (hn : n ≤ 4) (hj : J 57 0 = zi n) (hM : ∀ y, y < n → I 36 y = J 75 y ∧ rg (J 75 y) ((2970 : Nat) : Int)) :
    ∀ (m x : Nat) (v : Int32), x + m = n → rg v ((2970 * x : Nat) : Int) → ∃ r : Int32, rg r 11880 ∧ Ev X d 76 4 [.ref 25, .int (zi n), .int v, .int (zi x)] [] G I (some (.int r), G, I) ∧ Ev X d 173 4 [.ref 57, .int v, .int (zi x)] [] G J (some (.int r), G, J) := by
  intro m
  induction m with
  | zero =>
    intro x v hx hv
    obtain rfl : x = n := by omega
    exact ⟨v, ⟨hv.1, by have := hv.2; omega⟩, wp_M_costOfAll_4 _ _ _ hS ⟨fun _ => rfl, fun h => absurd (Int32.le_refl _) h⟩, wp_Z_costNow_4 _ _ hS ⟨fun _ => rfl, fun h => absurd (by rw [hj]; exact Int32.le_refl _) h⟩⟩
  | succ m ih =>
    intro x v hx hv
    have nx : ¬ zi n ≤ zi x := fun h => absurd ((zi_le (by omega) (by omega)).1 h) (by omega)
    obtain ⟨e1, e2⟩ := hM x (by omega)
    obtain ⟨r, hr, k1, k2⟩ := ih (x + 1) (v + J 75 x) (by omega) (by
      have := rg_add hv e2 (by omega)
      rw [show 2970 * (x + 1) = 2970 * x + 2970 by omega]; exact this)
    refine ⟨r, hr, wp_M_costOfAll_4 _ _ _ hS ⟨fun h => absurd h nx, fun _ => ⟨fun h => absurd ((zi_le (a := 4) (by omega) (by omega)).1 h) (by omega), fun _ => ?_⟩⟩, wp_Z_costNow_4 _ _ hS ?_⟩
    · rw [zi_nat (show x < _ by omega), e1, zi1]
      exact ⟨zi_inr (by omega) (by omega), fun y hy y2 hy2 => by rw [hy, hy2]; exact k1⟩
    · rw [hj, zi_nat (show x < _ by omega), zi1]
      exact ⟨fun h => absurd h nx, fun _ => ⟨zi_inr (by omega) (by omega), fun y hy y2 hy2 => by rw [hy, hy2]; exact k2⟩⟩
/-- what all cost -/
theorem cost_sim {X : Nat × (Nat → Int32)} {d : Nat} {G : zG} (hS : SG G) {I J : zI} {n : Nat} (hn : n ≤ 4) (hj : J 57 0 = zi n) (hM : ∀ y, y < n → I 36 y = J 75 y ∧ rg (J 75 y) ((2970 : Nat) : Int)) :
    ∃ r : Int32, rg r 11880 ∧ Cv X d 76 [.ref 25, .int (zi n)] G I (some (.int r), G, I) ∧ Cv X d 173 [.ref 57] G J (some (.int r), G, J) := by
  obtain ⟨r, hr, k1, k2⟩ := cost_loop (X := X) (d := d) hS hn hj hM n 0 0 (by omega) ⟨by decide, by decide⟩
  exact ⟨r, hr, Cv.of hq_76 (z_le rfl) rfl (wp_M_costOfAll _ k1), Cv.of hq_173 (z_le rfl) rfl (wp_Z_costNow k2)⟩
theorem criers_loop {X : Nat × (Nat → Int32)} {d : Nat} {G : zG} (hS : SG G) {I J : zI} {n : Nat} (hn : n ≤ 4) (hj : J 57 0 = zi n) (hM : ∀ y, y < n → I 37 y = J 76 y) :
    ∀ (m x : Nat) (v : Int32), x + m = n → ∃ r : Int32, Ev X d 77 4 [.ref 25, .int (zi n), .int v, .int (zi x)] [] G I (some (.int r), G, I) ∧ Ev X d 174 4 [.ref 57, .int v, .int (zi x)] [] G J (some (.int r), G, J) := by
  intro m
  induction m with
  | zero =>
    intro x v hx
    obtain rfl : x = n := by omega
    exact ⟨v, wp_M_criersAtAll_4 _ _ _ hS ⟨fun _ => rfl, fun h => absurd (Int32.le_refl _) h⟩, wp_Z_criersNow_4 _ _ hS ⟨fun _ => rfl, fun h => absurd (by rw [hj]; exact Int32.le_refl _) h⟩⟩
  | succ m ih =>
    intro x v hx
    have nx : ¬ zi n ≤ zi x := fun h => absurd ((zi_le (by omega) (by omega)).1 h) (by omega)
    by_cases hc : J 76 x = 0
    · obtain ⟨r, k1, k2⟩ := ih (x + 1) v (by omega)
      refine ⟨r, wp_M_criersAtAll_4 _ _ _ hS ⟨fun h => absurd h nx, fun _ => ⟨fun h => absurd ((zi_le (a := 4) (by omega) (by omega)).1 h) (by omega), fun _ => ?_⟩⟩, wp_Z_criersNow_4 _ _ hS ?_⟩
      · rw [zi_nat (show x < _ by omega), hM x (by omega), zi1]
        exact ⟨zi_inr (by omega) (by omega), fun _ y hy => by rw [hy]; exact k1, fun h => absurd hc h⟩
      · rw [hj, zi_nat (show x < _ by omega), zi1]
        exact ⟨fun h => absurd h nx, fun _ => ⟨zi_inr (by omega) (by omega), fun _ y hy y2 hy2 => by rw [hy, hy2, Int32.or_zero]; exact k2, fun h => absurd hc h⟩⟩
    · obtain ⟨r, k1, k2⟩ := ih (x + 1) (v ||| (1 <<< (zi x &&& 31))) (by omega)
      refine ⟨r, wp_M_criersAtAll_4 _ _ _ hS ⟨fun h => absurd h nx, fun _ => ⟨fun h => absurd ((zi_le (a := 4) (by omega) (by omega)).1 h) (by omega), fun _ => ?_⟩⟩, wp_Z_criersNow_4 _ _ hS ?_⟩
      · rw [zi_nat (show x < _ by omega), hM x (by omega), zi1]
        exact ⟨zi_inr (by omega) (by omega), fun h => absurd h hc, fun _ y hy y2 hy2 => by rw [hy, hy2]; exact k1⟩
      · rw [hj, zi_nat (show x < _ by omega), zi1]
        exact ⟨fun h => absurd h nx, fun _ => ⟨zi_inr (by omega) (by omega), fun h => absurd h hc, fun _ y hy y2 hy2 => by rw [hy, hy2]; exact k2⟩⟩
theorem criers_sim {X : Nat × (Nat → Int32)} {d : Nat} {G : zG} (hS : SG G) {I J : zI} {n : Nat} (hn : n ≤ 4) (hj : J 57 0 = zi n) (hM : ∀ y, y < n → I 37 y = J 76 y) :
    ∃ r : Int32, Cv X d 77 [.ref 25, .int (zi n)] G I (some (.int r), G, I) ∧ Cv X d 174 [.ref 57] G J (some (.int r), G, J) := by
  obtain ⟨r, k1, k2⟩ := criers_loop (X := X) (d := d) hS hn hj hM n 0 0 (by omega)
  exact ⟨r, Cv.of hq_77 (z_le rfl) rfl (wp_M_criersAtAll _ k1), Cv.of hq_174 (z_le rfl) rfl (wp_Z_criersNow k2)⟩
def pc4 (a : Nat) : Nat := a % 2 + a / 2 % 2 + a / 4 % 2 + a / 8 % 2
theorem bits_or : ∀ y, y < 4 → ∀ A, A < 2 ^ y → ∀ b, b < 2 → zi A ||| (zi b <<< (zi y &&& 31)) = zi (A + b * 2 ^ y) ∧ pc4 (A + b * 2 ^ y) = pc4 A + b ∧ A + b * 2 ^ y < 2 ^ (y + 1) := by decide
theorem bitc {X : Nat × (Nat → Int32)} {d : Nat} {G : zG} {I : zI} {A : Nat} (h : A < 16) : Cv X d 80 [.int (zi A)] G I (some (.int (zi (pc4 A))), G, I) := by
  refine Cv.of hq_80 (z_le rfl) rfl (wp_I_bitCount _ fun y1 h1 y2 h2 y3 h3 y4 h4 y5 h5 => ?_)
  have e : ∀ A, A < 16 → ∀ y1 : Int32, y1 = (zi A - (((zi A).toUInt32 >>> ((1 : Int32).toUInt32 &&& Int32.toUInt32 31)).toInt32 &&& 1431655765)) → ∀ y2 : Int32, y2 = ((y1 &&& 858993459) + (((y1.toUInt32 >>> ((2 : Int32).toUInt32 &&& Int32.toUInt32 31)).toInt32) &&& 858993459)) → ∀ y3 : Int32, y3 = ((y2 + ((y2.toUInt32 >>> ((4 : Int32).toUInt32 &&& Int32.toUInt32 31)).toInt32)) &&& 252645135) → ∀ y4 : Int32, y4 = (y3 + ((y3.toUInt32 >>> ((8 : Int32).toUInt32 &&& Int32.toUInt32 31)).toInt32)) → ∀ y5 : Int32, y5 = (y4 + ((y4.toUInt32 >>> ((16 : Int32).toUInt32 &&& Int32.toUInt32 31)).toInt32)) → zi (pc4 A) = y5 &&& 63 := by
    simp only [forall_eq]
    decide
  rw [e A h y1 h1 y2 h2 y3 h3 y4 h4 y5 h5]
/-- who cries in a beat: the class's bits, and how many the reference counts -/
theorem loud_loop {X : Nat × (Nat → Int32)} {d : Nat} {G : zG} (hS : SG G) {I J : zI} {n t : Nat} (hn : n ≤ 4) (hj : J 57 0 = zi n) (hM : ∀ y, y < n → I 37 y = J 76 y) (x1 x2 : Int32) :
    ∀ (m x A : Nat), x + m = n → A < 2 ^ x → ∃ B : Nat, B < 16 ∧ Ev X d 79 5 [.ref 25, .int (zi t), .int (zi n), .int (zi A), .int (zi x)] [] G I (some (.int (zi B)), G, I) ∧
      ∀ res, Ev X d 175 18 [.ref 57, .int x1, .int x2, .int (zi t), .int (zi (pc4 B)), .int (zi n)] [] G J res → Ev X d 175 18 [.ref 57, .int x1, .int x2, .int (zi t), .int (zi (pc4 A)), .int (zi x)] [] G J res := by
  intro m
  induction m with
  | zero =>
    intro x A hx hA
    obtain rfl : x = n := by omega
    have : 2 ^ x ≤ 2 ^ 4 := Nat.pow_le_pow_right (by omega) hn
    exact ⟨A, by omega, wp_M_criersIn_5 _ _ _ _ hS ⟨fun _ => rfl, fun h => absurd (Int32.le_refl _) h⟩, fun res k => k⟩
  | succ m ih =>
    intro x A hx hA
    have nx : ¬ zi n ≤ zi x := fun h => absurd ((zi_le (by omega) (by omega)).1 h) (by omega)
    obtain ⟨b, hb, eb⟩ := bit1 (J 76 x >>> (zi t &&& 31))
    obtain ⟨o1, o2, o3⟩ := bits_or x (by omega) A hA b hb
    obtain ⟨B, hB, k1, k2⟩ := ih (x + 1) (A + b * 2 ^ x) (by omega) o3
    refine ⟨B, hB, wp_M_criersIn_5 _ _ _ _ hS ⟨fun h => absurd h nx, fun _ => ⟨fun h => absurd ((zi_le (a := 4) (by omega) (by omega)).1 h) (by omega), fun _ => ?_⟩⟩, fun res k => wp_Z_loudest_18 _ _ _ _ _ hS ?_⟩
    · rw [zi_nat (show x < _ by omega), hM x (by omega), eb, o1, zi1]
      exact ⟨zi_inr (by omega) (by omega), fun y hy y2 hy2 => by rw [hy, hy2]; exact k1⟩
    · rw [hj, zi_nat (show x < _ by omega), eb, zi1 x]
      refine ⟨fun h => absurd h nx, fun _ => ⟨zi_inr (by omega) (by omega), fun y hy y2 hy2 => ?_⟩⟩
      rw [hy, hy2, zi_add, ← o2]; exact k2 res k
theorem loudest_loop {X : Nat × (Nat → Int32)} {d : Nat} {G : zG} (hS : SG G) {I J : zI} {n : Nat} (hn : n ≤ 4) (hj : J 57 0 = zi n) (hM : ∀ y, y < n → I 37 y = J 76 y) :
    ∀ (m t : Nat) (v u : Int32), t + m = 30 → ∃ r : Int32, (∀ v5 : Value, v5.category = 1 → Ev X (d + 1) 78 7 [.ref 25, .int (zi n), .int v, .int u, .int (zi t), v5] [] G I (some (.int r), G, I)) ∧ ∀ v4 v5 : Value, v4.category = 1 → v5.category = 1 → Ev X d 175 6 [.ref 57, .int v, .int u, .int (zi t), v4, v5] [] G J (some (.int r), G, J) := by
  intro m
  induction m with
  | zero =>
    intro t v u ht
    obtain rfl : t = 30 := by omega
    exact ⟨v, fun v5 c5 => wp_M_loudestBeat_7 _ _ _ _ v5 c5 hS ⟨fun _ => rfl, fun h => absurd (by decide) h⟩, fun v4 v5 c4 c5 => wp_Z_loudest_6 _ _ _ v4 c4 v5 c5 ⟨fun _ => rfl, fun h => absurd (by decide) h⟩⟩
  | succ m ih =>
    intro t v u ht
    have nt : ¬ (30 : Int32) ≤ zi t := fun h => absurd ((zi_le (a := 30) (by omega) (by omega)).1 h) (by omega)
    obtain ⟨B, hB, k1, k2⟩ := loud_loop (X := X) (d := d) hS (t := t) hn hj hM v u n 0 0 (by omega) (by decide)
    have c1 : Cv X d 79 [.ref 25, .int (zi t), .int (zi n)] G I (some (.int (zi B)), G, I) := Cv.of hq_79 (z_le rfl) rfl (wp_M_criersIn _ _ k1)
    by_cases hc : zi (pc4 B) ≤ u
    · obtain ⟨r, j1, j2⟩ := ih (t + 1) v u (by omega)
      refine ⟨r, fun v5 c5 => wp_M_loudestBeat_7 _ _ _ _ v5 c5 hS ⟨fun h => absurd h nt, fun _ => ⟨_, _, c1, _, _, bitc hB, fun _ y hy => ?_, fun h => absurd hc h⟩⟩, fun v4 v5 c4 c5 => wp_Z_loudest_6 _ _ _ v4 c4 v5 c5 ⟨fun h => absurd h nt, fun _ => k2 _ (wp_Z_loudest_18 _ _ _ _ _ hS ⟨fun _ => ⟨fun _ => ⟨fun _ y hy => ?_, fun h => absurd hc h⟩, fun h => absurd hc h⟩, fun h => absurd ?_ h⟩)⟩⟩
      · rw [hy, zi1]; exact j1 _ rfl
      · rw [hy, zi1]; exact j2 _ _ rfl rfl
      · rw [hj]; exact Int32.le_refl _
    · obtain ⟨r, j1, j2⟩ := ih (t + 1) (zi t) (zi (pc4 B)) (by omega)
      refine ⟨r, fun v5 c5 => wp_M_loudestBeat_7 _ _ _ _ v5 c5 hS ⟨fun h => absurd h nt, fun _ => ⟨_, _, c1, _, _, bitc hB, fun h => absurd h hc, fun _ y hy => ?_⟩⟩, fun v4 v5 c4 c5 => wp_Z_loudest_6 _ _ _ v4 c4 v5 c5 ⟨fun h => absurd h nt, fun _ => k2 _ (wp_Z_loudest_18 _ _ _ _ _ hS ⟨fun _ => ⟨fun h => absurd h hc, fun _ => ⟨fun h => absurd h hc, fun _ y hy => ?_⟩⟩, fun h => absurd ?_ h⟩)⟩⟩
      · rw [hy, zi1]; exact j1 _ rfl
      · rw [hy, zi1]; exact j2 _ _ rfl rfl
      · rw [hj]; exact Int32.le_refl _
theorem loudest_sim {X : Nat × (Nat → Int32)} {d : Nat} {G : zG} (hS : SG G) {I J : zI} {n : Nat} (hn : n ≤ 4) (hj : J 57 0 = zi n) (hM : ∀ y, y < n → I 37 y = J 76 y) :
    ∃ r : Int32, Cv X (d + 1) 78 [.ref 25, .int (zi n)] G I (some (.int r), G, I) ∧ Cv X (d + 1) 175 [.ref 57] G J (some (.int r), G, J) := by
  obtain ⟨r, k1, k2⟩ := loudest_loop (X := X) (d := d) hS hn hj hM 30 0 (-1) 0 (by omega)
  exact ⟨r, Cv.of hq_78 (z_le rfl) rfl (wp_M_loudestBeat _ (k1 _ rfl)), (Cv.of hq_175 (z_le rfl) rfl (wp_Z_loudest (k2 _ _ rfl rfl))).deep (by omega)⟩
