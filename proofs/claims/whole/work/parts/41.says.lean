/-! A TEXT OF THE CLASS (a law at w) AND THE REFERENCE'S TEXT t ARE THE SAME STEPS -/
def TR (G : zG) (I J : zI) (w t : Nat) : Prop := LW G w ∧ t < 6 ∧ zl G (w + 1) ≤ 160 ∧ ∃ (st : Nat → Nat) (dp : Nat → Nat → Nat), st 3 ≤ zl G (w + 1) ∧ (∀ p, p < 3 → st p ≤ st (p + 1)) ∧
  (∀ p, p < 4 → I (w + 2) p = zi (st p) ∧ J 63 (4 * t + p) = zi (st p)) ∧
  ∀ p, p < 3 → dp p (st p) = 0 ∧ dp p (st (p + 1)) = 1 ∧ ∀ k, st p ≤ k → k < st (p + 1) → OpR (I (w + 1) k) (J 62 (200 * t + k)) (dp p k) (dp p (k + 1))
theorem TR.fr {G : zG} {I J I' J' : zI} {w t : Nat} (h : TR G I J w t) (h1 : I' (w + 1) = I (w + 1)) (h2 : I' (w + 2) = I (w + 2)) (h3 : J' 62 = J 62) (h4 : J' 63 = J 63) : TR G I' J' w t := by
  obtain ⟨a, b, c, st, dp, e1, e2, e3, e4⟩ := h
  refine ⟨a, b, c, st, dp, e1, e2, ?_, ?_⟩
  · rw [h2, h4]; exact e3
  · rw [h1, h3]; exact e4
theorem c_hear {X : Nat × (Nat → Int32)} {d : Nat} {G : zG} {I : zI} {w : Nat} (hw : LW G w) (x1 x2 x3 x4 x5 x6 : Int32) :
    ∃ I1 : zI, Cv X d 49 [.ref w, .int x1, .int x2, .int x3, .int x4, .int x5, .int x6] G I (none, G, I1) ∧ (∀ c, c ≠ w + 3 → I1 c = I c) ∧ I1 (w + 3) 0 = x1 ∧ I1 (w + 3) 1 = x2 ∧ I1 (w + 3) 2 = x3 ∧ I1 (w + 3) 3 = x4 ∧ I1 (w + 3) 4 = x5 ∧ I1 (w + 3) 5 = x6 := by
  refine ⟨_, Cv.of hq_49 (z_le rfl) rfl (wp_L_hear w x1 x2 x3 x4 x5 x6 hw fun I1 h1 I2 h2 I3 h3 I4 h4 I5 h5 I6 h6 => by rw [h6, h5, h4, h3, h2, h1]), ?_, ?_, ?_, ?_, ?_, ?_, ?_⟩
  · intro c hc
    rw [up_cell hc, up_cell hc, up_cell hc, up_cell hc, up_cell hc, up_cell hc]
  · rw [up_place (by decide), up_place (by decide), up_place (by decide), up_place (by decide), up_place (by decide)]; exact up_same
  · rw [up_place (by decide), up_place (by decide), up_place (by decide), up_place (by decide)]; exact up_same
  · rw [up_place (by decide), up_place (by decide), up_place (by decide)]; exact up_same
  · rw [up_place (by decide), up_place (by decide)]; exact up_same
  · rw [up_place (by decide)]; exact up_same
  · exact up_same
theorem bounded_bd (v a b : Int32) (h : a.toInt ≤ b.toInt) : a.toInt ≤ (f_T_bounded v a b).toInt ∧ (f_T_bounded v a b).toInt ≤ b.toInt := by
  unfold f_T_bounded
  by_cases h1 : a ≤ v
  · rw [if_pos h1]
    by_cases h2 : v ≤ b
    · rw [if_pos h2]; exact ⟨z_lq.1 h1, z_lq.1 h2⟩
    · rw [if_neg h2]; exact ⟨h, Int.le_refl _⟩
  · rw [if_neg h1]; exact ⟨Int.le_refl _, h⟩
theorem fin_bd0 (v : Int32) : -99 ≤ (fin 0 v).toInt ∧ (fin 0 v).toInt ≤ 99 := bounded_bd v (-99) 99 (by decide)
theorem fin_bd1 (v : Int32) : 0 ≤ (fin 1 v).toInt ∧ (fin 1 v).toInt ≤ 99 := bounded_bd v 0 99 (by decide)
theorem fin_bd2 (v : Int32) : fin 2 v = 0 ∨ fin 2 v = 1 := by
  show (if v = 0 then (0 : Int32) else 1) = 0 ∨ (if v = 0 then (0 : Int32) else 1) = 1
  by_cases h : v = 0
  · rw [if_pos h]; exact Or.inl rfl
  · rw [if_neg h]; exact Or.inr rfl
theorem bound_eq (v a b : Int32) : f_T_bounded v a b = f_Z_within v a b := by
  unfold f_T_bounded f_Z_within
  rfl
/-- one part of a text, asked of both -/
theorem says_sim {X : Nat × (Nat → Int32)} {d : Nat} {G : zG} (hS : SG G) {I J : zI} {w t p x : Nat} (hT : TR G I J w t) (hp : p < 3) (hx : x < 4) {a b c e : Int32} (hr : J 57 9 = zi t)
    (h0 : I (w + 3) 0 = a) (h1 : I (w + 3) 1 = b) (h2 : I (w + 3) 2 = c) (h3 : I (w + 3) 3 = e) (h4 : I (w + 3) 4 = J 60 (5 * x)) (h5 : I (w + 3) 5 = J 59 x) :
    ∃ (v : Int32) (I1 J1 : zI), Cv X (d + 2) 50 [.ref w, .int (zi p)] G I (some (.int (fin p v)), G, I1) ∧
      Cv X (d + 3) 149 [.ref 57, .int (zi p), .int (zi x), .int a, .int b, .int c, .int e] G J (some (.int (fin p v)), G, J1) ∧ (∀ k, k ≠ w + 4 → I1 k = I k) ∧ (∀ k, k ≠ 71 → k ≠ 72 → J1 k = J k) := by
  obtain ⟨hw, ht, hl, st, dp, e1, e2, e3, e4⟩ := hT
  obtain ⟨d0, d1, hop⟩ := e4 p hp
  have s1 := (e3 p (by omega)).1
  have s2 := (e3 (p + 1) (by omega)).1
  have t1 := (e3 p (by omega)).2
  have t2 := (e3 (p + 1) (by omega)).2
  have q0 := e2 0 (by omega); have q1 := e2 1 (by omega); have q2 := e2 2 (by omega)
  have hp3 : p = 0 ∨ p = 1 ∨ p = 2 := by omega
  have l1 : st p ≤ st (p + 1) := e2 p hp
  have l2 : st (p + 1) ≤ st 3 := by rcases hp3 with rfl | rfl | rfl <;> simp only [Nat.reduceAdd] at * <;> omega
  obtain ⟨J0, hJ0⟩ : ∃ J0 : zI, J0 = z_up (z_up (z_up (z_up (z_up (z_up J 72 0 a) 72 1 b) 72 2 c) 72 3 e) 72 4 (J 60 (5 * x))) 72 5 (J 59 x) := ⟨_, rfl⟩
  have fr : ∀ k, k ≠ 72 → J0 k = J k := fun k hk => by rw [hJ0, up_cell hk, up_cell hk, up_cell hk, up_cell hk, up_cell hk, up_cell hk]
  have hn : ∀ j, j < 6 → I (w + 3) j = J0 72 j := by
    intro j hj
    have : j = 0 ∨ j = 1 ∨ j = 2 ∨ j = 3 ∨ j = 4 ∨ j = 5 := by omega
    rcases this with rfl | rfl | rfl | rfl | rfl | rfl
    · rw [hJ0, up_place (by decide), up_place (by decide), up_place (by decide), up_place (by decide), up_place (by decide), up_same, h0]
    · rw [hJ0, up_place (by decide), up_place (by decide), up_place (by decide), up_place (by decide), up_same, h1]
    · rw [hJ0, up_place (by decide), up_place (by decide), up_place (by decide), up_same, h2]
    · rw [hJ0, up_place (by decide), up_place (by decide), up_same, h3]
    · rw [hJ0, up_place (by decide), up_same, h4]
    · rw [hJ0, up_same, h5]
  obtain ⟨v, I1, J1, hc, hz, fI, fJ⟩ := says_lock (X := X) (d := d) hS hw ht hp (e := st (p + 1)) (by omega) (by omega) (dp p) d1 (st (p + 1) - st p) (st p) I J0 zU zU (by omega) rfl rfl
    (fun k hk hk2 => by rw [fr 62 (by decide)]; exact hop k hk hk2) (by rw [fr 57 (by decide)]; exact hr) (by rw [fr 63 (by decide)]; exact t2) hn (fun i hi => absurd hi (by rw [d0]; omega))
  rw [d0] at hc hz
  refine ⟨v, I1, J1, ?_, ?_, fI, fun k hk hk2 => (fJ k hk).trans (fr k hk2)⟩
  · refine Cv.of hq_50 (z_le rfl) rfl (wp_L_says w _ hw ⟨fun h => absurd ((zi_lt (b := 0) (by omega) (by omega)).1 h) (by omega), fun _ => ⟨fun _ => ?_, fun h => absurd ((zi_le (b := 2) (by omega) (by omega)).2 (by omega)) h⟩⟩)
    rw [show zi p + 1 = zi (p + 1) from zi_add (b := 1)]
    refine ⟨zi_inr (by omega) (by omega), fun y hy => ⟨zi_inr (by omega) (by omega), fun y6 hy6 => ?_⟩⟩
    rw [zi_nat (by omega)] at hy hy6
    have hy : y = zi (st (p + 1)) := by
      rw [hy]
      show (if zi (zl G (w + 1)) < I (w + 2) (p + 1) then zi (zl G (w + 1)) else I (w + 2) (p + 1)) = _
      rw [s2, if_neg (fun h => absurd ((zi_lt (by omega) (by omega)).1 h) (by omega))]
    have hy6 : y6 = zi (st p) := by
      rw [hy6]
      show (if 0 < I (w + 2) p then I (w + 2) p else 0) = _
      rw [s1]
      by_cases h : (0 : Int32) < zi (st p)
      · rw [if_pos h]
      · rw [if_neg h]
        have : st p = 0 := by
          rcases Nat.eq_zero_or_pos (st p) with e0 | e0
          · exact e0
          · exact absurd ((zi_lt (a := 0) (by omega) (by omega)).2 e0) h
        rw [this]; rfl
    rw [hy, hy6]; exact hc
  · refine Cv.of hq_149 (z_le rfl) rfl (wp_Z_asksOf _ _ _ _ _ _ hS fun A1 g1 A2 g2 A3 g3 A4 g4 => ?_)
    rw [show (5 : Int32) * zi x = zi (5 * x) from zi_mul (a := 5), zi_nat (show 5 * x < _ by omega), zi_nat (show x < _ by omega)]
    have hA4 : ∀ k, k ≠ 72 → A4 k = J k := fun k hk => by rw [g4, g3, g2, g1, up_cell hk, up_cell hk, up_cell hk, up_cell hk]
    refine ⟨zi_inr (by omega) (by omega), fun A6 g6 => ⟨zi_inr (by omega) (by omega), fun A8 g8 => ?_⟩⟩
    have hA8 : A8 = J0 := by
      rw [g8, g6, up_cell (by decide), hA4 60 (by decide), hA4 59 (by decide), g4, g3, g2, g1, hJ0]
      rfl
    refine ⟨v, J1, ?_, ?_⟩
    · rw [hA8]
      refine Cv.of hq_150 (z_le rfl) rfl (wp_Z_says _ hS ?_)
      rw [fr 57 (by decide), hr, show (4 : Int32) * zi t + zi p = zi (4 * t + p) by rw [show (4 : Int32) = zi 4 from rfl, zi_mul, zi_add]]
      refine ⟨zi_inr (by omega) (by omega), fun y hy => ?_⟩
      rw [zi_nat (by omega), fr 63 (by decide), t1] at hy
      rw [hy]; exact hz
    · rcases hp3 with rfl | rfl | rfl
      · exact ⟨fun h => absurd rfl h, fun _ => rfl⟩
      · exact ⟨fun _ => ⟨fun h => absurd rfl h, fun _ => rfl⟩, fun h => absurd h (by decide)⟩
      · exact ⟨fun _ => ⟨fun _ => ⟨fun h => by simp [fin, h], fun h => by simp [fin, h]⟩, fun h => absurd h (by decide)⟩, fun h => absurd h (by decide)⟩
