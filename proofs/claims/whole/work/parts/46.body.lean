/-! ONE SHOWER'S SECOND HALF OF A BEAT, both -/
def FrM (w : Nat) (I I1 : zI) : Prop := ∀ c, ¬ (27 ≤ c ∧ c ≤ 38) → c ≠ w + 3 → c ≠ w + 4 → I1 c = I c
def FrR (J J1 : zI) : Prop := ∀ c, ¬ (71 ≤ c ∧ c ≤ 77) → J1 c = J c
theorem FrM.tr {w : Nat} {I I1 I2 : zI} (h : FrM w I I1) (h2 : FrM w I1 I2) : FrM w I I2 := fun c a b e => (h2 c a b e).trans (h c a b e)
theorem FrR.tr {J J1 J2 : zI} (h : FrR J J1) (h2 : FrR J1 J2) : FrR J J2 := fun c a => (h2 c a).trans (h c a)
def MX (I J : zI) (n t x : Nat) : Prop := (∀ s y, s ≤ t → y < n → I (27 + y) s = J 74 (4 * s + y) ∧ rg (J 74 (4 * s + y)) 999) ∧ (∀ s y, (s ≤ t ∨ (s = t + 1 ∧ y < x)) → y < n → I (32 + y) s = J 73 (4 * s + y) ∧ rg (J 73 (4 * s + y)) 999) ∧ ∀ y, y < n → I 36 y = J 75 y ∧ I 37 y = J 76 y ∧ I 38 y = J 77 y ∧ rg (J 75 y) ((99 * (t + if y < x then 1 else 0) : Nat) : Int)
theorem MX_step {I J I1 J1 : zI} {n t x : Nat} (hn : n ≤ 4) (hx : x < n) (h : MX I J n t x) (hf : ∀ y, y < n → I1 (27 + y) = I (27 + y)) (hf2 : J1 74 = J 74)
    (hs : ∀ s y, y < n → ¬ (s = t + 1 ∧ y = x) → I1 (32 + y) s = I (32 + y) s) (hs2 : ∀ k, k ≠ 4 * (t + 1) + x → J1 73 k = J 73 k) (hs3 : I1 (32 + x) (t + 1) = J1 73 (4 * (t + 1) + x)) (hs4 : rg (J1 73 (4 * (t + 1) + x)) 999)
    (hc : ∀ y, y ≠ x → I1 36 y = I 36 y ∧ I1 37 y = I 37 y ∧ I1 38 y = I 38 y ∧ J1 75 y = J 75 y ∧ J1 76 y = J 76 y ∧ J1 77 y = J 77 y) (hc1 : I1 36 x = J1 75 x) (hc2 : I1 37 x = J1 76 x) (hc3 : I1 38 x = J1 77 x) (hc4 : rg (J1 75 x) ((99 * (t + 1) : Nat) : Int)) : MX I1 J1 n t (x + 1) := by
  obtain ⟨a, b, c⟩ := h
  refine ⟨fun s y h1 h2 => ?_, fun s y h1 h2 => ?_, fun y h2 => ?_⟩
  · rw [hf y h2, hf2]; exact a s y h1 h2
  · by_cases e : s = t + 1 ∧ y = x
    · obtain ⟨rfl, rfl⟩ := e
      exact ⟨hs3, hs4⟩
    · rw [hs s y h2 e, hs2 _ (by omega)]
      exact b s y (by omega) h2
  · by_cases e : y = x
    · subst e
      rw [if_pos (by omega)]
      exact ⟨hc1, hc2, hc3, hc4⟩
    · obtain ⟨e1, e2, e3, e4, e5, e6⟩ := hc y e
      rw [e1, e2, e3, e4, e5, e6]
      have := c y h2
      by_cases q : y < x
      · rw [if_pos (by omega)]; rw [if_pos q] at this; exact this
      · rw [if_neg (by omega)]; rw [if_neg q] at this; exact this
theorem rg_within {v : Int32} (h : rg v 999) : f_Z_within v 0 999 = v := by
  rw [← bound_eq]
  unfold f_T_bounded
  rw [if_pos (z_lq.2 (show (0 : Int32).toInt ≤ v.toInt from h.1)), if_pos (z_lq.2 (show v.toInt ≤ (999 : Int32).toInt from h.2))]
theorem rg_add {a b : Int32} {m k : Nat} (ha : rg a m) (hb : rg b k) (h : m + k < 2147483648) : rg (a + b) ((m + k : Nat) : Int) := by
  obtain ⟨a0, a1⟩ := ha
  obtain ⟨b0, b1⟩ := hb
  have e := z_add (a := a) (b := b) (by omega) (by omega)
  exact ⟨by rw [e]; omega, by rw [e]; omega⟩
set_option maxHeartbeats 1000000 in
theorem body_sim {X : Nat × (Nat → Int32)} {d : Nat} {G : zG} (hS : SG G) {o w t0 n t x : Nat} (ho : HH G o) (ho7 : o + 7 < 27) (hw : 52 ≤ w) {I J : zI} {q : Int32} (hT : TR G I J w t0) (hr : J 57 9 = zi t0) (hR : RH o I J n) (hx : x < n) (ht : t < 30) (hq : J 57 34 = q) (hM : MX I J n t x) (b b2 : Int32) :
    ∃ I1 J1 : zI, (∀ res, Ev X (d + 4) 63 106 [.ref 25, .ref o, .ref w, .int b, .int q, .int b2, .int (zi t), .int (zi (x + 1))] [] G I1 res → Ev X (d + 4) 63 106 [.ref 25, .ref o, .ref w, .int b, .int q, .int b2, .int (zi t), .int (zi x)] [] G I res) ∧
      (∀ res, (∀ v3 v4 v5 : Value, v3.category = 1 → v4.category = 1 → v5.category = 1 → Ev X (d + 4) 160 34 [.ref 57, .int (zi t), .int (zi (x + 1)), v3, v4, v5] [] G J1 res) → ∀ v3 v4 v5 : Value, v3.category = 1 → v4.category = 1 → v5.category = 1 → Ev X (d + 4) 160 34 [.ref 57, .int (zi t), .int (zi x), v3, v4, v5] [] G J res) ∧
      FrM w I I1 ∧ FrR J J1 ∧ MX I1 J1 n t (x + 1) := by
  obtain ⟨hF, hSt, hC⟩ := id hM
  have h4 := hR.le
  have hX := hR.at' x hx
  obtain ⟨N, hN⟩ : ∃ N : Int32, N = J 73 (4 * t + x) := ⟨_, rfl⟩
  obtain ⟨I9, h9⟩ : ∃ I9 : zI, I9 = z_up I (32 + x) (t + 1) N := ⟨_, rfl⟩
  obtain ⟨J12, h12⟩ : ∃ J12 : zI, J12 = z_up J 73 (4 * (t + 1) + x) N := ⟨_, rfl⟩
  have rN : rg N 999 := by rw [hN]; exact (hSt t x (Or.inl (Nat.le_refl _)) hx).2
  have eN : I (32 + x) t = N := by rw [hN]; exact (hSt t x (Or.inl (Nat.le_refl _)) hx).1
  have et1 : zi t + 1 = zi (t + 1) := zi_add (b := 1)
  have ex1 : zi x + 1 = zi (x + 1) := zi_add (b := 1)
  have e5 : (5 : Int32) * zi x = zi (5 * x) := zi_mul (a := 5)
  have e51 : zi (5 * x) + 1 = zi (5 * x + 1) := zi_add (b := 1)
  have e4 : ∀ s : Nat, (4 : Int32) * zi s + zi x = zi (4 * s + x) := fun s => by rw [show (4 : Int32) = zi 4 from rfl, zi_mul, zi_add]
  have nx : ¬ zi n ≤ zi x := fun h => absurd ((zi_le (by omega) (by omega)).1 h) (by omega)
  have c9 : ∀ c, c ≠ 32 + x → I9 c = I c := fun c h => by rw [h9, up_cell h]
  have c12 : ∀ c, c ≠ 73 → J12 c = J c := fun c h => by rw [h12, up_cell h]
  obtain ⟨B, hB⟩ : ∃ B : Int32, B = J 60 (5 * x + 1) - J 74 (4 * (t - 1) + x) := ⟨_, rfl⟩
  obtain ⟨A, hA⟩ : ∃ A : Int32, A = J 60 (5 * x + 1) - J 74 (4 * t + x) := ⟨_, rfl⟩
  have onE : I9 (o + (6 + 1)) x = J 60 (5 * x + 4) := by rw [c9 _ (by omega)]; exact hX.on
  have cOn : Cv X (d + 3) 143 [.ref 57, .int (zi x)] G J12 (some (.int (if J 60 (5 * x + 4) = 1 then 1 else 0)), G, J12) := by
    have := c_isOn (X := X) (d := d + 3) hS (J := J12) (x := x) (by omega)
    rw [c12 60 (by decide)] at this; exact this
  have cls : ∀ (res : Option Value × zG × zI), ((¬ J 60 (5 * x + 4) = 1 → Ev X (d + 4) 63 106 [.ref 25, .ref o, .ref w, .int b, .int q, .int b2, .int (zi t), .int (zi (x + 1))] [] G I9 res) ∧ (J 60 (5 * x + 4) = 1 → (¬ zi x = q → ∃ I14 : zI, Cv X (d + 3) 67 [.ref 25, .ref o, .ref w, .int (zi t), .int (zi x), .int 0] G I9 (none, G, I14) ∧ Ev X (d + 4) 63 106 [.ref 25, .ref o, .ref w, .int b, .int q, .int b2, .int (zi t), .int (zi (x + 1))] [] G I14 res) ∧ (zi x = q → ∃ I14 : zI, Cv X (d + 3) 67 [.ref 25, .ref o, .ref w, .int (zi t), .int (zi x), .int 1] G I9 (none, G, I14) ∧ Ev X (d + 4) 63 106 [.ref 25, .ref o, .ref w, .int b, .int q, .int b2, .int (zi t), .int (zi (x + 1))] [] G I14 res))) → Ev X (d + 4) 63 106 [.ref 25, .ref o, .ref w, .int b, .int q, .int b2, .int (zi t), .int (zi x)] [] G I res := by
    intro res k
    refine wp_M_run_106 o w _ _ _ _ _ hS ho ?_
    rw [hR.ci, et1, zi_nat (show x < _ by omega), zi_nat (show t < _ by omega), zi_nat (show t + 1 < _ by omega), ex1, eN]
    refine ⟨fun h => absurd h nx, fun _ => ⟨zi_inr (by omega) (by omega), zi_inr (by omega) (by omega), zi_inr (by omega) (by omega), zi_inr (by omega) (by omega), fun I9' h9' => ?_⟩⟩
    obtain rfl : I9' = I9 := h9'.trans h9.symm
    rw [onE]
    refine ⟨zi_inr (by omega) (by omega), fun h y hy => ?_, fun h => ⟨fun hq2 => ?_, fun hq2 => ?_⟩⟩
    · rw [hy]; exact k.1 h
    · obtain ⟨I14, g1, g2⟩ := (k.2 h).1 hq2
      exact ⟨I14, g1, fun y hy => by rw [hy]; exact g2⟩
    · obtain ⟨I14, g1, g2⟩ := (k.2 h).2 hq2
      exact ⟨I14, g1, fun y hy => by rw [hy]; exact g2⟩
  by_cases hon : J 60 (5 * x + 4) = 1
  · have f9 : I9 (27 + x) = I (27 + x) := c9 _ (by omega)
    obtain ⟨st, hst⟩ : ∃ st : Bool, (st = true ↔ zi x = q) := ⟨decide (zi x = q), by simp⟩
    obtain ⟨v1, v2, v0, J19, J23, J25, J30, J48, J49, I1, z1, k23, z2, k30, k48, z0, h19, h25, h49, cc, g1, g36, g37, g38, gS⟩ := live_core (X := X) (d := d) hS (t0 := t0) (t := t) (x := x) (A := A) (B := B) (N := N) (I := I9) (J := J12) ho ho7 hw (hT.fr (c9 _ (by omega)) (c9 _ (by omega)) (c12 62 (by decide)) (c12 63 (by decide))) (by rw [c12 57 (by decide)]; exact hr) (hX.fr (fun c _ _ => c9 c (by omega)) (c12 58 (by decide)) (c12 59 (by decide)) (c12 60 (by decide))) (by omega) ht
      (by rw [h12, up_place (by omega)]; exact hN) (by rw [c12 60 (by decide), c12 74 (by decide)]; exact hA) (by rw [c12 60 (by decide), c12 74 (by decide)]; exact hB) (by rw [h9, up_place (by omega)]; exact eN) (by rw [f9, c12 74 (by decide)]; exact (hF t x (Nat.le_refl _) hx).1) (by rw [f9, c12 74 (by decide)]; exact (hF (t - 1) x (by omega) hx).1) st
    have K23 : ∀ c, c ≠ 71 → c ≠ 72 → c ≠ 75 → J23 c = J12 c := fun c a b e => by rw [k23, up_cell e, h19 c a b]
    have K25 : ∀ c, c ≠ 71 → c ≠ 72 → c ≠ 75 → J25 c = J12 c := fun c a b e => by rw [h25 c a b, K23 c a b e]
    have K30 : ∀ c, c ≠ 71 → c ≠ 72 → c ≠ 75 → c ≠ 76 → J30 c = J12 c := fun c a b e f => by rw [k30, up_cell f, K25 c a b e]
    have K48 : ∀ c, c ≠ 71 → c ≠ 72 → c ≠ 75 → c ≠ 76 → c ≠ 77 → J48 c = J12 c := fun c a b e f g => by rw [k48, up_cell g, K30 c a b e f]
    have K49 : ∀ c, c ≠ 71 → c ≠ 72 → c ≠ 75 → c ≠ 76 → c ≠ 77 → J49 c = J12 c := fun c a b e f g => by rw [h49 c a b, K48 c a b e f g]
    have cS := z_scalds (X := X) (d := d + 3) hS (J := J30) (x := x) (by omega)
    rw [K30 58 (by decide) (by decide) (by decide) (by decide), K30 59 (by decide) (by decide) (by decide) (by decide)] at cS
    have cT := z_turned (X := X) (d := d + 2) hS (J := J49) (x := x) (by omega) (by rw [K49 59 (by decide) (by decide) (by decide) (by decide) (by decide), c12 59 (by decide)]; exact hX.rm) (fin 0 v0)
    rw [K49 57 (by decide) (by decide) (by decide) (by decide) (by decide), K49 58 (by decide) (by decide) (by decide) (by decide) (by decide), K49 59 (by decide) (by decide) (by decide) (by decide) (by decide), K49 60 (by decide) (by decide) (by decide) (by decide) (by decide), c12 57 (by decide), hq] at cT
    refine ⟨I1, z_up J49 73 (4 * (t + 1) + x) (f_Z_within (N + (if zi x = q then 0 else tb (J12 58 x) (J12 59 x) (fin 0 v0 * J12 60 (5 * x + 3) / 8))) 0 999), fun res k => cls res ⟨fun h => absurd hon h, fun _ => ⟨fun hq2 => ⟨I1, ?_, k⟩, fun hq2 => ⟨I1, ?_, k⟩⟩⟩, fun res k v3 v4 v5 q3 q4 q5 => ?_, fun c h a e => ?_, fun c h => ?_, ?_⟩
    · cases st
      · exact cc
      · exact absurd (hst.1 rfl) hq2
    · cases st
      · exact absurd (hst.2 hq2) (by decide)
      · exact cc
    · refine wp_Z_beats_34 _ _ v3 q3 v4 q4 v5 q5 hS ?_
      rw [hR.cj, et1, e5, e51, e4, e4, zi_nat (show 4 * t + x < _ by omega), zi_nat (show 5 * x + 1 < _ by omega), zi_nat (show 4 * (t + 1) + x < _ by omega), zi_nat (show x < _ by omega)]
      refine ⟨fun h => absurd h nx, fun _ => ⟨zi_inr (by omega) (by omega), fun y3 h3 => ⟨zi_inr (by omega) (by omega), zi_inr (by omega) (by omega), fun y6 h6 => ⟨fun ht0 => ⟨zi_inr (by omega) (by omega), ?_⟩, fun ht0 => ⟨zi_inr (by omega) (by omega), fun I12' h12' => ?_⟩⟩⟩⟩⟩
      · have t1 : 1 ≤ t := by
          rcases Nat.eq_zero_or_pos t with e0 | e0
          · exact absurd (by rw [e0]; rfl) ht0
          · exact e0
        rw [show zi t - 1 = zi (t - 1) from zi_sub (b := 1) t1, e4, zi_nat (show 4 * (t - 1) + x < _ by omega)]
        refine ⟨zi_inr (by omega) (by omega), fun y10 h10 => ⟨zi_inr (by omega) (by omega), fun I12' h12' => ?_⟩⟩
        obtain rfl : I12' = J12 := by rw [h12', h3, ← hN, h12]
        obtain rfl : y3 = N := h3.trans hN.symm
        obtain rfl : y6 = A := h6.trans hA.symm
        obtain rfl : y10 = B := h10.trans hB.symm
        refine ⟨_, _, cOn, fun h => absurd (by rw [if_pos hon] at h; exact h) (by decide), fun _ => ⟨zi_inr (by omega) (by omega), _, _, z1, zi_inr (by omega) (by omega), fun I23' e23 => ?_⟩⟩
        obtain rfl : I23' = J23 := by rw [e23, k23]
        refine ⟨zi_inr (by omega) (by omega), _, _, z2, fun hc => ⟨zi_inr (by omega) (by omega), fun I30' e30 => ?_⟩, fun hc => ⟨zi_inr (by omega) (by omega), fun I30' e30 => ?_⟩⟩
        · obtain rfl : I30' = J30 := by rw [e30, k30, if_neg hc]
          refine ⟨zi_inr (by omega) (by omega), _, _, cS, fun hs => ⟨zi_inr (by omega) (by omega), fun I37' e37 => ?_⟩, fun hs => ⟨zi_inr (by omega) (by omega), fun I37' e37 => ?_⟩⟩
          · obtain rfl : I37' = J48 := by rw [e37, k48, if_pos hs]
            exact ⟨_, _, z0, _, _, cT, zi_inr (by omega) (by omega), fun I45 e45 y46 h46 => by rw [e45, h46, ex1]; exact k _ _ _ rfl rfl rfl⟩
          · obtain rfl : I37' = J48 := by rw [e37, k48, if_neg hs]
            exact ⟨_, _, z0, _, _, cT, zi_inr (by omega) (by omega), fun I45 e45 y46 h46 => by rw [e45, h46, ex1]; exact k _ _ _ rfl rfl rfl⟩
        · obtain rfl : I30' = J30 := by rw [e30, k30, if_pos hc]
          refine ⟨zi_inr (by omega) (by omega), _, _, cS, fun hs => ⟨zi_inr (by omega) (by omega), fun I37' e37 => ?_⟩, fun hs => ⟨zi_inr (by omega) (by omega), fun I37' e37 => ?_⟩⟩
          · obtain rfl : I37' = J48 := by rw [e37, k48, if_pos hs]
            exact ⟨_, _, z0, _, _, cT, zi_inr (by omega) (by omega), fun I45 e45 y46 h46 => by rw [e45, h46, ex1]; exact k _ _ _ rfl rfl rfl⟩
          · obtain rfl : I37' = J48 := by rw [e37, k48, if_neg hs]
            exact ⟨_, _, z0, _, _, cT, zi_inr (by omega) (by omega), fun I45 e45 y46 h46 => by rw [e45, h46, ex1]; exact k _ _ _ rfl rfl rfl⟩
      · have t0' : t = 0 := by
          have := (zi_eq (b := 0) (by omega) (by omega)).1 ht0
          exact this
        obtain rfl : I12' = J12 := by rw [h12', h3, ← hN, h12]
        obtain rfl : y3 = N := h3.trans hN.symm
        obtain rfl : y6 = A := h6.trans hA.symm
        obtain rfl : B = y6 := by rw [hB, hA, show t - 1 = t by omega]
        refine ⟨_, _, cOn, fun h => absurd (by rw [if_pos hon] at h; exact h) (by decide), fun _ => ⟨zi_inr (by omega) (by omega), _, _, z1, zi_inr (by omega) (by omega), fun I23' e23 => ?_⟩⟩
        obtain rfl : I23' = J23 := by rw [e23, k23]
        refine ⟨zi_inr (by omega) (by omega), _, _, z2, fun hc => ⟨zi_inr (by omega) (by omega), fun I30' e30 => ?_⟩, fun hc => ⟨zi_inr (by omega) (by omega), fun I30' e30 => ?_⟩⟩
        · obtain rfl : I30' = J30 := by rw [e30, k30, if_neg hc]
          refine ⟨zi_inr (by omega) (by omega), _, _, cS, fun hs => ⟨zi_inr (by omega) (by omega), fun I37' e37 => ?_⟩, fun hs => ⟨zi_inr (by omega) (by omega), fun I37' e37 => ?_⟩⟩
          · obtain rfl : I37' = J48 := by rw [e37, k48, if_pos hs]
            exact ⟨_, _, z0, _, _, cT, zi_inr (by omega) (by omega), fun I45 e45 y46 h46 => by rw [e45, h46, ex1]; exact k _ _ _ rfl rfl rfl⟩
          · obtain rfl : I37' = J48 := by rw [e37, k48, if_neg hs]
            exact ⟨_, _, z0, _, _, cT, zi_inr (by omega) (by omega), fun I45 e45 y46 h46 => by rw [e45, h46, ex1]; exact k _ _ _ rfl rfl rfl⟩
        · obtain rfl : I30' = J30 := by rw [e30, k30, if_pos hc]
          refine ⟨zi_inr (by omega) (by omega), _, _, cS, fun hs => ⟨zi_inr (by omega) (by omega), fun I37' e37 => ?_⟩, fun hs => ⟨zi_inr (by omega) (by omega), fun I37' e37 => ?_⟩⟩
          · obtain rfl : I37' = J48 := by rw [e37, k48, if_pos hs]
            exact ⟨_, _, z0, _, _, cT, zi_inr (by omega) (by omega), fun I45 e45 y46 h46 => by rw [e45, h46, ex1]; exact k _ _ _ rfl rfl rfl⟩
          · obtain rfl : I37' = J48 := by rw [e37, k48, if_neg hs]
            exact ⟨_, _, z0, _, _, cT, zi_inr (by omega) (by omega), fun I45 e45 y46 h46 => by rw [e45, h46, ex1]; exact k _ _ _ rfl rfl rfl⟩
    · exact (g1 c a e (by omega) (by omega) (by omega) (by omega)).trans (c9 c (by omega))
    · rw [up_cell (by omega), K49 c (by omega) (by omega) (by omega) (by omega) (by omega), c12 c (by omega)]
    · obtain ⟨W, hW⟩ : ∃ W : Int32, W = f_Z_within (N + (if zi x = q then 0 else tb (J12 58 x) (J12 59 x) (fin 0 v0 * J12 60 (5 * x + 3) / 8))) 0 999 := ⟨_, rfl⟩
      rw [← hW]
      have cx := hC x hx
      rw [if_neg (by omega)] at cx
      have j75 : ∀ k, z_up J49 73 (4 * (t + 1) + x) W 75 k = J23 75 k := fun k => by rw [up_cell (by decide), h49 75 (by decide) (by decide), k48, up_cell (by decide), k30, up_cell (by decide), h25 75 (by decide) (by decide)]
      have j76 : ∀ k, z_up J49 73 (4 * (t + 1) + x) W 76 k = J30 76 k := fun k => by rw [up_cell (by decide), h49 76 (by decide) (by decide), k48, up_cell (by decide)]
      have j77 : ∀ k, z_up J49 73 (4 * (t + 1) + x) W 77 k = J48 77 k := fun k => by rw [up_cell (by decide), h49 77 (by decide) (by decide)]
      have v75 : J23 75 x = J 75 x + fin 1 v1 := by rw [k23, up_same, c12 75 (by decide)]
      have G36 : ∀ k, I1 36 k = if k = x then I9 36 x + fin 1 v1 else I9 36 k := fun k => congrFun g36 k
      have G37 : ∀ k, I1 37 k = if k = x then (if fin 2 v2 = 1 then I9 37 x ||| (1 <<< (zi t &&& 31)) else I9 37 x) else I9 37 k := fun k => congrFun g37 k
      have G38 : ∀ k, I1 38 k = if k = x then (if -A < f_T_scaldsFrom (J12 58 x) (J12 59 x) then I9 38 x else I9 38 x + 1) else I9 38 k := fun k => congrFun g38 k
      refine MX_step h4 hx hM (fun y hy => ?_) ?_ (fun s y hy e => ?_) (fun k hk => ?_) ?_ ?_ (fun y hy => ⟨?_, ?_, ?_, ?_, ?_, ?_⟩) ?_ ?_ ?_ ?_
      · rw [g1 _ (by omega) (by omega) (by omega) (by omega) (by omega) (by omega), c9 _ (by omega)]
      · rw [up_cell (by decide), K49 74 (by decide) (by decide) (by decide) (by decide) (by decide), c12 74 (by decide)]
      · by_cases e2 : y = x
        · subst e2
          rw [gS]
          show (if s = t + 1 ∧ st = false then _ else I9 (32 + y) s) = _
          rw [if_neg (fun h => e ⟨h.1, rfl⟩), h9, up_place (by omega)]
        · rw [g1 _ (by omega) (by omega) (by omega) (by omega) (by omega) (by omega), c9 _ (by omega)]
      · rw [up_place hk, K49 73 (by decide) (by decide) (by decide) (by decide) (by decide), h12, up_place hk]
      · rw [up_same, hW, gS]
        show (if t + 1 = t + 1 ∧ st = false then _ else I9 (32 + x) (t + 1)) = _
        cases st
        · rw [if_pos ⟨rfl, rfl⟩, if_neg (fun h => absurd (hst.2 h) (by decide)), bound_eq]
        · rw [if_neg (fun h => Bool.noConfusion h.2), if_pos (hst.1 rfl), Int32.add_zero, rg_within rN, h9, up_same]
      · rw [up_same, hW, ← bound_eq]; exact bounded_bd _ 0 999 (by decide)
      · rw [G36, if_neg hy, c9 36 (by omega)]
      · rw [G37, if_neg hy, c9 37 (by omega)]
      · rw [G38, if_neg hy, c9 38 (by omega)]
      · rw [j75, k23, up_place hy, h19 75 (by decide) (by decide), c12 75 (by decide)]
      · rw [j76, k30, up_place hy, K25 76 (by decide) (by decide) (by decide), c12 76 (by decide)]
      · rw [j77, k48, up_place hy, K30 77 (by decide) (by decide) (by decide) (by decide), c12 77 (by decide)]
      · rw [j75, v75, G36, if_pos rfl, c9 36 (by omega), cx.1]
      · rw [j76, k30, up_same, G37, if_pos rfl, c9 37 (by omega), K23 76 (by decide) (by decide) (by decide), c12 76 (by decide), cx.2.1]
        by_cases hc : fin 2 v2 = 1
        · rw [if_pos hc, if_pos hc]
        · rw [if_neg hc, if_neg hc, Int32.or_zero]
      · rw [j77, k48, up_same, G38, if_pos rfl, c9 38 (by omega), K30 77 (by decide) (by decide) (by decide) (by decide), c12 77 (by decide), cx.2.2.1]
        by_cases hc : -A < f_T_scaldsFrom (J12 58 x) (J12 59 x)
        · rw [if_pos hc, if_pos hc, Int32.add_zero]
        · rw [if_neg hc, if_neg hc]
      · rw [j75, v75]
        have q1 : rg (J 75 x) ((99 * t : Nat) : Int) := ⟨cx.2.2.2.1, by have := cx.2.2.2.2; omega⟩
        have := rg_add (m := 99 * t) (k := 99) q1 (fin_bd1 v1) (by omega)
        rw [show 99 * (t + 1) = 99 * t + 99 by omega]; exact this
  · refine ⟨I9, J12, fun res k => cls res ⟨fun _ => k, fun h => absurd h hon⟩, fun res k v3 v4 v5 q3 q4 q5 => ?_, fun c h _ _ => c9 c (by omega), fun c h => c12 c (by omega), ?_⟩
    · refine wp_Z_beats_34 _ _ v3 q3 v4 q4 v5 q5 hS ?_
      rw [hR.cj, et1, e5, e51, e4, e4, zi_nat (show 4 * t + x < _ by omega), zi_nat (show 5 * x + 1 < _ by omega), zi_nat (show 4 * (t + 1) + x < _ by omega)]
      refine ⟨fun h => absurd h nx, fun _ => ⟨zi_inr (by omega) (by omega), fun y3 h3 => ⟨zi_inr (by omega) (by omega), zi_inr (by omega) (by omega), fun y6 h6 => ⟨fun ht0 => ⟨zi_inr (by omega) (by omega), ?_⟩, fun ht0 => ⟨zi_inr (by omega) (by omega), fun I12' h12' => ?_⟩⟩⟩⟩⟩
      · have t1 : 1 ≤ t := by
          rcases Nat.eq_zero_or_pos t with e0 | e0
          · exact absurd (by rw [e0]; rfl) ht0
          · exact e0
        rw [show zi t - 1 = zi (t - 1) from zi_sub (b := 1) t1, e4, zi_nat (show 4 * (t - 1) + x < _ by omega)]
        refine ⟨zi_inr (by omega) (by omega), fun y10 h10 => ⟨zi_inr (by omega) (by omega), fun I12' h12' => ?_⟩⟩
        obtain rfl : I12' = J12 := by rw [h12', h3, ← hN, h12]
        refine ⟨_, _, cOn, fun _ y17 h17 => ?_, fun h => absurd (by rw [if_neg hon]) h⟩
        rw [h17, ex1]; exact k _ _ _ rfl rfl rfl
      · obtain rfl : I12' = J12 := by rw [h12', h3, ← hN, h12]
        refine ⟨_, _, cOn, fun _ y17 h17 => ?_, fun h => absurd (by rw [if_neg hon]) h⟩
        rw [h17, ex1]; exact k _ _ _ rfl rfl rfl
    · have v1 : J12 73 (4 * (t + 1) + x) = N := by rw [h12, up_same]
      have cx := hC x hx
      rw [if_neg (by omega)] at cx
      refine MX_step h4 hx hM (fun y hy => c9 _ (by omega)) (c12 74 (by decide)) (fun s y hy e => ?_) (fun k hk => by rw [h12, up_place hk]) (by rw [v1, h9, up_same]) (by rw [v1]; exact rN) (fun y _ => by rw [c9 36 (by omega), c9 37 (by omega), c9 38 (by omega), c12 75 (by decide), c12 76 (by decide), c12 77 (by decide)]; exact ⟨rfl, rfl, rfl, rfl, rfl, rfl⟩) (by rw [c9 36 (by omega), c12 75 (by decide)]; exact cx.1) (by rw [c9 37 (by omega), c12 76 (by decide)]; exact cx.2.1) (by rw [c9 38 (by omega), c12 77 (by decide)]; exact cx.2.2.1) (by rw [c12 75 (by decide)]; exact ⟨cx.2.2.2.1, by have := cx.2.2.2.2; omega⟩)
      by_cases e2 : y = x
      · subst e2; rw [h9, up_place (by omega)]
      · exact congrFun (c9 _ (by omega)) s
