def fw (k m c h t : Int32) : Int32 := if k = 1 then f_T_bounded (c - (2 * m + 1) * h) 0 999 else if k = 3 then (if t - t / (m + 2) * (m + 2) = m + 1 then f_T_bounded ((c - (2 * m + 1) * h) / 2) 0 999 else f_T_bounded (c - (2 * m + 1) * h) 0 999) else f_T_bounded c 0 999
theorem fw_rg (k m c h t : Int32) : rg (fw k m c h t) 999 := by
  unfold fw
  split
  · exact bounded_bd _ 0 999 (by decide)
  · split
    · split
      · exact bounded_bd _ 0 999 (by decide)
      · exact bounded_bd _ 0 999 (by decide)
    · exact bounded_bd _ 0 999 (by decide)
theorem max0 {m : Int32} (h : 0 ≤ m.toInt) : (if 0 < m then m else 0) = m := by
  by_cases q : (0 : Int32) < m
  · rw [if_pos q]
  · rw [if_neg q]
    have : ¬ (0 : Int) < m.toInt := fun e => q (z_lt.2 e)
    exact (Int32.toInt_inj.1 (show (0 : Int) = m.toInt by omega))
theorem ne_plus {m : Int32} {b : Nat} (h : rg m 9) (hb : 0 < b) (hb2 : b < 100) : ¬ m + zi b = 0 := fun e => by
  obtain ⟨h0, h9⟩ := h
  have e := congrArg Int32.toInt e
  rw [z_add (by rw [zi_int (by omega)]; omega) (by rw [zi_int (by omega)]; omega), zi_int (by omega)] at e
  have e : m.toInt + (b : Int) = 0 := e
  omega
theorem c_feltWarm {X : Nat × (Nat → Int32)} {d : Nat} {G : zG} {I : zI} {k m c h t : Int32} (hm : rg m 9) : Cv X (d + 1) 66 [.int k, .int m, .int c, .int h, .int t] G I (some (.int (fw k m c h t)), G, I) := by
  refine Cv.of hq_66 (z_le rfl) rfl (wp_T_feltWarm k m c h t ?_)
  rw [max0 hm.1]
  refine ⟨fun h1 y hy => ⟨fun _ => ?_, fun h3 => absurd (h1.symm.trans h3) (by decide)⟩, fun h1 => ⟨fun h3 => ⟨fun _ => ?_, fun h => absurd h h3⟩, fun h3 y hy => ⟨fun h => absurd h3 h, fun _ => ⟨ne_plus (b := 2) hm (by omega) (by omega), fun hc => ?_, fun hc y16 h16 => ?_⟩⟩⟩⟩
  · rw [fw, if_pos h1, hy]
  · rw [fw, if_neg h1, if_neg h3]
  · rw [fw, if_neg h1, if_pos h3, if_neg hc, hy]
  · rw [fw, if_neg h1, if_pos h3, if_pos hc, h16, hy]
/-- what one feels: the class's feel and the reference's feltBy -/
theorem feel_sim {X : Nat × (Nat → Int32)} {d : Nat} {G : zG} (hS : SG G) {o n t x : Nat} (ho : HH G o) {I J : zI} (hR : RH o I J n) (hx : x < n) (ht : t < 30) (hs : ∀ s y, s ≤ t → y < n → I (32 + y) s = J 73 (4 * s + y)) :
    ∃ r : Int32, rg r 999 ∧ Cv X (d + 2) 64 [.ref 25, .ref o, .int (zi t), .int (zi x)] G I (none, G, z_up I (27 + x) t r) ∧ Cv X (d + 2) 161 [.ref 57, .int (zi x), .int (zi t)] G J (some (.int r), G, J) := by
  have h4 := hR.le
  have hX := hR.at' x hx
  obtain ⟨l, hl⟩ : ∃ l : Nat, l = (J 60 (5 * x)).toNatClampNeg := ⟨_, rfl⟩
  have hl4 : l ≤ 4 := by
    have := hX.rl.2
    have e : l = (J 60 (5 * x)).toInt.toNat := hl
    omega
  have jl : J 60 (5 * x) = zi l := by rw [hl]; exact zi_of hX.rl.1
  obtain ⟨r, hc, hz⟩ := higher_sim (X := X) (d := d) hS ho hR hx ht (fun y hy => hs t y (Nat.le_refl _) hy) n 0 0 (by omega)
  have cc : Cv X (d + 1) 65 [.ref 25, .ref o, .int (zi t), .int (zi x)] G I (some (.int r), G, I) := Cv.of hq_65 (z_le rfl) rfl (wp_M_higherThan o _ _ (hc.deep (by omega)))
  have cz : Cv X (d + 1) 162 [.ref 57, .int (zi x), .int (zi t)] G J (some (.int r), G, J) := Cv.of hq_162 (z_le rfl) rfl (wp_Z_higher _ _ hz)
  have ex5 : (5 : Int32) * zi x = zi (5 * x) := zi_mul (a := 5)
  have eK : I (o + (0 + 1)) x = J 58 x := hX.kind
  have eM : I (o + (1 + 1)) x = J 59 x := hX.more
  have eL : I (o + (2 + 1)) x = zi l := hX.late.trans jl
  refine ⟨fw (J 58 x) (J 59 x) (J 73 (4 * (t - l) + x)) r (zi t), fw_rg _ _ _ _ _, ?_, ?_⟩
  · refine Cv.of hq_64 (z_le rfl) rfl (wp_M_feel o _ _ hS ho ?_)
    rw [zi_nat (show x < _ by omega), eK, eM, eL, max0 (m := zi l) (by rw [zi_int (by omega)]; omega)]
    have ei : (if 0 < zi t - zi l then zi t - zi l else 0) = zi (t - l) := by
      by_cases q : l ≤ t
      · rw [zi_sub q]; exact max0 (by rw [zi_int (by omega)]; omega)
      · rw [if_neg, show t - l = 0 by omega]
        · rfl
        · rw [z_lt, z_sub (by rw [zi_int (by omega), zi_int (by omega)]; omega) (by rw [zi_int (by omega), zi_int (by omega)]; omega), zi_int (by omega), zi_int (by omega)]
          show ¬ (0 : Int) < _
          omega
    rw [ei, zi_nat (show t - l < _ by omega), zi_nat (show t < _ by omega)]
    refine ⟨zi_inr (by omega) (by omega), zi_inr (by omega) (by omega), zi_inr (by omega) (by omega), fun y hy => ⟨zi_inr (by omega) (by omega), zi_inr (by omega) (by omega), zi_inr (by omega) (by omega), r, I, cc, _, I, c_feltWarm hX.rm, zi_inr (by omega) (by omega), fun I17 h17 => ?_⟩⟩
    rw [h17, hy, hs (t - l) x (by omega) hx]
  · refine Cv.of hq_161 (z_le rfl) rfl (wp_Z_feltBy _ _ hS ?_)
    rw [ex5, zi_nat (show 5 * x < _ by omega), zi_nat (show x < _ by omega), jl]
    have ti : (zi t - zi l).toInt = (t : Int) - l := by
      rw [z_sub (by rw [zi_int (by omega), zi_int (by omega)]; omega) (by rw [zi_int (by omega), zi_int (by omega)]; omega), zi_int (by omega), zi_int (by omega)]
    have e4 : ∀ s : Nat, (4 : Int32) * zi s + zi x = zi (4 * s + x) := fun s => by rw [show (4 : Int32) = zi 4 from rfl, zi_mul, zi_add]
    have ne := ne_plus (b := 2) hX.rm (by omega) (by omega)
    refine ⟨zi_inr (by omega) (by omega), fun y hy => ⟨fun h0 => ?_, fun h0 => ?_⟩⟩
    · have q : l ≤ t := by
        have := z_lq.1 h0
        rw [hy, ti] at this
        have : (0 : Int) ≤ (t : Int) - l := this
        omega
      rw [show y = zi (t - l) by rw [hy]; exact zi_sub q, e4 (t - l), zi_nat (show 4 * (t - l) + x < _ by omega)]
      refine ⟨zi_inr (by omega) (by omega), fun y5 h5 => ⟨r, J, cz, zi_inr (by omega) (by omega), fun y10 h10 => ⟨zi_inr (by omega) (by omega), fun y12 h12 => ?_⟩⟩⟩
      rw [← h5, ← h10, ← h12]
      rw [← h12] at ne
      refine ⟨fun h1 y hy => ⟨fun _ => ?_, fun h3 => absurd (h1.symm.trans h3) (by decide)⟩, fun h1 => ⟨fun h3 => ⟨fun _ => ?_, fun h => absurd h h3⟩, fun h3 y hy => ⟨fun h => absurd h3 h, fun _ => ⟨ne, fun hc => ?_, fun hc y16 h16 => ?_⟩⟩⟩⟩
      · rw [fw, if_pos h1, hy, bound_eq]
      · rw [fw, if_neg h1, if_neg h3, bound_eq]
      · rw [fw, if_neg h1, if_pos h3, if_neg hc, hy, bound_eq]
      · rw [fw, if_neg h1, if_pos h3, if_pos hc, h16, hy, bound_eq]
    · have q : t - l = 0 := by
        have : ¬ (0 : Int) ≤ (zi t - zi l).toInt := fun e => h0 (by rw [hy]; exact z_lq.2 e)
        rw [ti] at this
        omega
      rw [show (4 : Int32) * 0 + zi x = zi (4 * (t - l) + x) by rw [q]; exact e4 0, zi_nat (show 4 * (t - l) + x < _ by omega)]
      refine ⟨zi_inr (by omega) (by omega), fun y5 h5 => ⟨r, J, cz, zi_inr (by omega) (by omega), fun y10 h10 => ⟨zi_inr (by omega) (by omega), fun y12 h12 => ?_⟩⟩⟩
      rw [← h5, ← h10, ← h12]
      rw [← h12] at ne
      refine ⟨fun h1 y hy => ⟨fun _ => ?_, fun h3 => absurd (h1.symm.trans h3) (by decide)⟩, fun h1 => ⟨fun h3 => ⟨fun _ => ?_, fun h => absurd h h3⟩, fun h3 y hy => ⟨fun h => absurd h3 h, fun _ => ⟨ne, fun hc => ?_, fun hc y16 h16 => ?_⟩⟩⟩⟩
      · rw [fw, if_pos h1, hy, bound_eq]
      · rw [fw, if_neg h1, if_neg h3, bound_eq]
      · rw [fw, if_neg h1, if_pos h3, if_neg hc, hy, bound_eq]
      · rw [fw, if_neg h1, if_pos h3, if_pos hc, h16, hy, bound_eq]
