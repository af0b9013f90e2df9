def tb (k m far : Int32) : Int32 := if k = 5 then 0 else if k = 4 then (if 3 * m ≤ f_Z_far far then far / (m + 1) * (m + 1) else 0) else if k = 2 then far / (m + 1) * (m + 1) else far
theorem far_eq (v : Int32) : (if 0 ≤ v then v else 0 - v) = f_Z_far v := by
  rw [f_Z_far, Int32.zero_sub]
theorem c_turnedBy {X : Nat × (Nat → Int32)} {d : Nat} {G : zG} {I : zI} {k m far : Int32} (hm : rg m 9) : Cv X (d + 1) 68 [.int k, .int m, .int far] G I (some (.int (tb k m far)), G, I) := by
  refine Cv.of hq_68 (z_le rfl) rfl (wp_T_turnedBy k m far ?_)
  have ne := ne_plus (b := 1) hm (by omega) (by omega)
  rw [max0 hm.1, far_eq]
  refine ⟨fun h5 => ⟨fun h4 => ⟨fun h2 y hy => ?_, fun h2 => ⟨fun h => absurd h h4, fun _ => ?_⟩⟩, fun h4 => ⟨fun h3 => ⟨fun h2 => absurd (h2.symm.trans h4) (by decide), fun h2 => ⟨fun _ y hy => ?_, fun h => absurd h4 h⟩⟩, fun h3 => ?_⟩⟩, fun h5 => ?_⟩
  · rw [hy]; exact ⟨ne, by rw [tb, if_neg h5, if_neg h4, if_pos h2]⟩
  · rw [tb, if_neg h5, if_neg h4, if_neg h2]
  · rw [hy]; exact ⟨ne, by rw [tb, if_neg h5, if_pos h4, if_pos h3]⟩
  · rw [tb, if_neg h5, if_pos h4, if_neg h3]
  · rw [tb, if_pos h5]
theorem z_turned {X : Nat × (Nat → Int32)} {d : Nat} {G : zG} (hS : SG G) {J : zI} {x : Nat} (hx : x < 4) (hm : rg (J 59 x) 9) (v : Int32) : Cv X (d + 1) 163 [.ref 57, .int (zi x), .int v] G J (some (.int (if zi x = J 57 34 then 0 else tb (J 58 x) (J 59 x) (v * J 60 (5 * x + 3) / 8))), G, J) := by
  refine Cv.of hq_163 (z_le rfl) rfl (wp_Z_turnedBy _ _ hS ?_)
  have ne := ne_plus (b := 1) hm (by omega) (by omega)
  rw [show (5 : Int32) * zi x + 3 = zi (5 * x + 3) by rw [show (5 : Int32) = zi 5 from rfl, show (3 : Int32) = zi 3 from rfl, zi_mul, zi_add], zi_nat (show 5 * x + 3 < _ by omega), zi_nat (show x < _ by omega)]
  refine ⟨zi_inr (by omega) (by omega), fun y hy => ⟨zi_inr (by omega) (by omega), fun y4 h4 => ⟨zi_inr (by omega) (by omega), fun y6 h6 => ⟨fun hs => ?_, fun hs => ?_⟩⟩⟩⟩
  · rw [if_pos hs]
  · rw [if_neg hs, ← hy, ← h4]
    rw [h6]
    refine ⟨fun h5 => ?_, fun h5 => ⟨fun h4 => ⟨fun h2 => ⟨ne, ?_⟩, fun h2 => ⟨fun _ => ?_, fun h => absurd h h4⟩⟩, fun h4 => ⟨zi_inr (by omega) (by omega), fun h3 => ⟨fun h2 => absurd (h2.symm.trans h4) (by decide), fun h2 => ⟨fun h => absurd h4 h, fun _ => ⟨ne, ?_⟩⟩⟩, fun h3 => ?_⟩⟩⟩
    · rw [tb, if_pos h5]
    · rw [tb, if_neg h5, if_neg h4, if_pos h2]
    · rw [tb, if_neg h5, if_neg h4, if_neg h2]
    · rw [tb, if_neg h5, if_pos h4, if_pos h3]
    · rw [tb, if_neg h5, if_pos h4, if_neg h3]
theorem z_scalds {X : Nat × (Nat → Int32)} {d : Nat} {G : zG} (hS : SG G) {J : zI} {x : Nat} (hx : x < 4) : Cv X d 157 [.ref 57, .int (zi x)] G J (some (.int (f_T_scaldsFrom (J 58 x) (J 59 x))), G, J) := by
  refine Cv.of hq_157 (z_le rfl) rfl (wp_Z_scaldsOf _ hS ?_)
  rw [zi_nat (show x < _ by omega)]
  refine ⟨zi_inr (by omega) (by omega), fun h3 => ⟨zi_inr (by omega) (by omega), fun h5 => ?_, fun h5 => ⟨zi_inr (by omega) (by omega), ?_⟩⟩, fun h3 => ⟨zi_inr (by omega) (by omega), ?_⟩⟩
  · rw [f_T_scaldsFrom, if_neg h3, if_neg h5]
  · rw [f_T_scaldsFrom, if_neg h3, if_pos h5]
  · rw [f_T_scaldsFrom, if_pos h3]
