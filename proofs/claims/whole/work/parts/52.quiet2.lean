theorem q_told (x1 x2 : Int32) : Quiet 59 156 [.int x1, .int x2] := by
  intro X n m G I J R
  have hS := R.S
  have hn := R.H.le
  have es := R.sh x1
  by_cases hs : f_T_isShower I x1 = 0
  · exact ⟨_, I, J, Cv.of hq_59 (z_le rfl) rfl (wp_T_told _ _ (by omega) hS ⟨fun h => absurd hs h, fun _ => rfl⟩), Cv.of hq_156 (z_le rfl) rfl (wp_Z_told _ _ (by omega) hS ⟨fun h => absurd (es.trans hs) h, fun _ => rfl⟩), FC.rf, FZ.rf⟩
  have hs' : ¬ f_Z_isShower J x1 = 0 := fun h => hs (es.symm.trans h)
  obtain ⟨x, hx, rfl⟩ := R.shx hs
  have hX := R.H.at' x hx
  have hH := hS.H (o := 1) (by omega)
  by_cases h0 : x2 = 0
  · have w1 : ¬ f_T_within x2 0 4 = 0 := by rw [h0]; decide
    have c1 : Cv X 99 57 [.ref 1, .int (zi x), .int x2] G I (some (.int (J 60 (5 * x))), G, I) := Cv.of hq_57 (z_le rfl) rfl (wp_H_numberOf 1 _ _ hH (by rw [zi_nat (show x < _ by omega)]; exact ⟨fun _ => ⟨zi_inr (by omega) (by omega), (by rw [show I (1 + (2 + 1)) x = _ from hX.late])⟩, fun h => absurd h0 h⟩))
    refine ⟨_, I, J, Cv.of hq_59 (z_le rfl) rfl (wp_T_told _ _ (by omega) hS ⟨fun _ => ⟨fun h => absurd h w1, fun _ => ⟨_, _, c1, rfl⟩⟩, fun h => absurd h hs⟩), Cv.of hq_156 (z_le rfl) rfl (wp_Z_told _ _ (by omega) hS ?_), FC.rf, FZ.rf⟩
    rw [h0, show (5 : Int32) * zi x + 0 = zi (5 * x + 0) from z51 x 0, zi_nat (show 5 * x + 0 < _ by omega)]
    exact ⟨fun _ => ⟨fun _ => ⟨zi_inr (by omega) (by omega), rfl⟩, fun h => absurd rfl h⟩, fun h => absurd h hs'⟩
  by_cases h1 : x2 = 1
  · have w1 : ¬ f_T_within x2 0 4 = 0 := by rw [h1]; decide
    have c1 : Cv X 99 57 [.ref 1, .int (zi x), .int x2] G I (some (.int (J 60 (5 * x + 1))), G, I) := Cv.of hq_57 (z_le rfl) rfl (wp_H_numberOf 1 _ _ hH (by rw [zi_nat (show x < _ by omega)]; exact ⟨fun h => absurd h h0, fun _ => ⟨fun _ => ⟨zi_inr (by omega) (by omega), (by rw [show I (1 + (3 + 1)) x = _ from hX.want])⟩, fun h => absurd h1 h⟩⟩))
    refine ⟨_, I, J, Cv.of hq_59 (z_le rfl) rfl (wp_T_told _ _ (by omega) hS ⟨fun _ => ⟨fun h => absurd h w1, fun _ => ⟨_, _, c1, rfl⟩⟩, fun h => absurd h hs⟩), Cv.of hq_156 (z_le rfl) rfl (wp_Z_told _ _ (by omega) hS ?_), FC.rf, FZ.rf⟩
    rw [h1, show (5 : Int32) * zi x + 1 = zi (5 * x + 1) from z51 x 1, zi_nat (show 5 * x + 1 < _ by omega)]
    exact ⟨fun _ => ⟨fun h => absurd h (by decide), fun _ => ⟨fun _ => ⟨zi_inr (by omega) (by omega), rfl⟩, fun h => absurd rfl h⟩⟩, fun h => absurd h hs'⟩
  by_cases h2 : x2 = 2
  · have w1 : ¬ f_T_within x2 0 4 = 0 := by rw [h2]; decide
    have c1 : Cv X 99 57 [.ref 1, .int (zi x), .int x2] G I (some (.int (J 60 (5 * x + 2))), G, I) := Cv.of hq_57 (z_le rfl) rfl (wp_H_numberOf 1 _ _ hH (by rw [zi_nat (show x < _ by omega)]; exact ⟨fun h => absurd h h0, fun _ => ⟨fun h => absurd h h1, fun _ => ⟨fun _ => ⟨zi_inr (by omega) (by omega), (by rw [show I (1 + (4 + 1)) x = _ from hX.set])⟩, fun h => absurd h2 h⟩⟩⟩))
    refine ⟨_, I, J, Cv.of hq_59 (z_le rfl) rfl (wp_T_told _ _ (by omega) hS ⟨fun _ => ⟨fun h => absurd h w1, fun _ => ⟨_, _, c1, rfl⟩⟩, fun h => absurd h hs⟩), Cv.of hq_156 (z_le rfl) rfl (wp_Z_told _ _ (by omega) hS ?_), FC.rf, FZ.rf⟩
    rw [h2, show (5 : Int32) * zi x + 2 = zi (5 * x + 2) from z51 x 2, zi_nat (show 5 * x + 2 < _ by omega)]
    exact ⟨fun _ => ⟨fun h => absurd h (by decide), fun _ => ⟨fun h => absurd h (by decide), fun _ => ⟨fun _ => ⟨zi_inr (by omega) (by omega), rfl⟩, fun h => absurd rfl h⟩⟩⟩, fun h => absurd h hs'⟩
  by_cases h3 : x2 = 3
  · have w1 : ¬ f_T_within x2 0 4 = 0 := by rw [h3]; decide
    have c1 : Cv X 99 57 [.ref 1, .int (zi x), .int x2] G I (some (.int (J 60 (5 * x + 3))), G, I) := Cv.of hq_57 (z_le rfl) rfl (wp_H_numberOf 1 _ _ hH (by rw [zi_nat (show x < _ by omega)]; exact ⟨fun h => absurd h h0, fun _ => ⟨fun h => absurd h h1, fun _ => ⟨fun h => absurd h h2, fun _ => ⟨fun _ => ⟨zi_inr (by omega) (by omega), (by rw [show I (1 + (5 + 1)) x = _ from hX.haste])⟩, fun h => absurd h3 h⟩⟩⟩⟩))
    refine ⟨_, I, J, Cv.of hq_59 (z_le rfl) rfl (wp_T_told _ _ (by omega) hS ⟨fun _ => ⟨fun h => absurd h w1, fun _ => ⟨_, _, c1, rfl⟩⟩, fun h => absurd h hs⟩), Cv.of hq_156 (z_le rfl) rfl (wp_Z_told _ _ (by omega) hS ?_), FC.rf, FZ.rf⟩
    rw [h3, show (5 : Int32) * zi x + 3 = zi (5 * x + 3) from z51 x 3, zi_nat (show 5 * x + 3 < _ by omega)]
    exact ⟨fun _ => ⟨fun h => absurd h (by decide), fun _ => ⟨fun h => absurd h (by decide), fun _ => ⟨fun h => absurd h (by decide), fun _ => ⟨fun _ => ⟨zi_inr (by omega) (by omega), rfl⟩, fun h => absurd rfl h⟩⟩⟩⟩, fun h => absurd h hs'⟩
  by_cases h4 : x2 = 4
  · have w1 : ¬ f_T_within x2 0 4 = 0 := by rw [h4]; decide
    have c1 : Cv X 99 57 [.ref 1, .int (zi x), .int x2] G I (some (.int (J 60 (5 * x + 4))), G, I) := Cv.of hq_57 (z_le rfl) rfl (wp_H_numberOf 1 _ _ hH (by rw [zi_nat (show x < _ by omega)]; exact ⟨fun h => absurd h h0, fun _ => ⟨fun h => absurd h h1, fun _ => ⟨fun h => absurd h h2, fun _ => ⟨fun h => absurd h h3, fun _ => ⟨zi_inr (by omega) (by omega), (by rw [show I (1 + (6 + 1)) x = _ from hX.on])⟩⟩⟩⟩⟩))
    refine ⟨_, I, J, Cv.of hq_59 (z_le rfl) rfl (wp_T_told _ _ (by omega) hS ⟨fun _ => ⟨fun h => absurd h w1, fun _ => ⟨_, _, c1, rfl⟩⟩, fun h => absurd h hs⟩), Cv.of hq_156 (z_le rfl) rfl (wp_Z_told _ _ (by omega) hS ?_), FC.rf, FZ.rf⟩
    rw [h4, show (5 : Int32) * zi x + 4 = zi (5 * x + 4) from z51 x 4, zi_nat (show 5 * x + 4 < _ by omega)]
    exact ⟨fun _ => ⟨fun h => absurd h (by decide), fun _ => ⟨fun h => absurd h (by decide), fun _ => ⟨fun h => absurd h (by decide), fun _ => ⟨fun h => absurd h (by decide), fun _ => ⟨fun _ => ⟨zi_inr (by omega) (by omega), rfl⟩, fun h => absurd rfl h⟩⟩⟩⟩⟩, fun h => absurd h hs'⟩
  have w0 : f_T_within x2 0 4 = 0 := by
    rcases Decidable.em (f_T_within x2 0 4 = 0) with e | e
    · exact e
    · obtain ⟨k, -, k2, k3⟩ := wi_spec (a := 0) (b := 4) (by omega) (by omega) e
      have k5 : k = 0 ∨ k = 1 ∨ k = 2 ∨ k = 3 ∨ k = 4 := by omega
      rcases k5 with rfl | rfl | rfl | rfl | rfl
      · exact absurd k3 h0
      · exact absurd k3 h1
      · exact absurd k3 h2
      · exact absurd k3 h3
      · exact absurd k3 h4
  by_cases h5 : x2 = 5
  · refine ⟨.int (J 58 x), I, J, Cv.of hq_59 (z_le rfl) rfl (wp_T_told _ _ (by omega) hS ?_), Cv.of hq_156 (z_le rfl) rfl (wp_Z_told _ _ (by omega) hS ?_), FC.rf, FZ.rf⟩
    · rw [zi_nat (show x < _ by omega), show I 2 x = _ from hX.kind]
      exact ⟨fun _ => ⟨fun _ => ⟨fun _ => ⟨zi_inr (by omega) (by omega), rfl⟩, fun h => absurd h5 h⟩, fun h => absurd w0 h⟩, fun h => absurd h hs⟩
    · rw [zi_nat (show x < _ by omega)]
      exact ⟨fun _ => ⟨fun h => absurd h h0, fun _ => ⟨fun h => absurd h h1, fun _ => ⟨fun h => absurd h h2, fun _ => ⟨fun h => absurd h h3, fun _ => ⟨fun h => absurd h h4, fun _ => ⟨fun _ => ⟨zi_inr (by omega) (by omega), rfl⟩, fun h => absurd h5 h⟩⟩⟩⟩⟩⟩, fun h => absurd h hs'⟩
  by_cases h6 : x2 = 6
  · refine ⟨.int (J 59 x), I, J, Cv.of hq_59 (z_le rfl) rfl (wp_T_told _ _ (by omega) hS ?_), Cv.of hq_156 (z_le rfl) rfl (wp_Z_told _ _ (by omega) hS ?_), FC.rf, FZ.rf⟩
    · rw [zi_nat (show x < _ by omega), show I 3 x = _ from hX.more]
      exact ⟨fun _ => ⟨fun _ => ⟨fun h => absurd h h5, fun _ => ⟨fun _ => ⟨zi_inr (by omega) (by omega), rfl⟩, fun h => absurd h6 h⟩⟩, fun h => absurd w0 h⟩, fun h => absurd h hs⟩
    · rw [zi_nat (show x < _ by omega)]
      exact ⟨fun _ => ⟨fun h => absurd h h0, fun _ => ⟨fun h => absurd h h1, fun _ => ⟨fun h => absurd h h2, fun _ => ⟨fun h => absurd h h3, fun _ => ⟨fun h => absurd h h4, fun _ => ⟨fun h => absurd h h5, fun _ => ⟨fun _ => ⟨zi_inr (by omega) (by omega), rfl⟩, fun h => absurd h6 h⟩⟩⟩⟩⟩⟩⟩, fun h => absurd h hs'⟩
  by_cases h7 : x2 = 7
  · refine ⟨_, I, J, Cv.of hq_59 (z_le rfl) rfl (wp_T_told _ _ (by omega) hS ?_), Cv.of hq_156 (z_le rfl) rfl (wp_Z_told _ _ (by omega) hS ⟨fun _ => ⟨fun h => absurd h h0, fun _ => ⟨fun h => absurd h h1, fun _ => ⟨fun h => absurd h h2, fun _ => ⟨fun h => absurd h h3, fun _ => ⟨fun h => absurd h h4, fun _ => ⟨fun h => absurd h h5, fun _ => ⟨fun h => absurd h h6, fun _ => ⟨fun _ => ⟨_, _, z_scalds hS (by omega), rfl⟩, fun h => absurd h7 h⟩⟩⟩⟩⟩⟩⟩⟩, fun h => absurd h hs'⟩), FC.rf, FZ.rf⟩
    rw [zi_nat (show x < _ by omega), show I 2 x = _ from hX.kind, show I 3 x = _ from hX.more]
    exact ⟨fun _ => ⟨fun _ => ⟨fun h => absurd h h5, fun _ => ⟨fun h => absurd h h6, fun _ => ⟨fun _ => ⟨zi_inr (by omega) (by omega), ⟨zi_inr (by omega) (by omega), rfl⟩⟩, fun h => absurd h7 h⟩⟩⟩, fun h => absurd w0 h⟩, fun h => absurd h hs⟩
  · exact ⟨_, I, J, Cv.of hq_59 (z_le rfl) rfl (wp_T_told _ _ (by omega) hS ⟨fun _ => ⟨fun _ => ⟨fun h => absurd h h5, fun _ => ⟨fun h => absurd h h6, fun _ => ⟨fun h => absurd h h7, fun _ => rfl⟩⟩⟩, fun h => absurd w0 h⟩, fun h => absurd h hs⟩), Cv.of hq_156 (z_le rfl) rfl (wp_Z_told _ _ (by omega) hS ⟨fun _ => ⟨fun h => absurd h h0, fun _ => ⟨fun h => absurd h h1, fun _ => ⟨fun h => absurd h h2, fun _ => ⟨fun h => absurd h h3, fun _ => ⟨fun h => absurd h h4, fun _ => ⟨fun h => absurd h h5, fun _ => ⟨fun h => absurd h h6, fun _ => ⟨fun h => absurd h h7, fun _ => rfl⟩⟩⟩⟩⟩⟩⟩⟩, fun h => absurd h hs'⟩), FC.rf, FZ.rf⟩
theorem q_at (x1 x2 x3 : Int32) : Quiet 61 158 [.int x1, .int x2, .int x3] := by
  intro X n m G I J R
  have hS := R.S
  have hn := R.H.le
  have es := R.sh x1
  by_cases hs : f_T_isShower I x1 = 0
  · exact ⟨_, I, J, Cv.of hq_61 (z_le rfl) rfl (wp_T_at _ _ _ (by omega) hS ⟨fun h => absurd hs h, fun _ => rfl⟩), Cv.of hq_158 (z_le rfl) rfl (wp_Z_at _ _ _ (by omega) hS ⟨fun h => absurd (es.trans hs) h, fun _ => rfl⟩), FC.rf, FZ.rf⟩
  have hs' : ¬ f_Z_isShower J x1 = 0 := fun h => hs (es.symm.trans h)
  by_cases h2 : f_T_isBeat x2 = 0
  · exact ⟨_, I, J, Cv.of hq_61 (z_le rfl) rfl (wp_T_at _ _ _ (by omega) hS ⟨fun _ => ⟨fun _ => rfl, fun h => absurd h2 h⟩, fun h => absurd h hs⟩), Cv.of hq_158 (z_le rfl) rfl (wp_Z_at _ _ _ (by omega) hS ⟨fun _ => ⟨fun _ => rfl, fun h => absurd h2 h⟩, fun h => absurd h hs'⟩), FC.rf, FZ.rf⟩
  by_cases h3 : f_T_within x3 0 2 = 0
  · exact ⟨_, I, J, Cv.of hq_61 (z_le rfl) rfl (wp_T_at _ _ _ (by omega) hS ⟨fun _ => ⟨fun h => absurd h h2, fun _ => ⟨fun h => absurd h3 h, fun _ => rfl⟩⟩, fun h => absurd h hs⟩), Cv.of hq_158 (z_le rfl) rfl (wp_Z_at _ _ _ (by omega) hS ⟨fun _ => ⟨fun h => absurd h h2, fun _ => ⟨fun h => absurd h3 h, fun _ => rfl⟩⟩, fun h => absurd h hs'⟩), FC.rf, FZ.rf⟩
  obtain ⟨x, hx, rfl⟩ := R.shx hs
  obtain ⟨t, -, ht, rfl⟩ := wi_spec (a := 0) (b := 29) (by omega) (by omega) h2
  obtain ⟨r0, hA⟩ := R.AD
  obtain ⟨I1, J1, k1, k2, k3, k4, mf, ms, mc⟩ := live_sim (X := X) (d := 93) hS (Or.inl rfl) hA R.q
  have eW : I1 5 x = J1 60 (5 * x + 1) := by rw [k3.F (by omega), k4 60 (by omega)]; exact (R.H.at' x hx).want
  by_cases q0 : x3 = 0
  · refine ⟨.int (J1 74 (4 * t + x)), I1, J1, Cv.of hq_61 (z_le rfl) rfl (wp_T_at _ _ _ (by omega) hS ?_), Cv.of hq_158 (z_le rfl) rfl (wp_Z_at _ _ _ (by omega) hS ?_), k3.C, k4.Z⟩
    · rw [zi1 t, zi_nat (show x < _ by omega), zi_nat (show t < _ by omega), zi_nat (show t + 1 < _ by omega)]
      exact ⟨fun _ => ⟨fun h => absurd h h2, fun _ => ⟨fun _ => ⟨I1, k1, ⟨fun _ => ⟨zi_inr (by omega) (by omega), ⟨zi_inr (by omega) (by omega), (by rw [(mf t x (by omega) hx).1])⟩⟩, fun h => absurd q0 h⟩⟩, fun h => absurd h h3⟩⟩, fun h => absurd h hs⟩
    · rw [show (4 : Int32) * zi t + 4 = zi (4 * t + 4) by (rw [show (4 : Int32) = zi 4 from rfl, zi_mul, zi_add]), zi_add, z41, show (5 : Int32) * zi x + 1 = zi (5 * x + 1) from z51 x 1, zi_nat (show 4 * t + x < _ by omega), zi_nat (show 4 * t + 4 + x < _ by omega), zi_nat (show 5 * x + 1 < _ by omega)]
      exact ⟨fun _ => ⟨fun h => absurd h h2, fun _ => ⟨fun _ => ⟨J1, k2, ⟨zi_inr (by omega) (by omega), fun y7_ e2 => ⟨fun h => absurd q0 h, fun _ => (by rw [e2])⟩⟩⟩, fun h => absurd h h3⟩⟩, fun h => absurd h hs'⟩
  by_cases q1 : x3 = 1
  · refine ⟨.int (J1 73 (4 * (t + 1) + x)), I1, J1, Cv.of hq_61 (z_le rfl) rfl (wp_T_at _ _ _ (by omega) hS ?_), Cv.of hq_158 (z_le rfl) rfl (wp_Z_at _ _ _ (by omega) hS ?_), k3.C, k4.Z⟩
    · rw [zi1 t, zi_nat (show x < _ by omega), zi_nat (show t < _ by omega), zi_nat (show t + 1 < _ by omega)]
      exact ⟨fun _ => ⟨fun h => absurd h h2, fun _ => ⟨fun _ => ⟨I1, k1, ⟨fun h => absurd h q0, fun _ => ⟨fun _ => ⟨zi_inr (by omega) (by omega), ⟨zi_inr (by omega) (by omega), (by rw [(ms (t + 1) x (by omega) hx).1])⟩⟩, fun h => absurd q1 h⟩⟩⟩, fun h => absurd h h3⟩⟩, fun h => absurd h hs⟩
    · rw [show (4 : Int32) * zi t + 4 = zi (4 * t + 4) by (rw [show (4 : Int32) = zi 4 from rfl, zi_mul, zi_add]), zi_add, z41, show (5 : Int32) * zi x + 1 = zi (5 * x + 1) from z51 x 1, zi_nat (show 4 * t + x < _ by omega), zi_nat (show 4 * t + 4 + x < _ by omega), zi_nat (show 5 * x + 1 < _ by omega)]
      exact ⟨fun _ => ⟨fun h => absurd h h2, fun _ => ⟨fun _ => ⟨J1, k2, ⟨zi_inr (by omega) (by omega), fun y7_ e1 => ⟨fun _ => ⟨fun h => absurd q1 h, fun _ => ⟨zi_inr (by omega) (by omega), (by rw [show 4 * t + 4 + x = 4 * (t + 1) + x by omega])⟩⟩, fun h => absurd h q0⟩⟩⟩, fun h => absurd h h3⟩⟩, fun h => absurd h hs'⟩
  · refine ⟨.int (J1 60 (5 * x + 1) - J1 74 (4 * t + x)), I1, J1, Cv.of hq_61 (z_le rfl) rfl (wp_T_at _ _ _ (by omega) hS ?_), Cv.of hq_158 (z_le rfl) rfl (wp_Z_at _ _ _ (by omega) hS ?_), k3.C, k4.Z⟩
    · rw [zi1 t, zi_nat (show x < _ by omega), zi_nat (show t < _ by omega), zi_nat (show t + 1 < _ by omega)]
      exact ⟨fun _ => ⟨fun h => absurd h h2, fun _ => ⟨fun _ => ⟨I1, k1, ⟨fun h => absurd h q0, fun _ => ⟨fun h => absurd h q1, fun _ => ⟨zi_inr (by omega) (by omega), ⟨zi_inr (by omega) (by omega), ⟨zi_inr (by omega) (by omega), (by rw [(mf t x (by omega) hx).1, eW])⟩⟩⟩⟩⟩⟩, fun h => absurd h h3⟩⟩, fun h => absurd h hs⟩
    · rw [show (4 : Int32) * zi t + 4 = zi (4 * t + 4) by (rw [show (4 : Int32) = zi 4 from rfl, zi_mul, zi_add]), zi_add, z41, show (5 : Int32) * zi x + 1 = zi (5 * x + 1) from z51 x 1, zi_nat (show 4 * t + x < _ by omega), zi_nat (show 4 * t + 4 + x < _ by omega), zi_nat (show 5 * x + 1 < _ by omega)]
      exact ⟨fun _ => ⟨fun h => absurd h h2, fun _ => ⟨fun _ => ⟨J1, k2, ⟨zi_inr (by omega) (by omega), fun y7_ e2 => ⟨fun _ => ⟨fun _ => ⟨zi_inr (by omega) (by omega), (by rw [e2])⟩, fun h => absurd h q1⟩, fun h => absurd h q0⟩⟩⟩, fun h => absurd h h3⟩⟩, fun h => absurd h hs'⟩
theorem q_day (x1 x2 : Int32) : Quiet 69 165 [.int x1, .int x2] := by
  intro X n m G I J R
  have hS := R.S
  have hn := R.H.le
  have es := R.sh x1
  by_cases hs : f_T_isShower I x1 = 0
  · exact ⟨_, I, J, Cv.of hq_69 (z_le rfl) rfl (wp_T_day _ _ (by omega) hS ⟨fun h => absurd hs h, fun _ => rfl⟩), Cv.of hq_165 (z_le rfl) rfl (wp_Z_day _ _ (by omega) hS ⟨fun h => absurd (es.trans hs) h, fun _ => rfl⟩), FC.rf, FZ.rf⟩
  have hs' : ¬ f_Z_isShower J x1 = 0 := fun h => hs (es.symm.trans h)
  by_cases h2 : f_T_within x2 0 3 = 0
  · exact ⟨_, I, J, Cv.of hq_69 (z_le rfl) rfl (wp_T_day _ _ (by omega) hS ⟨fun _ => ⟨fun h => absurd h2 h, fun _ => rfl⟩, fun h => absurd h hs⟩), Cv.of hq_165 (z_le rfl) rfl (wp_Z_day _ _ (by omega) hS ⟨fun _ => ⟨fun h => absurd h2 h, fun _ => rfl⟩, fun h => absurd h hs'⟩), FC.rf, FZ.rf⟩
  obtain ⟨x, hx, rfl⟩ := R.shx hs
  obtain ⟨r0, hA⟩ := R.AD
  obtain ⟨I1, J1, k1, k2, k3, k4, mf, ms, mc⟩ := live_sim (X := X) (d := 93) hS (Or.inl rfl) hA R.q
  have cx := mc x hx
  by_cases q0 : x2 = 0
  · refine ⟨.int (J1 75 x), I1, J1, Cv.of hq_69 (z_le rfl) rfl (wp_T_day _ _ (by omega) hS ?_), Cv.of hq_165 (z_le rfl) rfl (wp_Z_day _ _ (by omega) hS ?_), k3.C, k4.Z⟩
    · rw [zi_nat (show x < _ by omega)]
      exact ⟨fun _ => ⟨fun _ => ⟨I1, k1, ⟨fun _ => ⟨zi_inr (by omega) (by omega), (by rw [cx.1])⟩, fun h => absurd q0 h⟩⟩, fun h => absurd h h2⟩, fun h => absurd h hs⟩
    · rw [zi_nat (show x < _ by omega)]
      exact ⟨fun _ => ⟨fun _ => ⟨J1, k2, ⟨fun h => absurd q0 h, fun _ => ⟨zi_inr (by omega) (by omega), rfl⟩⟩⟩, fun h => absurd h h2⟩, fun h => absurd h hs'⟩
  by_cases q1 : x2 = 1
  · refine ⟨.int (J1 76 x), I1, J1, Cv.of hq_69 (z_le rfl) rfl (wp_T_day _ _ (by omega) hS ?_), Cv.of hq_165 (z_le rfl) rfl (wp_Z_day _ _ (by omega) hS ?_), k3.C, k4.Z⟩
    · rw [zi_nat (show x < _ by omega)]
      exact ⟨fun _ => ⟨fun _ => ⟨I1, k1, ⟨fun h => absurd h q0, fun _ => ⟨fun _ => ⟨zi_inr (by omega) (by omega), (by rw [cx.2.1])⟩, fun h => absurd q1 h⟩⟩⟩, fun h => absurd h h2⟩, fun h => absurd h hs⟩
    · rw [zi_nat (show x < _ by omega)]
      exact ⟨fun _ => ⟨fun _ => ⟨J1, k2, ⟨fun _ => ⟨fun h => absurd q1 h, fun _ => ⟨zi_inr (by omega) (by omega), rfl⟩⟩, fun h => absurd h q0⟩⟩, fun h => absurd h h2⟩, fun h => absurd h hs'⟩
  by_cases q2 : x2 = 2
  · refine ⟨.int (J1 77 x), I1, J1, Cv.of hq_69 (z_le rfl) rfl (wp_T_day _ _ (by omega) hS ?_), Cv.of hq_165 (z_le rfl) rfl (wp_Z_day _ _ (by omega) hS ?_), k3.C, k4.Z⟩
    · rw [zi_nat (show x < _ by omega)]
      exact ⟨fun _ => ⟨fun _ => ⟨I1, k1, ⟨fun h => absurd h q0, fun _ => ⟨fun h => absurd h q1, fun _ => ⟨fun _ => ⟨zi_inr (by omega) (by omega), (by rw [cx.2.2.1])⟩, fun h => absurd q2 h⟩⟩⟩⟩, fun h => absurd h h2⟩, fun h => absurd h hs⟩
    · rw [zi_nat (show x < _ by omega)]
      exact ⟨fun _ => ⟨fun _ => ⟨J1, k2, ⟨fun _ => ⟨fun _ => ⟨fun h => absurd q2 h, fun _ => ⟨zi_inr (by omega) (by omega), rfl⟩⟩, fun h => absurd h q1⟩, fun h => absurd h q0⟩⟩, fun h => absurd h h2⟩, fun h => absurd h hs'⟩
  · obtain ⟨r, c1, c2⟩ := most_sim (X := X) (d := 98) hS (I := I1) (J := J1) (x := x) (f := 0) (by omega) (by omega) (fun s h => mf s x (by omega) hx)
    refine ⟨.int (r), I1, J1, Cv.of hq_69 (z_le rfl) rfl (wp_T_day _ _ (by omega) hS ?_), Cv.of hq_165 (z_le rfl) rfl (wp_Z_day _ _ (by omega) hS ?_), k3.C, k4.Z⟩
    · rw [zi_nat (show x < _ by omega)]
      exact ⟨fun _ => ⟨fun _ => ⟨I1, k1, ⟨fun h => absurd h q0, fun _ => ⟨fun h => absurd h q1, fun _ => ⟨fun h => absurd h q2, fun _ => ⟨r, I1, c1, rfl⟩⟩⟩⟩⟩, fun h => absurd h h2⟩, fun h => absurd h hs⟩
    · rw [zi_nat (show x < _ by omega)]
      exact ⟨fun _ => ⟨fun _ => ⟨J1, k2, ⟨fun _ => ⟨fun _ => ⟨fun _ => ⟨r, J1, c2, rfl⟩, fun h => absurd h q2⟩, fun h => absurd h q1⟩, fun h => absurd h q0⟩⟩, fun h => absurd h h2⟩, fun h => absurd h hs'⟩
theorem q_rests (x1 x2 : Int32) : Quiet 71 167 [.int x1, .int x2] := by
  intro X n m G I J R
  have hS := R.S
  have hn := R.H.le
  have es := R.sh x1
  by_cases hs : f_T_isShower I x1 = 0
  · exact ⟨_, I, J, Cv.of hq_71 (z_le rfl) rfl (wp_T_rests _ _ (by omega) hS ⟨fun h => absurd hs h, fun _ => rfl⟩), Cv.of hq_167 (z_le rfl) rfl (wp_Z_rests _ _ (by omega) hS ⟨fun h => absurd (es.trans hs) h, fun _ => rfl⟩), FC.rf, FZ.rf⟩
  have hs' : ¬ f_Z_isShower J x1 = 0 := fun h => hs (es.symm.trans h)
  by_cases h2 : f_T_isWarm x2 = 0
  · exact ⟨_, I, J, Cv.of hq_71 (z_le rfl) rfl (wp_T_rests _ _ (by omega) hS ⟨fun _ => ⟨fun h => absurd h2 h, fun _ => rfl⟩, fun h => absurd h hs⟩), Cv.of hq_167 (z_le rfl) rfl (wp_Z_rests _ _ (by omega) hS ⟨fun _ => ⟨fun _ => rfl, fun h => absurd h2 h⟩, fun h => absurd h hs'⟩), FC.rf, FZ.rf⟩
  obtain ⟨x, hx, rfl⟩ := R.shx hs
  obtain ⟨r0, hA⟩ := R.AD
  obtain ⟨I1, J1, k1, k2, k3, k4, mf, ms, mc⟩ := live_sim (X := X) (d := 92) hS (Or.inl rfl) hA R.q
  have eW : I1 5 x = J1 60 (5 * x + 1) := by rw [k3.F (by omega), k4 60 (by omega)]; exact (R.H.at' x hx).want
  obtain ⟨r, -, c1, c2⟩ := rest_sim (X := X) (d := 97) hS (I := I1) (J := J1) (x := x) (by omega) (fun s h => (mf s x (by omega) hx).1) x2
  have c3 : Cv X 99 169 [.ref 57, .int (zi x), .int x2] G J (some (.int r), G, J1) := Cv.of hq_169 (z_le rfl) rfl (wp_Z_restsNow _ _ hS ⟨J1, k2, r, J1, c2, rfl⟩)
  refine ⟨.int r, I1, J1, Cv.of hq_71 (z_le rfl) rfl (wp_T_rests _ _ (by omega) hS ?_), Cv.of hq_167 (z_le rfl) rfl (wp_Z_rests _ _ (by omega) hS ⟨fun _ => ⟨fun h => absurd h h2, fun _ => ⟨r, J1, c3, rfl⟩⟩, fun h => absurd h hs'⟩), k3.C, k4.Z⟩
  rw [zi_nat (show x < _ by omega)]
  exact ⟨fun _ => ⟨fun _ => ⟨I1, k1.deep (by omega), ⟨zi_inr (by omega) (by omega), ⟨r, I1, (by rw [eW]; exact c1.deep (by omega)), rfl⟩⟩⟩, fun h => absurd h h2⟩, fun h => absurd h hs⟩
theorem q_sways (x1 : Int32) : Quiet 73 171 [.int x1] := by
  intro X n m G I J R
  have hS := R.S
  have hn := R.H.le
  have es := R.sh x1
  by_cases hs : f_T_isShower I x1 = 0
  · exact ⟨_, I, J, Cv.of hq_73 (z_le rfl) rfl (wp_T_sways _ (by omega) hS ⟨fun h => absurd hs h, fun _ => rfl⟩), Cv.of hq_171 (z_le rfl) rfl (wp_Z_sways _ (by omega) hS ⟨fun h => absurd (es.trans hs) h, fun _ => rfl⟩), FC.rf, FZ.rf⟩
  have hs' : ¬ f_Z_isShower J x1 = 0 := fun h => hs (es.symm.trans h)
  obtain ⟨x, hx, rfl⟩ := R.shx hs
  obtain ⟨r0, hA⟩ := R.AD
  obtain ⟨I1, J1, k1, k2, k3, k4, mf, ms, mc⟩ := live_sim (X := X) (d := 93) hS (Or.inl rfl) hA R.q
  obtain ⟨r, c1, c2⟩ := most_sim (X := X) (d := 98) hS (I := I1) (J := J1) (x := x) (f := 20) (by omega) (by omega) (fun s h => mf s x (by omega) hx)
  obtain ⟨r2, c3, c4⟩ := least_sim (X := X) (d := 98) hS (I := I1) (J := J1) (x := x) (f := 20) (by omega) (by omega) (fun s h => mf s x (by omega) hx)
  exact ⟨.int (r - r2), I1, J1, Cv.of hq_73 (z_le rfl) rfl (wp_T_sways _ (by omega) hS ⟨fun _ => ⟨I1, k1, ⟨r, I1, c1, ⟨r2, I1, c3, rfl⟩⟩⟩, fun h => absurd h hs⟩), Cv.of hq_171 (z_le rfl) rfl (wp_Z_sways _ (by omega) hS ⟨fun _ => ⟨J1, k2, ⟨r, J1, c2, ⟨r2, J1, c4, rfl⟩⟩⟩, fun h => absurd h hs'⟩), k3.C, k4.Z⟩
theorem q_house (x1 : Int32) : Quiet 75 172 [.int x1] := by
  intro X n m G I J R
  have hS := R.S
  have hn := R.H.le
  by_cases h1 : f_T_within x1 0 2 = 0
  · exact ⟨_, I, J, Cv.of hq_75 (z_le rfl) rfl (wp_T_house _ hS ⟨fun h => absurd h1 h, fun _ => rfl⟩), Cv.of hq_172 (z_le rfl) rfl (wp_Z_house _ hS ⟨fun h => absurd h1 h, fun _ => rfl⟩), FC.rf, FZ.rf⟩
  obtain ⟨r0, hA⟩ := R.AD
  obtain ⟨I1, J1, k1, k2, k3, k4, mf, ms, mc⟩ := live_sim (X := X) (d := 93) hS (Or.inl rfl) hA R.q
  have e7 : I1 1 7 = zi n := by rw [k3.F (by omega)]; exact R.H.ci
  have j0 : J1 57 0 = zi n := by rw [k4 57 (by omega)]; exact R.H.cj
  by_cases q0 : x1 = 0
  · obtain ⟨r, -, c1, c2⟩ := cost_sim (X := X) (d := 99) hS (I := I1) (J := J1) hn j0 (fun y hy => ⟨(mc y hy).1, (mc y hy).2.2.2⟩)
    refine ⟨.int r, I1, J1, Cv.of hq_75 (z_le rfl) rfl (wp_T_house _ hS ?_), Cv.of hq_172 (z_le rfl) rfl (wp_Z_house _ hS ⟨fun _ => ⟨J1, k2, ⟨fun h => absurd q0 h, fun _ => ⟨r, J1, c2, rfl⟩⟩⟩, fun h => absurd h h1⟩), k3.C, k4.Z⟩
    exact ⟨fun _ => ⟨I1, k1, ⟨fun h => absurd q0 h, fun _ => ⟨r, I1, (by rw [e7]; exact c1), rfl⟩⟩⟩, fun h => absurd h h1⟩
  by_cases q1 : x1 = 1
  · obtain ⟨r, c1, c2⟩ := criers_sim (X := X) (d := 99) hS (I := I1) (J := J1) hn j0 (fun y hy => (mc y hy).2.1)
    refine ⟨.int r, I1, J1, Cv.of hq_75 (z_le rfl) rfl (wp_T_house _ hS ?_), Cv.of hq_172 (z_le rfl) rfl (wp_Z_house _ hS ⟨fun _ => ⟨J1, k2, ⟨fun _ => ⟨fun h => absurd q1 h, fun _ => ⟨r, J1, c2, rfl⟩⟩, fun h => absurd h q0⟩⟩, fun h => absurd h h1⟩), k3.C, k4.Z⟩
    exact ⟨fun _ => ⟨I1, k1, ⟨fun _ => ⟨fun h => absurd q1 h, fun _ => ⟨r, I1, (by rw [e7]; exact c1), rfl⟩⟩, fun h => absurd h q0⟩⟩, fun h => absurd h h1⟩
  · obtain ⟨r, c1, c2⟩ := loudest_sim (X := X) (d := 98) hS (I := I1) (J := J1) hn j0 (fun y hy => (mc y hy).2.1)
    refine ⟨.int r, I1, J1, Cv.of hq_75 (z_le rfl) rfl (wp_T_house _ hS ?_), Cv.of hq_172 (z_le rfl) rfl (wp_Z_house _ hS ⟨fun _ => ⟨J1, k2, ⟨fun _ => ⟨fun _ => ⟨r, J1, c2, rfl⟩, fun h => absurd h q1⟩, fun h => absurd h q0⟩⟩, fun h => absurd h h1⟩), k3.C, k4.Z⟩
    exact ⟨fun _ => ⟨I1, k1, ⟨fun _ => ⟨fun _ => ⟨r, I1, (by rw [e7]; exact c1), rfl⟩, fun h => absurd h q1⟩, fun h => absurd h q0⟩⟩, fun h => absurd h h1⟩
