set_option maxRecDepth 20000 in
theorem wp_T_asks {X : Nat × (Nat → Int32)} {d : Nat} {G : zG} {I : zI} {res : Option Value × zG × zI} (x1 : Int32) (x2 : Int32) (x3 : Int32) (x4 : Int32) (x5 : Int32) (hd : 1 ≤ d) (hS : SG G) 
    (k : (¬ (f_T_isShower I x5) = 0 → ((f_T_within x1 0 2) = 0 → res = (some (.int (-2000)), G, I)) ∧ (¬ (f_T_within x1 0 2) = 0 → (¬ (f_T_within x2 0 3999999) = 0 → ((f_T_isWarm x3) = 0 → res = (some (.int (-2000)), G, I)) ∧ (¬ (f_T_isWarm x3) = 0 → (¬ (f_T_isBeat x4) = 0 → ∃ (w8 : Nat) (I6 : zI), Cv X d 48 [.ref 0, .ref 1] G I (some (.ref w8), G, I6) ∧ LW G w8 ∧ (z_inr x5 4 ∧ (z_inr x5 4 ∧ (∃ (I11 : zI), Cv X d 49 [.ref w8, .int ((x2 / 2000) - 1000), .int ((x2 - x2 / 2000 * 2000) - 1000), .int x3, .int x4, .int (I6 4 x5.toNatClampNeg), .int (I6 3 x5.toNatClampNeg)] G I6 (none, G, I11) ∧ (∃ (r15 : Int32) (I13 : zI), Cv X d 50 [.ref w8, .int x1] G I11 (some (.int r15), G, I13) ∧ (res = (some (.int r15), G, I13))))))) ∧ ((f_T_isBeat x4) = 0 → res = (some (.int (-2000)), G, I)))) ∧ ((f_T_within x2 0 3999999) = 0 → res = (some (.int (-2000)), G, I)))) ∧ ((f_T_isShower I x5) = 0 → res = (some (.int (-1000)), G, I))) :
    Ev X (d + 1) 44 0 [.ref 0, .int x1, .int x2, .int x3, .int x4, .int x5, zU] [] G I res := by
  refine Ev_aload_n hq_44 (show decode prog_1_method_8_code 0 = .ok (.aload_n 0, 1) by decide +kernel) rfl ?_
  refine Ev_iload hq_44 (show decode prog_1_method_8_code 1 = .ok (.iload 5, 2) by decide +kernel) rfl ?_
  refine Ev_virt (as := [.int x5]) hq_44 (show decode prog_1_method_8_code 3 = .ok (.invokevirtual 120, 3) by decide +kernel) rfl hq_45 rfl (z_le rfl) ⟨(SGn hS (by decide)), (SGk hS rfl), by decide⟩ (c_T_isShower (by omega) hS x5) ?_
  refine Ev_if_ne (tgt := 13) hq_44 (show decode prog_1_method_8_code 6 = .ok (.ifCond .ne 7, 3) by decide +kernel) (by decide) (fun c1 => ?_) (fun c1 => ?_)
  · have k := k.1 c1
    refine Ev_iload_n hq_44 (show decode prog_1_method_8_code 13 = .ok (.iload_n 1, 1) by decide +kernel) rfl ?_
    refine Ev_iconst (v := 0) hq_44 (show decode prog_1_method_8_code 14 = .ok (.iconst 0, 1) by decide +kernel) (by decide) ?_
    refine Ev_iconst (v := 2) hq_44 (show decode prog_1_method_8_code 15 = .ok (.iconst 2, 1) by decide +kernel) (by decide) ?_
    refine Ev_stat (as := [.int x1, .int 0, .int 2]) hq_44 (show decode prog_1_method_8_code 16 = .ok (.invokestatic 108, 3) by decide +kernel) rfl (Or.inl rfl) hq_32 rfl (z_le rfl) (c_T_within x1 0 2) ?_
    refine Ev_if_eq (tgt := 32) hq_44 (show decode prog_1_method_8_code 19 = .ok (.ifCond .eq 13, 3) by decide +kernel) (by decide) (fun c2 => ?_) (fun c2 => ?_)
    · have k := k.1 c2
      refine Ev_sipush (v := (-2000)) hq_44 (show decode prog_1_method_8_code 32 = .ok (.sipush (-2000), 3) by decide +kernel) (by decide) ?_
      exact Ev_iret hq_44 (show decode prog_1_method_8_code 35 = .ok (.ireturn, 1) by decide +kernel) rfl k
    · have k := k.2 c2
      refine Ev_iload_n hq_44 (show decode prog_1_method_8_code 22 = .ok (.iload_n 2, 1) by decide +kernel) rfl ?_
      refine Ev_iconst (v := 0) hq_44 (show decode prog_1_method_8_code 23 = .ok (.iconst 0, 1) by decide +kernel) (by decide) ?_
      refine Ev_ldc (v := 3999999) hq_44 (show decode prog_1_method_8_code 24 = .ok (.ldc 123, 2) by decide +kernel) rfl ?_
      refine Ev_stat (as := [.int x2, .int 0, .int 3999999]) hq_44 (show decode prog_1_method_8_code 26 = .ok (.invokestatic 108, 3) by decide +kernel) rfl (Or.inl rfl) hq_32 rfl (z_le rfl) (c_T_within x2 0 3999999) ?_
      refine Ev_if_ne (tgt := 36) hq_44 (show decode prog_1_method_8_code 29 = .ok (.ifCond .ne 7, 3) by decide +kernel) (by decide) (fun c3 => ?_) (fun c3 => ?_)
      · have k := k.1 c3
        refine Ev_iload_n hq_44 (show decode prog_1_method_8_code 36 = .ok (.iload_n 3, 1) by decide +kernel) rfl ?_
        refine Ev_stat (as := [.int x3]) hq_44 (show decode prog_1_method_8_code 37 = .ok (.invokestatic 124, 3) by decide +kernel) rfl (Or.inl rfl) hq_46 rfl (z_le rfl) (c_T_isWarm (by omega) x3) ?_
        refine Ev_if_eq (tgt := 51) hq_44 (show decode prog_1_method_8_code 40 = .ok (.ifCond .eq 11, 3) by decide +kernel) (by decide) (fun c4 => ?_) (fun c4 => ?_)
        · have k := k.1 c4
          refine Ev_sipush (v := (-2000)) hq_44 (show decode prog_1_method_8_code 51 = .ok (.sipush (-2000), 3) by decide +kernel) (by decide) ?_
          exact Ev_iret hq_44 (show decode prog_1_method_8_code 54 = .ok (.ireturn, 1) by decide +kernel) rfl k
        · have k := k.2 c4
          refine Ev_iload hq_44 (show decode prog_1_method_8_code 43 = .ok (.iload 4, 2) by decide +kernel) rfl ?_
          refine Ev_stat (as := [.int x4]) hq_44 (show decode prog_1_method_8_code 45 = .ok (.invokestatic 127, 3) by decide +kernel) rfl (Or.inl rfl) hq_47 rfl (z_le rfl) (c_T_isBeat (by omega) x4) ?_
          refine Ev_if_ne (tgt := 55) hq_44 (show decode prog_1_method_8_code 48 = .ok (.ifCond .ne 7, 3) by decide +kernel) (by decide) (fun c5 => ?_) (fun c5 => ?_)
          · have k := k.1 c5
            refine Ev_aload_n hq_44 (show decode prog_1_method_8_code 55 = .ok (.aload_n 0, 1) by decide +kernel) rfl ?_
            refine Ev_aload_n hq_44 (show decode prog_1_method_8_code 56 = .ok (.aload_n 0, 1) by decide +kernel) rfl ?_
            refine Ev_getR hq_44 (show decode prog_1_method_8_code 57 = .ok (.getfield 10, 3) by decide +kernel) rfl (SGn hS (by decide)) (SGk hS rfl) (by decide) rfl (SGr hS rfl) ?_
            obtain ⟨w8, I6, h7, hw8, k⟩ := k
            refine Ev_virt (as := [.ref 1]) hq_44 (show decode prog_1_method_8_code 60 = .ok (.invokevirtual 130, 3) by decide +kernel) rfl hq_48 rfl (z_le rfl) ⟨(SGn hS (by decide)), (SGk hS rfl), by decide⟩ h7 ?_
            refine Ev_astore (lo2 := [.ref 0, .int x1, .int x2, .int x3, .int x4, .int x5, .ref w8]) hq_44 (show decode prog_1_method_8_code 63 = .ok (.astore 6, 2) by decide +kernel) (z_le rfl) rfl ?_
            refine Ev_aload hq_44 (show decode prog_1_method_8_code 65 = .ok (.aload 6, 2) by decide +kernel) rfl ?_
            refine Ev_iload_n hq_44 (show decode prog_1_method_8_code 67 = .ok (.iload_n 2, 1) by decide +kernel) rfl ?_
            refine Ev_sipush (v := 2000) hq_44 (show decode prog_1_method_8_code 68 = .ok (.sipush 2000, 3) by decide +kernel) (by decide) ?_
            refine Ev_idiv hq_44 (show decode prog_1_method_8_code 71 = .ok (.idiv, 1) by decide +kernel) (by decide) ?_
            refine Ev_sipush (v := 1000) hq_44 (show decode prog_1_method_8_code 72 = .ok (.sipush 1000, 3) by decide +kernel) (by decide) ?_
            refine Ev_isub hq_44 (show decode prog_1_method_8_code 75 = .ok (.isub, 1) by decide +kernel) ?_
            refine Ev_iload_n hq_44 (show decode prog_1_method_8_code 76 = .ok (.iload_n 2, 1) by decide +kernel) rfl ?_
            refine Ev_sipush (v := 2000) hq_44 (show decode prog_1_method_8_code 77 = .ok (.sipush 2000, 3) by decide +kernel) (by decide) ?_
            refine Ev_irem hq_44 (show decode prog_1_method_8_code 80 = .ok (.irem, 1) by decide +kernel) (by decide) ?_
            refine Ev_sipush (v := 1000) hq_44 (show decode prog_1_method_8_code 81 = .ok (.sipush 1000, 3) by decide +kernel) (by decide) ?_
            refine Ev_isub hq_44 (show decode prog_1_method_8_code 84 = .ok (.isub, 1) by decide +kernel) ?_
            refine Ev_iload_n hq_44 (show decode prog_1_method_8_code 85 = .ok (.iload_n 3, 1) by decide +kernel) rfl ?_
            refine Ev_iload hq_44 (show decode prog_1_method_8_code 86 = .ok (.iload 4, 2) by decide +kernel) rfl ?_
            refine Ev_aload_n hq_44 (show decode prog_1_method_8_code 88 = .ok (.aload_n 0, 1) by decide +kernel) rfl ?_
            refine Ev_getR hq_44 (show decode prog_1_method_8_code 89 = .ok (.getfield 10, 3) by decide +kernel) rfl (SGn hS (by decide)) (SGk hS rfl) (by decide) rfl (SGr hS rfl) ?_
            refine Ev_getR hq_44 (show decode prog_1_method_8_code 92 = .ok (.getfield 134, 3) by decide +kernel) rfl (SGn hS (by decide)) (SGk hS rfl) (by decide) rfl (SGr hS rfl) ?_
            refine Ev_iload hq_44 (show decode prog_1_method_8_code 95 = .ok (.iload 5, 2) by decide +kernel) rfl ?_
            obtain ⟨h9, k⟩ := k
            refine Ev_iald hq_44 (show decode prog_1_method_8_code 97 = .ok (.iaload, 1) by decide +kernel) (SGn hS (by decide)) (SGk hS rfl) (SGi hS rfl h9) ?_
            refine Ev_aload_n hq_44 (show decode prog_1_method_8_code 98 = .ok (.aload_n 0, 1) by decide +kernel) rfl ?_
            refine Ev_getR hq_44 (show decode prog_1_method_8_code 99 = .ok (.getfield 10, 3) by decide +kernel) rfl (SGn hS (by decide)) (SGk hS rfl) (by decide) rfl (SGr hS rfl) ?_
            refine Ev_getR hq_44 (show decode prog_1_method_8_code 102 = .ok (.getfield 137, 3) by decide +kernel) rfl (SGn hS (by decide)) (SGk hS rfl) (by decide) rfl (SGr hS rfl) ?_
            refine Ev_iload hq_44 (show decode prog_1_method_8_code 105 = .ok (.iload 5, 2) by decide +kernel) rfl ?_
            obtain ⟨h10, k⟩ := k
            refine Ev_iald hq_44 (show decode prog_1_method_8_code 107 = .ok (.iaload, 1) by decide +kernel) (SGn hS (by decide)) (SGk hS rfl) (SGi hS rfl h10) ?_
            obtain ⟨I11, h12, k⟩ := k
            refine Ev_virt (as := [.int ((x2 / 2000) - 1000), .int ((x2 - x2 / 2000 * 2000) - 1000), .int x3, .int x4, .int (I6 4 x5.toNatClampNeg), .int (I6 3 x5.toNatClampNeg)]) hq_44 (show decode prog_1_method_8_code 108 = .ok (.invokevirtual 140, 3) by decide +kernel) rfl hq_49 rfl (z_le rfl) ⟨(VB.lt hw8 (by omega)), hw8.2.1, by decide⟩ h12 ?_
            refine Ev_aload hq_44 (show decode prog_1_method_8_code 111 = .ok (.aload 6, 2) by decide +kernel) rfl ?_
            refine Ev_iload_n hq_44 (show decode prog_1_method_8_code 113 = .ok (.iload_n 1, 1) by decide +kernel) rfl ?_
            obtain ⟨r15, I13, h14, k⟩ := k
            refine Ev_virt (as := [.int x1]) hq_44 (show decode prog_1_method_8_code 114 = .ok (.invokevirtual 144, 3) by decide +kernel) rfl hq_50 rfl (z_le rfl) ⟨(VB.lt hw8 (by omega)), hw8.2.1, by decide⟩ h14 ?_
            exact Ev_iret hq_44 (show decode prog_1_method_8_code 117 = .ok (.ireturn, 1) by decide +kernel) rfl k
          · have k := k.2 (Classical.not_not.mp c5)
            refine Ev_sipush (v := (-2000)) hq_44 (show decode prog_1_method_8_code 51 = .ok (.sipush (-2000), 3) by decide +kernel) (by decide) ?_
            exact Ev_iret hq_44 (show decode prog_1_method_8_code 54 = .ok (.ireturn, 1) by decide +kernel) rfl k
      · have k := k.2 (Classical.not_not.mp c3)
        refine Ev_sipush (v := (-2000)) hq_44 (show decode prog_1_method_8_code 32 = .ok (.sipush (-2000), 3) by decide +kernel) (by decide) ?_
        exact Ev_iret hq_44 (show decode prog_1_method_8_code 35 = .ok (.ireturn, 1) by decide +kernel) rfl k
  · have k := k.2 (Classical.not_not.mp c1)
    refine Ev_sipush (v := (-1000)) hq_44 (show decode prog_1_method_8_code 9 = .ok (.sipush (-1000), 3) by decide +kernel) (by decide) ?_
    exact Ev_iret hq_44 (show decode prog_1_method_8_code 12 = .ok (.ireturn, 1) by decide +kernel) rfl k
theorem FrL.F {I I1 : zI} (h : FrL I I1) {c : Nat} (hc : c < 27 ∨ (38 < c ∧ c < 55)) : I1 c = I c := h c (by omega) (by unfold isScr; omega)
theorem z_sh0 : ∀ x, x < 4 → (0 : Int32) <<< (zi x &&& 31) = 0 := by decide
theorem onb_loop {X : Nat × (Nat → Int32)} {d : Nat} {G : zG} (hS : SG G) {I J : zI} {n : Nat} (h : RH 1 I J n) :
    ∀ (m x : Nat) (v : Int32), x + m = n → ∃ r : Int32, Ev X d 38 4 [.ref 1, .int v, .int (zi x)] [] G I (some (.int r), G, I) ∧ Ev X (d + 1) 142 4 [.ref 57, .int v, .int (zi x)] [] G J (some (.int r), G, J) := by
  have h4 := h.le
  have hH := hS.H (o := 1) (by omega)
  intro m
  induction m with
  | zero =>
    intro x v hx
    obtain rfl : x = n := by omega
    exact ⟨v, wp_H_onBits_4 1 _ _ hH ⟨fun _ => rfl, fun q => absurd (by rw [h.ci]; exact Int32.le_refl _) q⟩, wp_Z_onSet_4 _ _ hS ⟨fun _ => rfl, fun q => absurd (by rw [h.cj]; exact Int32.le_refl _) q⟩⟩
  | succ m ih =>
    intro x v hx
    have nx : ¬ zi n ≤ zi x := fun q => absurd ((zi_le (by omega) (by omega)).1 q) (by omega)
    have hX := h.at' x (by omega)
    have e1 : I (1 + (6 + 1)) x = J 60 (5 * x + 4) := hX.on
    have cO := c_isOn (X := X) (d := d) hS (J := J) (x := x) (by omega)
    rcases hX.ro with e0 | e0
    · obtain ⟨r, k1, k2⟩ := ih (x + 1) v (by omega)
      refine ⟨r, wp_H_onBits_4 1 _ _ hH ?_, wp_Z_onSet_4 _ _ hS ?_⟩
      · rw [h.ci, zi_nat (show x < _ by omega), e1, e0, z_sh0 x (by omega), Int32.or_zero, zi1 x]
        exact ⟨fun q => absurd q nx, fun _ => ⟨zi_inr (by omega) (by omega), fun y hy y2 hy2 => by rw [hy, hy2]; exact k1⟩⟩
      · rw [h.cj]
        refine ⟨fun q => absurd q nx, fun _ => ⟨_, _, cO, fun _ y hy y2 hy2 => ?_, fun q => absurd ?_ q⟩⟩
        · rw [hy, hy2, Int32.or_zero, zi1 x]; exact k2
        · rw [e0]; decide
    · obtain ⟨r, k1, k2⟩ := ih (x + 1) (v ||| (1 <<< (zi x &&& 31))) (by omega)
      refine ⟨r, wp_H_onBits_4 1 _ _ hH ?_, wp_Z_onSet_4 _ _ hS ?_⟩
      · rw [h.ci, zi_nat (show x < _ by omega), e1, e0, zi1 x]
        exact ⟨fun q => absurd q nx, fun _ => ⟨zi_inr (by omega) (by omega), fun y hy y2 hy2 => by rw [hy, hy2]; exact k1⟩⟩
      · rw [h.cj]
        refine ⟨fun q => absurd q nx, fun _ => ⟨_, _, cO, fun q => absurd q ?_, fun _ y hy y2 hy2 => ?_⟩⟩
        · rw [e0]; decide
        · rw [hy, hy2, zi1 x]; exact k2
theorem q_count (x1 : Int32) : Quiet 37 141 [.int x1] := by
  intro X n m G I J R
  have hS := R.S
  obtain ⟨r, k1, k2⟩ := onb_loop (X := X) (d := 98) hS R.H n 0 0 (by omega)
  have c1 : Cv X 99 38 [.ref 1] G I (some (.int r), G, I) := (Cv.of hq_38 (z_le rfl) rfl (wp_H_onBits 1 k1)).deep (by omega)
  have c2 : Cv X 99 142 [.ref 57] G J (some (.int r), G, J) := Cv.of hq_142 (z_le rfl) rfl (wp_Z_onSet k2)
  obtain ⟨t, t1, t2, t3⟩ := R.L
  obtain ⟨k, p1, p2, p3, -⟩ := R.P
  obtain ⟨-, -, m1, m2, -⟩ := R.T
  by_cases h0 : x1 = 0
  · exact ⟨.int (zi n), I, J, Cv.of hq_37 (z_le rfl) rfl (wp_T_count _ hS ⟨fun _ => by rw [R.H.ci], fun h => absurd h0 h⟩), Cv.of hq_141 (z_le rfl) rfl (wp_Z_count _ hS ⟨fun _ => by rw [R.H.cj], fun h => absurd h0 h⟩), FC.rf, FZ.rf⟩
  by_cases h1 : x1 = 1
  · exact ⟨.int r, I, J, Cv.of hq_37 (z_le rfl) rfl (wp_T_count _ hS ⟨fun h => absurd h h0, fun _ => ⟨fun _ => ⟨r, I, c1, rfl⟩, fun h => absurd h1 h⟩⟩), Cv.of hq_141 (z_le rfl) rfl (wp_Z_count _ hS ⟨fun h => absurd h h0, fun _ => ⟨fun _ => ⟨r, J, c2, rfl⟩, fun h => absurd h1 h⟩⟩), FC.rf, FZ.rf⟩
  by_cases h2 : x1 = 2
  · exact ⟨.int (zi m), I, J, Cv.of hq_37 (z_le rfl) rfl (wp_T_count _ hS ⟨fun h => absurd h h0, fun _ => ⟨fun h => absurd h h1, fun _ => ⟨fun _ => by rw [m1], fun h => absurd h2 h⟩⟩⟩), Cv.of hq_141 (z_le rfl) rfl (wp_Z_count _ hS ⟨fun h => absurd h h0, fun _ => ⟨fun h => absurd h h1, fun _ => ⟨fun _ => by rw [m2], fun h => absurd h2 h⟩⟩⟩), FC.rf, FZ.rf⟩
  by_cases h3 : x1 = 3
  · exact ⟨.int (zi t), I, J, Cv.of hq_37 (z_le rfl) rfl (wp_T_count _ hS ⟨fun h => absurd h h0, fun _ => ⟨fun h => absurd h h1, fun _ => ⟨fun h => absurd h h2, fun _ => ⟨fun _ => by rw [t2], fun h => absurd h3 h⟩⟩⟩⟩), Cv.of hq_141 (z_le rfl) rfl (wp_Z_count _ hS ⟨fun h => absurd h h0, fun _ => ⟨fun h => absurd h h1, fun _ => ⟨fun h => absurd h h2, fun _ => ⟨fun _ => by rw [t3], fun h => absurd h3 h⟩⟩⟩⟩), FC.rf, FZ.rf⟩
  by_cases h4 : x1 = 4
  · exact ⟨.int (zi k), I, J, Cv.of hq_37 (z_le rfl) rfl (wp_T_count _ hS ⟨fun h => absurd h h0, fun _ => ⟨fun h => absurd h h1, fun _ => ⟨fun h => absurd h h2, fun _ => ⟨fun h => absurd h h3, fun _ => ⟨fun _ => by rw [p2], fun h => absurd h4 h⟩⟩⟩⟩⟩), Cv.of hq_141 (z_le rfl) rfl (wp_Z_count _ hS ⟨fun h => absurd h h0, fun _ => ⟨fun h => absurd h h1, fun _ => ⟨fun h => absurd h h2, fun _ => ⟨fun h => absurd h h3, fun _ => ⟨fun _ => by rw [p3], fun h => absurd h4 h⟩⟩⟩⟩⟩), FC.rf, FZ.rf⟩
  · exact ⟨.int (-2), I, J, Cv.of hq_37 (z_le rfl) rfl (wp_T_count _ hS ⟨fun h => absurd h h0, fun _ => ⟨fun h => absurd h h1, fun _ => ⟨fun h => absurd h h2, fun _ => ⟨fun h => absurd h h3, fun _ => ⟨fun h => absurd h h4, fun _ => rfl⟩⟩⟩⟩⟩), Cv.of hq_141 (z_le rfl) rfl (wp_Z_count _ hS ⟨fun h => absurd h h0, fun _ => ⟨fun h => absurd h h1, fun _ => ⟨fun h => absurd h h2, fun _ => ⟨fun h => absurd h h3, fun _ => ⟨fun h => absurd h h4, fun _ => rfl⟩⟩⟩⟩⟩), FC.rf, FZ.rf⟩
theorem q_asks (x1 x2 x3 x4 x5 : Int32) : Quiet 44 147 [.int x1, .int x2, .int x3, .int x4, .int x5] := by
  intro X n m G I J R
  have hS := R.S
  have es := R.sh x5
  have hn := R.H.le
  by_cases hs : f_T_isShower I x5 = 0
  · exact ⟨_, I, J, Cv.of hq_44 (z_le rfl) rfl (wp_T_asks _ _ _ _ _ (by omega) hS ⟨fun h => absurd hs h, fun _ => rfl⟩), Cv.of hq_147 (z_le rfl) rfl (wp_Z_asks _ _ _ _ _ (by omega) hS ⟨fun h => absurd (es.trans hs) h, fun _ => rfl⟩), FC.rf, FZ.rf⟩
  have hs' : ¬ f_Z_isShower J x5 = 0 := fun h => hs (es.symm.trans h)
  by_cases h1 : f_T_within x1 0 2 = 0
  · exact ⟨_, I, J, Cv.of hq_44 (z_le rfl) rfl (wp_T_asks _ _ _ _ _ (by omega) hS ⟨fun _ => ⟨fun _ => rfl, fun h => absurd h1 h⟩, fun h => absurd h hs⟩), Cv.of hq_147 (z_le rfl) rfl (wp_Z_asks _ _ _ _ _ (by omega) hS ⟨fun _ => ⟨fun _ => rfl, fun h => absurd h1 h⟩, fun h => absurd h hs'⟩), FC.rf, FZ.rf⟩
  by_cases h2 : f_T_within x2 0 3999999 = 0
  · exact ⟨_, I, J, Cv.of hq_44 (z_le rfl) rfl (wp_T_asks _ _ _ _ _ (by omega) hS ⟨fun _ => ⟨fun h => absurd h h1, fun _ => ⟨fun h => absurd h2 h, fun _ => rfl⟩⟩, fun h => absurd h hs⟩), Cv.of hq_147 (z_le rfl) rfl (wp_Z_asks _ _ _ _ _ (by omega) hS ⟨fun _ => ⟨fun h => absurd h h1, fun _ => ⟨fun _ => rfl, fun h => absurd h2 h⟩⟩, fun h => absurd h hs'⟩), FC.rf, FZ.rf⟩
  by_cases h3 : f_T_isWarm x3 = 0
  · exact ⟨_, I, J, Cv.of hq_44 (z_le rfl) rfl (wp_T_asks _ _ _ _ _ (by omega) hS ⟨fun _ => ⟨fun h => absurd h h1, fun _ => ⟨fun _ => ⟨fun _ => rfl, fun h => absurd h3 h⟩, fun h => absurd h h2⟩⟩, fun h => absurd h hs⟩), Cv.of hq_147 (z_le rfl) rfl (wp_Z_asks _ _ _ _ _ (by omega) hS ⟨fun _ => ⟨fun h => absurd h h1, fun _ => ⟨fun h => absurd h h2, fun _ => ⟨fun _ => rfl, fun h => absurd h3 h⟩⟩⟩, fun h => absurd h hs'⟩), FC.rf, FZ.rf⟩
  by_cases h4 : f_T_isBeat x4 = 0
  · exact ⟨_, I, J, Cv.of hq_44 (z_le rfl) rfl (wp_T_asks _ _ _ _ _ (by omega) hS ⟨fun _ => ⟨fun h => absurd h h1, fun _ => ⟨fun _ => ⟨fun h => absurd h h3, fun _ => ⟨fun h => absurd h4 h, fun _ => rfl⟩⟩, fun h => absurd h h2⟩⟩, fun h => absurd h hs⟩), Cv.of hq_147 (z_le rfl) rfl (wp_Z_asks _ _ _ _ _ (by omega) hS ⟨fun _ => ⟨fun h => absurd h h1, fun _ => ⟨fun h => absurd h h2, fun _ => ⟨fun h => absurd h h3, fun _ => ⟨fun _ => rfl, fun h => absurd h4 h⟩⟩⟩⟩, fun h => absurd h hs'⟩), FC.rf, FZ.rf⟩
  obtain ⟨x, hx, rfl⟩ := R.shx hs
  obtain ⟨p, -, hp, rfl⟩ := wi_spec (a := 0) (b := 2) (by omega) (by omega) h1
  obtain ⟨t, t1, t2, t3⟩ := R.L
  obtain ⟨w, w1, w2, w3⟩ := R.T.2.2.2.2 t t1
  have hm := R.T.2.1
  have hX := R.H.at' x hx
  obtain ⟨I11, ch, f11, n0, n1, n2, n3, n4, n5⟩ := c_hear (X := X) (d := 99) (G := G) (I := I) w3.1 (x2 / 2000 - 1000) (x2 - x2 / 2000 * 2000 - 1000) x3 x4 (J 60 (5 * x)) (J 59 x)
  have w2' : 52 ≤ w := by unfold isW at w2; omega
  obtain ⟨v, I13, J1, k1, k2, g1, g2⟩ := says_sim (X := X) (d := 96) hS (w3.fr (f11 _ (by omega)) (f11 _ (by omega)) rfl rfl) (p := p) (by omega) (x := x) (by omega) t3 n0 n1 n2 n3 n4 n5
  refine ⟨_, I13, J1, Cv.of hq_44 (z_le rfl) rfl (wp_T_asks _ _ _ _ _ (by omega) hS ⟨fun _ => ⟨fun h => absurd h h1, fun _ => ⟨fun _ => ⟨fun h => absurd h h3, fun _ => ⟨fun _ => ⟨w, I, (c_lawOf (d := 97) hS (hS.H (o := 1) (by omega)) (by omega) t2 w1), w3.1, zi_inr (by omega) (by omega), zi_inr (by omega) (by omega), I11, ?_, _, _, k1.deep (by omega), rfl⟩, fun h => absurd h h4⟩⟩, fun h => absurd h h2⟩⟩, fun h => absurd h hs⟩), Cv.of hq_147 (z_le rfl) rfl (wp_Z_asks _ _ _ _ _ (by omega) hS ⟨fun _ => ⟨fun h => absurd h h1, fun _ => ⟨fun h => absurd h h2, fun _ => ⟨fun h => absurd h h3, fun _ => ⟨fun h => absurd h h4, fun _ => ⟨_, _, k2, rfl⟩⟩⟩⟩⟩, fun h => absurd h hs'⟩), fun c h h2 h5 => ?_, FrR.Z fun c h => g2 c (by omega) (by omega)⟩
  · rw [zi_nat (show x < _ by omega), show I 4 x = _ from hX.late, show I 3 x = _ from hX.more]; exact ch
  · have a3 : c ≠ w + 3 := fun e => h5 (by unfold isScr; unfold isW at w2; omega)
    have a4 : c ≠ w + 4 := fun e => h5 (by unfold isScr; unfold isW at w2; omega)
    rw [g1 c a4, f11 c a3]
