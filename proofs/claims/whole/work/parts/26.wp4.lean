set_option maxRecDepth 20000 in
theorem wp_T_choice {X : Nat × (Nat → Int32)} {d : Nat} {G : zG} {I : zI} {res : Option Value × zG × zI} (x0 : Int32) (x1 : Int32) 
    (k : res = (some (.int ((x0 * 1024) + x1)), G, I)) :
    Ev X d 85 0 [.int x0, .int x1] [] G I res := by
  refine Ev_iload_n hq_85 (show decode prog_1_method_33_code 0 = .ok (.iload_n 0, 1) by decide +kernel) rfl ?_
  refine Ev_sipush (v := 1024) hq_85 (show decode prog_1_method_33_code 1 = .ok (.sipush 1024, 3) by decide +kernel) (by decide) ?_
  refine Ev_imul hq_85 (show decode prog_1_method_33_code 4 = .ok (.imul, 1) by decide +kernel) ?_
  refine Ev_iload_n hq_85 (show decode prog_1_method_33_code 5 = .ok (.iload_n 1, 1) by decide +kernel) rfl ?_
  refine Ev_iadd hq_85 (show decode prog_1_method_33_code 6 = .ok (.iadd, 1) by decide +kernel) ?_
  exact Ev_iret hq_85 (show decode prog_1_method_33_code 7 = .ok (.ireturn, 1) by decide +kernel) rfl k
def f_T_choice (x0 x1 : Int32) : Int32 := ((x0 * 1024) + x1)
theorem c_T_choice {X : Nat × (Nat → Int32)} {d : Nat} {G : zG} {I : zI} (x0 x1 : Int32) : Cv X d 85 [.int x0, .int x1] G I (some (.int (f_T_choice x0 x1)), G, I) := by
  exact Cv.of hq_85 (z_le rfl) rfl (wp_T_choice x0 x1 (by rfl))
set_option maxRecDepth 20000 in
theorem wp_T_bestHaste {X : Nat × (Nat → Int32)} {d : Nat} {G : zG} {I : zI} {res : Option Value × zG × zI} (x1 : Int32) 
    (k : Ev X d 84 5 [.ref 0, .int x1, .int 2147483647, .int 0] [] G I res) :
    Ev X d 84 0 [.ref 0, .int x1, zU, zU] [] G I res := by
  refine Ev_ldc (v := 2147483647) hq_84 (show decode prog_1_method_32_code 0 = .ok (.ldc 239, 2) by decide +kernel) rfl ?_
  refine Ev_istore_n (lo2 := [.ref 0, .int x1, .int 2147483647, zU]) hq_84 (show decode prog_1_method_32_code 2 = .ok (.istore_n 2, 1) by decide +kernel) (z_le rfl) rfl ?_
  refine Ev_iconst (v := 0) hq_84 (show decode prog_1_method_32_code 3 = .ok (.iconst 0, 1) by decide +kernel) (by decide) ?_
  refine Ev_istore_n (lo2 := [.ref 0, .int x1, .int 2147483647, .int 0]) hq_84 (show decode prog_1_method_32_code 4 = .ok (.istore_n 3, 1) by decide +kernel) (z_le rfl) rfl ?_
  exact k
set_option maxRecDepth 20000 in
theorem wp_T_bestHaste_5 {X : Nat × (Nat → Int32)} {d : Nat} {G : zG} {I : zI} {res : Option Value × zG × zI} (x1 : Int32) (x2 : Int32) (x3 : Int32) (hS : SG G) 
    (k : (16 < x3 → res = (some (.int x2), G, I)) ∧ (¬ 16 < x3 → z_inr x1 4 ∧ (∀ I3 : zI, I3 = z_up I 15 x1.toNatClampNeg x3 → ∃ (I4 : zI), Cv X d 62 [.ref 0, .ref 9] G I3 (none, G, I4) ∧ (z_inr x1 4 ∧ (∀ y7 : Int32, y7 = (if (f_T_choice (I4 36 x1.toNatClampNeg) x3) < x2 then (f_T_choice (I4 36 x1.toNatClampNeg) x3) else x2) → ∀ y8 : Int32, y8 = x3 + 1 → Ev X (d + 1) 84 5 [.ref 0, .int x1, .int y7, .int y8] [] G I4 res))))) :
    Ev X (d + 1) 84 5 [.ref 0, .int x1, .int x2, .int x3] [] G I res := by
  refine Ev_iload_n hq_84 (show decode prog_1_method_32_code 5 = .ok (.iload_n 3, 1) by decide +kernel) rfl ?_
  refine Ev_bipush (v := 16) hq_84 (show decode prog_1_method_32_code 6 = .ok (.bipush 16, 2) by decide +kernel) (by decide) ?_
  refine Ev_icmp_gt (tgt := 53) hq_84 (show decode prog_1_method_32_code 8 = .ok (.if_icmp .gt 45, 3) by decide +kernel) (by decide) (fun c1 => ?_) (fun c1 => ?_)
  · have k := k.1 c1
    refine Ev_iload_n hq_84 (show decode prog_1_method_32_code 53 = .ok (.iload_n 2, 1) by decide +kernel) rfl ?_
    exact Ev_iret hq_84 (show decode prog_1_method_32_code 54 = .ok (.ireturn, 1) by decide +kernel) rfl k
  · have k := k.2 c1
    refine Ev_aload_n hq_84 (show decode prog_1_method_32_code 11 = .ok (.aload_n 0, 1) by decide +kernel) rfl ?_
    refine Ev_getR hq_84 (show decode prog_1_method_32_code 12 = .ok (.getfield 16, 3) by decide +kernel) rfl (SGn hS (by decide)) (SGk hS rfl) (by decide) rfl (SGr hS rfl) ?_
    refine Ev_getR hq_84 (show decode prog_1_method_32_code 15 = .ok (.getfield 240, 3) by decide +kernel) rfl (SGn hS (by decide)) (SGk hS rfl) (by decide) rfl (SGr hS rfl) ?_
    refine Ev_iload_n hq_84 (show decode prog_1_method_32_code 18 = .ok (.iload_n 1, 1) by decide +kernel) rfl ?_
    refine Ev_iload_n hq_84 (show decode prog_1_method_32_code 19 = .ok (.iload_n 3, 1) by decide +kernel) rfl ?_
    obtain ⟨h2, k⟩ := k
    refine Ev_iast hq_84 (show decode prog_1_method_32_code 20 = .ok (.iastore, 1) by decide +kernel) (SGn hS (by decide)) (SGk hS rfl) (SGi hS rfl h2) ?_
    obtain ⟨I3, eI3⟩ : ∃ I3 : zI, I3 = z_up I 15 x1.toNatClampNeg x3 := ⟨_, rfl⟩
    have k := k I3 eI3
    rw [← eI3]
    refine Ev_aload_n hq_84 (show decode prog_1_method_32_code 21 = .ok (.aload_n 0, 1) by decide +kernel) rfl ?_
    refine Ev_aload_n hq_84 (show decode prog_1_method_32_code 22 = .ok (.aload_n 0, 1) by decide +kernel) rfl ?_
    refine Ev_getR hq_84 (show decode prog_1_method_32_code 23 = .ok (.getfield 16, 3) by decide +kernel) rfl (SGn hS (by decide)) (SGk hS rfl) (by decide) rfl (SGr hS rfl) ?_
    obtain ⟨I4, h5, k⟩ := k
    refine Ev_virt (as := [.ref 9]) hq_84 (show decode prog_1_method_32_code 26 = .ok (.invokevirtual 187, 3) by decide +kernel) rfl hq_62 rfl (z_le rfl) ⟨(SGn hS (by decide)), (SGk hS rfl), by decide⟩ h5 ?_
    refine Ev_iload_n hq_84 (show decode prog_1_method_32_code 29 = .ok (.iload_n 2, 1) by decide +kernel) rfl ?_
    refine Ev_aload_n hq_84 (show decode prog_1_method_32_code 30 = .ok (.aload_n 0, 1) by decide +kernel) rfl ?_
    refine Ev_getR hq_84 (show decode prog_1_method_32_code 31 = .ok (.getfield 29, 3) by decide +kernel) rfl (SGn hS (by decide)) (SGk hS rfl) (by decide) rfl (SGr hS rfl) ?_
    refine Ev_getR hq_84 (show decode prog_1_method_32_code 34 = .ok (.getfield 200, 3) by decide +kernel) rfl (SGn hS (by decide)) (SGk hS rfl) (by decide) rfl (SGr hS rfl) ?_
    refine Ev_iload_n hq_84 (show decode prog_1_method_32_code 37 = .ok (.iload_n 1, 1) by decide +kernel) rfl ?_
    obtain ⟨h6, k⟩ := k
    refine Ev_iald hq_84 (show decode prog_1_method_32_code 38 = .ok (.iaload, 1) by decide +kernel) (SGn hS (by decide)) (SGk hS rfl) (SGi hS rfl h6) ?_
    refine Ev_iload_n hq_84 (show decode prog_1_method_32_code 39 = .ok (.iload_n 3, 1) by decide +kernel) rfl ?_
    refine Ev_stat (as := [.int (I4 36 x1.toNatClampNeg), .int x3]) hq_84 (show decode prog_1_method_32_code 40 = .ok (.invokestatic 243, 3) by decide +kernel) rfl (Or.inl rfl) hq_85 rfl (z_le rfl) (c_T_choice (I4 36 x1.toNatClampNeg) x3) ?_
    refine Ev_min hq_84 (show decode prog_1_method_32_code 43 = .ok (.invokestatic 76, 3) by decide +kernel) rfl (z_le rfl) ?_
    obtain ⟨y7, ey7⟩ : ∃ y7 : Int32, y7 = (if (f_T_choice (I4 36 x1.toNatClampNeg) x3) < x2 then (f_T_choice (I4 36 x1.toNatClampNeg) x3) else x2) := ⟨_, rfl⟩
    have k := k y7 ey7
    rw [← ey7]
    refine Ev_istore_n (lo2 := [.ref 0, .int x1, .int y7, .int x3]) hq_84 (show decode prog_1_method_32_code 46 = .ok (.istore_n 2, 1) by decide +kernel) (z_le rfl) rfl ?_
    obtain ⟨y8, ey8⟩ : ∃ y8 : Int32, y8 = x3 + 1 := ⟨_, rfl⟩
    have k := k y8 ey8
    refine Ev_iinc (v := y8) (lo2 := [.ref 0, .int x1, .int y7, .int y8]) hq_84 (show decode prog_1_method_32_code 47 = .ok (.iinc 3 1, 3) by decide +kernel) rfl (by rw [ey8]; rfl) rfl ?_
    refine Ev_goto (tgt := 5) hq_84 (show decode prog_1_method_32_code 50 = .ok (.goto (-45), 3) by decide +kernel) (by decide) ?_
    exact k
set_option maxRecDepth 20000 in
theorem wp_T_choiceOrCost {X : Nat × (Nat → Int32)} {d : Nat} {G : zG} {I : zI} {res : Option Value × zG × zI} (x0 : Int32) (x1 : Int32) 
    (k : (¬ x1 = 0 → res = (some (.int (x0 / 1024)), G, I)) ∧ (x1 = 0 → res = (some (.int (x0 - x0 / 1024 * 1024)), G, I))) :
    Ev X d 86 0 [.int x0, .int x1] [] G I res := by
  refine Ev_iload_n hq_86 (show decode prog_1_method_34_code 0 = .ok (.iload_n 1, 1) by decide +kernel) rfl ?_
  refine Ev_if_ne (tgt := 12) hq_86 (show decode prog_1_method_34_code 1 = .ok (.ifCond .ne 11, 3) by decide +kernel) (by decide) (fun c1 => ?_) (fun c1 => ?_)
  · have k := k.1 c1
    refine Ev_iload_n hq_86 (show decode prog_1_method_34_code 12 = .ok (.iload_n 0, 1) by decide +kernel) rfl ?_
    refine Ev_sipush (v := 1024) hq_86 (show decode prog_1_method_34_code 13 = .ok (.sipush 1024, 3) by decide +kernel) (by decide) ?_
    refine Ev_idiv hq_86 (show decode prog_1_method_34_code 16 = .ok (.idiv, 1) by decide +kernel) (by decide) ?_
    exact Ev_iret hq_86 (show decode prog_1_method_34_code 17 = .ok (.ireturn, 1) by decide +kernel) rfl k
  · have k := k.2 (Classical.not_not.mp c1)
    refine Ev_iload_n hq_86 (show decode prog_1_method_34_code 4 = .ok (.iload_n 0, 1) by decide +kernel) rfl ?_
    refine Ev_sipush (v := 1024) hq_86 (show decode prog_1_method_34_code 5 = .ok (.sipush 1024, 3) by decide +kernel) (by decide) ?_
    refine Ev_irem hq_86 (show decode prog_1_method_34_code 8 = .ok (.irem, 1) by decide +kernel) (by decide) ?_
    refine Ev_goto (tgt := 17) hq_86 (show decode prog_1_method_34_code 9 = .ok (.goto 8, 3) by decide +kernel) (by decide) ?_
    exact Ev_iret hq_86 (show decode prog_1_method_34_code 17 = .ok (.ireturn, 1) by decide +kernel) rfl k
def f_T_choiceOrCost (x0 x1 : Int32) : Int32 := (if x1 = 0 then (x0 - x0 / 1024 * 1024) else (x0 / 1024))
theorem c_T_choiceOrCost {X : Nat × (Nat → Int32)} {d : Nat} {G : zG} {I : zI} (x0 x1 : Int32) : Cv X d 86 [.int x0, .int x1] G I (some (.int (f_T_choiceOrCost x0 x1)), G, I) := by
  exact Cv.of hq_86 (z_le rfl) rfl (wp_T_choiceOrCost x0 x1 ⟨fun h0 => (by simp only [f_T_choiceOrCost]; rw [if_neg h0]), fun h0 => (by simp only [f_T_choiceOrCost]; rw [if_pos h0])⟩)
set_option maxRecDepth 20000 in
theorem wp_T_best {X : Nat × (Nat → Int32)} {d : Nat} {G : zG} {I : zI} {res : Option Value × zG × zI} (x1 : Int32) (x2 : Int32) (hd : 1 ≤ d) (hS : SG G) 
    (k : (¬ (f_T_isShower I x1) = 0 → (¬ (f_T_within x2 0 1) = 0 → ∃ (I3 : zI), Cv X d 83 [.ref 9, .ref 1] G I (none, G, I3) ∧ (∃ (r7 : Int32) (I5 : zI), Cv X d 84 [.ref 0, .int x1] G I3 (some (.int r7), G, I5) ∧ (res = (some (.int (f_T_choiceOrCost r7 x2)), G, I5)))) ∧ ((f_T_within x2 0 1) = 0 → res = (some (.int (-7)), G, I))) ∧ ((f_T_isShower I x1) = 0 → res = (some (.int (-5)), G, I))) :
    Ev X (d + 1) 82 0 [.ref 0, .int x1, .int x2] [] G I res := by
  refine Ev_aload_n hq_82 (show decode prog_1_method_31_code 0 = .ok (.aload_n 0, 1) by decide +kernel) rfl ?_
  refine Ev_iload_n hq_82 (show decode prog_1_method_31_code 1 = .ok (.iload_n 1, 1) by decide +kernel) rfl ?_
  refine Ev_virt (as := [.int x1]) hq_82 (show decode prog_1_method_31_code 2 = .ok (.invokevirtual 120, 3) by decide +kernel) rfl hq_45 rfl (z_le rfl) ⟨(SGn hS (by decide)), (SGk hS rfl), by decide⟩ (c_T_isShower (by omega) hS x1) ?_
  refine Ev_if_ne (tgt := 11) hq_82 (show decode prog_1_method_31_code 5 = .ok (.ifCond .ne 6, 3) by decide +kernel) (by decide) (fun c1 => ?_) (fun c1 => ?_)
  · have k := k.1 c1
    refine Ev_iload_n hq_82 (show decode prog_1_method_31_code 11 = .ok (.iload_n 2, 1) by decide +kernel) rfl ?_
    refine Ev_iconst (v := 0) hq_82 (show decode prog_1_method_31_code 12 = .ok (.iconst 0, 1) by decide +kernel) (by decide) ?_
    refine Ev_iconst (v := 1) hq_82 (show decode prog_1_method_31_code 13 = .ok (.iconst 1, 1) by decide +kernel) (by decide) ?_
    refine Ev_stat (as := [.int x2, .int 0, .int 1]) hq_82 (show decode prog_1_method_31_code 14 = .ok (.invokestatic 108, 3) by decide +kernel) rfl (Or.inl rfl) hq_32 rfl (z_le rfl) (c_T_within x2 0 1) ?_
    refine Ev_if_ne (tgt := 23) hq_82 (show decode prog_1_method_31_code 17 = .ok (.ifCond .ne 6, 3) by decide +kernel) (by decide) (fun c2 => ?_) (fun c2 => ?_)
    · have k := k.1 c2
      refine Ev_aload_n hq_82 (show decode prog_1_method_31_code 23 = .ok (.aload_n 0, 1) by decide +kernel) rfl ?_
      refine Ev_getR hq_82 (show decode prog_1_method_31_code 24 = .ok (.getfield 16, 3) by decide +kernel) rfl (SGn hS (by decide)) (SGk hS rfl) (by decide) rfl (SGr hS rfl) ?_
      refine Ev_aload_n hq_82 (show decode prog_1_method_31_code 27 = .ok (.aload_n 0, 1) by decide +kernel) rfl ?_
      refine Ev_getR hq_82 (show decode prog_1_method_31_code 28 = .ok (.getfield 10, 3) by decide +kernel) rfl (SGn hS (by decide)) (SGk hS rfl) (by decide) rfl (SGr hS rfl) ?_
      obtain ⟨I3, h4, k⟩ := k
      refine Ev_virt (as := [.ref 1]) hq_82 (show decode prog_1_method_31_code 31 = .ok (.invokevirtual 230, 3) by decide +kernel) rfl hq_83 rfl (z_le rfl) ⟨(SGn hS (by decide)), (SGk hS rfl), by decide⟩ h4 ?_
      refine Ev_aload_n hq_82 (show decode prog_1_method_31_code 34 = .ok (.aload_n 0, 1) by decide +kernel) rfl ?_
      refine Ev_iload_n hq_82 (show decode prog_1_method_31_code 35 = .ok (.iload_n 1, 1) by decide +kernel) rfl ?_
      obtain ⟨r7, I5, h6, k⟩ := k
      refine Ev_virt (as := [.int x1]) hq_82 (show decode prog_1_method_31_code 36 = .ok (.invokevirtual 233, 3) by decide +kernel) rfl hq_84 rfl (z_le rfl) ⟨(SGn hS (by decide)), (SGk hS rfl), by decide⟩ h6 ?_
      refine Ev_iload_n hq_82 (show decode prog_1_method_31_code 39 = .ok (.iload_n 2, 1) by decide +kernel) rfl ?_
      refine Ev_stat (as := [.int r7, .int x2]) hq_82 (show decode prog_1_method_31_code 40 = .ok (.invokestatic 236, 3) by decide +kernel) rfl (Or.inl rfl) hq_86 rfl (z_le rfl) (c_T_choiceOrCost r7 x2) ?_
      exact Ev_iret hq_82 (show decode prog_1_method_31_code 43 = .ok (.ireturn, 1) by decide +kernel) rfl k
    · have k := k.2 (Classical.not_not.mp c2)
      refine Ev_bipush (v := (-7)) hq_82 (show decode prog_1_method_31_code 20 = .ok (.bipush (-7), 2) by decide +kernel) (by decide) ?_
      exact Ev_iret hq_82 (show decode prog_1_method_31_code 22 = .ok (.ireturn, 1) by decide +kernel) rfl k
  · have k := k.2 (Classical.not_not.mp c1)
    refine Ev_bipush (v := (-5)) hq_82 (show decode prog_1_method_31_code 8 = .ok (.bipush (-5), 2) by decide +kernel) (by decide) ?_
    exact Ev_iret hq_82 (show decode prog_1_method_31_code 10 = .ok (.ireturn, 1) by decide +kernel) rfl k
set_option maxRecDepth 20000 in
theorem wp_T_restsByHaste {X : Nat × (Nat → Int32)} {d : Nat} {G : zG} {I : zI} {res : Option Value × zG × zI} (x1 : Int32) (x2 : Int32) (x3 : Int32) (hS : SG G) 
    (k : z_inr x1 4 ∧ (∀ I2 : zI, I2 = z_up I 15 x1.toNatClampNeg x3 → ∃ (I3 : zI), Cv X d 62 [.ref 0, .ref 9] G I2 (none, G, I3) ∧ (z_inr x1 4 ∧ (∃ (r8 : Int32) (I6 : zI), Cv X d 72 [.ref 25, .int x1, .int (I3 13 x1.toNatClampNeg), .int x2] G I3 (some (.int r8), G, I6) ∧ (res = (some (.int r8), G, I6)))))) :
    Ev X (d + 1) 88 0 [.ref 0, .int x1, .int x2, .int x3] [] G I res := by
  refine Ev_aload_n hq_88 (show decode prog_1_method_36_code 0 = .ok (.aload_n 0, 1) by decide +kernel) rfl ?_
  refine Ev_getR hq_88 (show decode prog_1_method_36_code 1 = .ok (.getfield 16, 3) by decide +kernel) rfl (SGn hS (by decide)) (SGk hS rfl) (by decide) rfl (SGr hS rfl) ?_
  refine Ev_getR hq_88 (show decode prog_1_method_36_code 4 = .ok (.getfield 240, 3) by decide +kernel) rfl (SGn hS (by decide)) (SGk hS rfl) (by decide) rfl (SGr hS rfl) ?_
  refine Ev_iload_n hq_88 (show decode prog_1_method_36_code 7 = .ok (.iload_n 1, 1) by decide +kernel) rfl ?_
  refine Ev_iload_n hq_88 (show decode prog_1_method_36_code 8 = .ok (.iload_n 3, 1) by decide +kernel) rfl ?_
  obtain ⟨h1, k⟩ := k
  refine Ev_iast hq_88 (show decode prog_1_method_36_code 9 = .ok (.iastore, 1) by decide +kernel) (SGn hS (by decide)) (SGk hS rfl) (SGi hS rfl h1) ?_
  obtain ⟨I2, eI2⟩ : ∃ I2 : zI, I2 = z_up I 15 x1.toNatClampNeg x3 := ⟨_, rfl⟩
  have k := k I2 eI2
  rw [← eI2]
  refine Ev_aload_n hq_88 (show decode prog_1_method_36_code 10 = .ok (.aload_n 0, 1) by decide +kernel) rfl ?_
  refine Ev_aload_n hq_88 (show decode prog_1_method_36_code 11 = .ok (.aload_n 0, 1) by decide +kernel) rfl ?_
  refine Ev_getR hq_88 (show decode prog_1_method_36_code 12 = .ok (.getfield 16, 3) by decide +kernel) rfl (SGn hS (by decide)) (SGk hS rfl) (by decide) rfl (SGr hS rfl) ?_
  obtain ⟨I3, h4, k⟩ := k
  refine Ev_virt (as := [.ref 9]) hq_88 (show decode prog_1_method_36_code 15 = .ok (.invokevirtual 187, 3) by decide +kernel) rfl hq_62 rfl (z_le rfl) ⟨(SGn hS (by decide)), (SGk hS rfl), by decide⟩ h4 ?_
  refine Ev_aload_n hq_88 (show decode prog_1_method_36_code 18 = .ok (.aload_n 0, 1) by decide +kernel) rfl ?_
  refine Ev_getR hq_88 (show decode prog_1_method_36_code 19 = .ok (.getfield 29, 3) by decide +kernel) rfl (SGn hS (by decide)) (SGk hS rfl) (by decide) rfl (SGr hS rfl) ?_
  refine Ev_iload_n hq_88 (show decode prog_1_method_36_code 22 = .ok (.iload_n 1, 1) by decide +kernel) rfl ?_
  refine Ev_aload_n hq_88 (show decode prog_1_method_36_code 23 = .ok (.aload_n 0, 1) by decide +kernel) rfl ?_
  refine Ev_getR hq_88 (show decode prog_1_method_36_code 24 = .ok (.getfield 16, 3) by decide +kernel) rfl (SGn hS (by decide)) (SGk hS rfl) (by decide) rfl (SGr hS rfl) ?_
  refine Ev_getR hq_88 (show decode prog_1_method_36_code 27 = .ok (.getfield 197, 3) by decide +kernel) rfl (SGn hS (by decide)) (SGk hS rfl) (by decide) rfl (SGr hS rfl) ?_
  refine Ev_iload_n hq_88 (show decode prog_1_method_36_code 30 = .ok (.iload_n 1, 1) by decide +kernel) rfl ?_
  obtain ⟨h5, k⟩ := k
  refine Ev_iald hq_88 (show decode prog_1_method_36_code 31 = .ok (.iaload, 1) by decide +kernel) (SGn hS (by decide)) (SGk hS rfl) (SGi hS rfl h5) ?_
  refine Ev_iload_n hq_88 (show decode prog_1_method_36_code 32 = .ok (.iload_n 2, 1) by decide +kernel) rfl ?_
  obtain ⟨r8, I6, h7, k⟩ := k
  refine Ev_virt (as := [.int x1, .int (I3 13 x1.toNatClampNeg), .int x2]) hq_88 (show decode prog_1_method_36_code 33 = .ok (.invokevirtual 212, 3) by decide +kernel) rfl hq_72 rfl (z_le rfl) ⟨(SGn hS (by decide)), (SGk hS rfl), by decide⟩ h7 ?_
  exact Ev_iret hq_88 (show decode prog_1_method_36_code 36 = .ok (.ireturn, 1) by decide +kernel) rfl k
set_option maxRecDepth 20000 in
theorem wp_T_line {X : Nat × (Nat → Int32)} {d : Nat} {G : zG} {I : zI} {res : Option Value × zG × zI} (x1 : Int32) (x2 : Int32) (hd : 1 ≤ d) (hS : SG G) 
    (k : (¬ (f_T_isShower I x1) = 0 → (¬ (f_T_isWarm x2) = 0 → ∃ (I3 : zI), Cv X d 83 [.ref 9, .ref 1] G I (none, G, I3) ∧ (Ev X (d + 1) 87 35 [.ref 0, .int x1, .int x2, .int 16] [] G I3 res)) ∧ ((f_T_isWarm x2) = 0 → res = (some (.int (-7)), G, I))) ∧ ((f_T_isShower I x1) = 0 → res = (some (.int (-5)), G, I))) :
    Ev X (d + 1) 87 0 [.ref 0, .int x1, .int x2, zU] [] G I res := by
  refine Ev_aload_n hq_87 (show decode prog_1_method_35_code 0 = .ok (.aload_n 0, 1) by decide +kernel) rfl ?_
  refine Ev_iload_n hq_87 (show decode prog_1_method_35_code 1 = .ok (.iload_n 1, 1) by decide +kernel) rfl ?_
  refine Ev_virt (as := [.int x1]) hq_87 (show decode prog_1_method_35_code 2 = .ok (.invokevirtual 120, 3) by decide +kernel) rfl hq_45 rfl (z_le rfl) ⟨(SGn hS (by decide)), (SGk hS rfl), by decide⟩ (c_T_isShower (by omega) hS x1) ?_
  refine Ev_if_ne (tgt := 11) hq_87 (show decode prog_1_method_35_code 5 = .ok (.ifCond .ne 6, 3) by decide +kernel) (by decide) (fun c1 => ?_) (fun c1 => ?_)
  · have k := k.1 c1
    refine Ev_iload_n hq_87 (show decode prog_1_method_35_code 11 = .ok (.iload_n 2, 1) by decide +kernel) rfl ?_
    refine Ev_stat (as := [.int x2]) hq_87 (show decode prog_1_method_35_code 12 = .ok (.invokestatic 124, 3) by decide +kernel) rfl (Or.inl rfl) hq_46 rfl (z_le rfl) (c_T_isWarm (by omega) x2) ?_
    refine Ev_if_ne (tgt := 21) hq_87 (show decode prog_1_method_35_code 15 = .ok (.ifCond .ne 6, 3) by decide +kernel) (by decide) (fun c2 => ?_) (fun c2 => ?_)
    · have k := k.1 c2
      refine Ev_aload_n hq_87 (show decode prog_1_method_35_code 21 = .ok (.aload_n 0, 1) by decide +kernel) rfl ?_
      refine Ev_getR hq_87 (show decode prog_1_method_35_code 22 = .ok (.getfield 16, 3) by decide +kernel) rfl (SGn hS (by decide)) (SGk hS rfl) (by decide) rfl (SGr hS rfl) ?_
      refine Ev_aload_n hq_87 (show decode prog_1_method_35_code 25 = .ok (.aload_n 0, 1) by decide +kernel) rfl ?_
      refine Ev_getR hq_87 (show decode prog_1_method_35_code 26 = .ok (.getfield 10, 3) by decide +kernel) rfl (SGn hS (by decide)) (SGk hS rfl) (by decide) rfl (SGr hS rfl) ?_
      obtain ⟨I3, h4, k⟩ := k
      refine Ev_virt (as := [.ref 1]) hq_87 (show decode prog_1_method_35_code 29 = .ok (.invokevirtual 230, 3) by decide +kernel) rfl hq_83 rfl (z_le rfl) ⟨(SGn hS (by decide)), (SGk hS rfl), by decide⟩ h4 ?_
      refine Ev_bipush (v := 16) hq_87 (show decode prog_1_method_35_code 32 = .ok (.bipush 16, 2) by decide +kernel) (by decide) ?_
      refine Ev_istore_n (lo2 := [.ref 0, .int x1, .int x2, .int 16]) hq_87 (show decode prog_1_method_35_code 34 = .ok (.istore_n 3, 1) by decide +kernel) (z_le rfl) rfl ?_
      exact k
    · have k := k.2 (Classical.not_not.mp c2)
      refine Ev_bipush (v := (-7)) hq_87 (show decode prog_1_method_35_code 18 = .ok (.bipush (-7), 2) by decide +kernel) (by decide) ?_
      exact Ev_iret hq_87 (show decode prog_1_method_35_code 20 = .ok (.ireturn, 1) by decide +kernel) rfl k
  · have k := k.2 (Classical.not_not.mp c1)
    refine Ev_bipush (v := (-5)) hq_87 (show decode prog_1_method_35_code 8 = .ok (.bipush (-5), 2) by decide +kernel) (by decide) ?_
    exact Ev_iret hq_87 (show decode prog_1_method_35_code 10 = .ok (.ireturn, 1) by decide +kernel) rfl k
set_option maxRecDepth 20000 in
theorem wp_T_line_35 {X : Nat × (Nat → Int32)} {d : Nat} {G : zG} {I : zI} {res : Option Value × zG × zI} (x1 : Int32) (x2 : Int32) (x3 : Int32) (hS : SG G) 
    (k : (x3 < 0 → res = (some (.int (-1)), G, I)) ∧ (¬ x3 < 0 → ∃ (r4 : Int32) (I2 : zI), Cv X d 88 [.ref 0, .int x1, .int x2, .int x3] G I (some (.int r4), G, I2) ∧ ((r4 = (-1) → ∀ y6 : Int32, y6 = x3 + (-1) → Ev X (d + 1) 87 35 [.ref 0, .int x1, .int x2, .int y6] [] G I2 res) ∧ (¬ r4 = (-1) → res = (some (.int x3), G, I2))))) :
    Ev X (d + 1) 87 35 [.ref 0, .int x1, .int x2, .int x3] [] G I res := by
  refine Ev_iload_n hq_87 (show decode prog_1_method_35_code 35 = .ok (.iload_n 3, 1) by decide +kernel) rfl ?_
  refine Ev_if_lt (tgt := 58) hq_87 (show decode prog_1_method_35_code 36 = .ok (.ifCond .lt 22, 3) by decide +kernel) (by decide) (fun c1 => ?_) (fun c1 => ?_)
  · have k := k.1 c1
    refine Ev_iconst (v := (-1)) hq_87 (show decode prog_1_method_35_code 58 = .ok (.iconst (-1), 1) by decide +kernel) (by decide) ?_
    exact Ev_iret hq_87 (show decode prog_1_method_35_code 59 = .ok (.ireturn, 1) by decide +kernel) rfl k
  · have k := k.2 c1
    refine Ev_aload_n hq_87 (show decode prog_1_method_35_code 39 = .ok (.aload_n 0, 1) by decide +kernel) rfl ?_
    refine Ev_iload_n hq_87 (show decode prog_1_method_35_code 40 = .ok (.iload_n 1, 1) by decide +kernel) rfl ?_
    refine Ev_iload_n hq_87 (show decode prog_1_method_35_code 41 = .ok (.iload_n 2, 1) by decide +kernel) rfl ?_
    refine Ev_iload_n hq_87 (show decode prog_1_method_35_code 42 = .ok (.iload_n 3, 1) by decide +kernel) rfl ?_
    obtain ⟨r4, I2, h3, k⟩ := k
    refine Ev_virt (as := [.int x1, .int x2, .int x3]) hq_87 (show decode prog_1_method_35_code 43 = .ok (.invokevirtual 246, 3) by decide +kernel) rfl hq_88 rfl (z_le rfl) ⟨(SGn hS (by decide)), (SGk hS rfl), by decide⟩ h3 ?_
    refine Ev_iconst (v := (-1)) hq_87 (show decode prog_1_method_35_code 46 = .ok (.iconst (-1), 1) by decide +kernel) (by decide) ?_
    refine Ev_icmp_eq (tgt := 52) hq_87 (show decode prog_1_method_35_code 47 = .ok (.if_icmp .eq 5, 3) by decide +kernel) (by decide) (fun c5 => ?_) (fun c5 => ?_)
    · have k := k.1 c5
      obtain ⟨y6, ey6⟩ : ∃ y6 : Int32, y6 = x3 + (-1) := ⟨_, rfl⟩
      have k := k y6 ey6
      refine Ev_iinc (v := y6) (lo2 := [.ref 0, .int x1, .int x2, .int y6]) hq_87 (show decode prog_1_method_35_code 52 = .ok (.iinc 3 (-1), 3) by decide +kernel) rfl (by rw [ey6]; rfl) rfl ?_
      refine Ev_goto (tgt := 35) hq_87 (show decode prog_1_method_35_code 55 = .ok (.goto (-20), 3) by decide +kernel) (by decide) ?_
      exact k
    · have k := k.2 c5
      refine Ev_iload_n hq_87 (show decode prog_1_method_35_code 50 = .ok (.iload_n 3, 1) by decide +kernel) rfl ?_
      exact Ev_iret hq_87 (show decode prog_1_method_35_code 51 = .ok (.ireturn, 1) by decide +kernel) rfl k
set_option maxRecDepth 20000 in
theorem wp_T_soon {X : Nat × (Nat → Int32)} {d : Nat} {G : zG} {I : zI} {res : Option Value × zG × zI} (x1 : Int32) (x2 : Int32) (x3 : Int32) (hd : 1 ≤ d) (hS : SG G) 
    (k : (¬ (f_T_isShower I x1) = 0 → ((f_T_isWarm x2) = 0 → res = (some (.int (-7)), G, I)) ∧ (¬ (f_T_isWarm x2) = 0 → (¬ (f_T_within x3 0 1) = 0 → ∃ (I4 : zI), Cv X d 83 [.ref 9, .ref 1] G I (none, G, I4) ∧ (Ev X (d + 1) 89 48 [.ref 0, .int x1, .int x2, .int x3, .int 2147483647, .int 0, zU] [] G I4 res)) ∧ ((f_T_within x3 0 1) = 0 → res = (some (.int (-7)), G, I)))) ∧ ((f_T_isShower I x1) = 0 → res = (some (.int (-5)), G, I))) :
    Ev X (d + 1) 89 0 [.ref 0, .int x1, .int x2, .int x3, zU, zU, zU] [] G I res := by
  refine Ev_aload_n hq_89 (show decode prog_1_method_37_code 0 = .ok (.aload_n 0, 1) by decide +kernel) rfl ?_
  refine Ev_iload_n hq_89 (show decode prog_1_method_37_code 1 = .ok (.iload_n 1, 1) by decide +kernel) rfl ?_
  refine Ev_virt (as := [.int x1]) hq_89 (show decode prog_1_method_37_code 2 = .ok (.invokevirtual 120, 3) by decide +kernel) rfl hq_45 rfl (z_le rfl) ⟨(SGn hS (by decide)), (SGk hS rfl), by decide⟩ (c_T_isShower (by omega) hS x1) ?_
  refine Ev_if_ne (tgt := 11) hq_89 (show decode prog_1_method_37_code 5 = .ok (.ifCond .ne 6, 3) by decide +kernel) (by decide) (fun c1 => ?_) (fun c1 => ?_)
  · have k := k.1 c1
    refine Ev_iload_n hq_89 (show decode prog_1_method_37_code 11 = .ok (.iload_n 2, 1) by decide +kernel) rfl ?_
    refine Ev_stat (as := [.int x2]) hq_89 (show decode prog_1_method_37_code 12 = .ok (.invokestatic 124, 3) by decide +kernel) rfl (Or.inl rfl) hq_46 rfl (z_le rfl) (c_T_isWarm (by omega) x2) ?_
    refine Ev_if_eq (tgt := 27) hq_89 (show decode prog_1_method_37_code 15 = .ok (.ifCond .eq 12, 3) by decide +kernel) (by decide) (fun c2 => ?_) (fun c2 => ?_)
    · have k := k.1 c2
      refine Ev_bipush (v := (-7)) hq_89 (show decode prog_1_method_37_code 27 = .ok (.bipush (-7), 2) by decide +kernel) (by decide) ?_
      exact Ev_iret hq_89 (show decode prog_1_method_37_code 29 = .ok (.ireturn, 1) by decide +kernel) rfl k
    · have k := k.2 c2
      refine Ev_iload_n hq_89 (show decode prog_1_method_37_code 18 = .ok (.iload_n 3, 1) by decide +kernel) rfl ?_
      refine Ev_iconst (v := 0) hq_89 (show decode prog_1_method_37_code 19 = .ok (.iconst 0, 1) by decide +kernel) (by decide) ?_
      refine Ev_iconst (v := 1) hq_89 (show decode prog_1_method_37_code 20 = .ok (.iconst 1, 1) by decide +kernel) (by decide) ?_
      refine Ev_stat (as := [.int x3, .int 0, .int 1]) hq_89 (show decode prog_1_method_37_code 21 = .ok (.invokestatic 108, 3) by decide +kernel) rfl (Or.inl rfl) hq_32 rfl (z_le rfl) (c_T_within x3 0 1) ?_
      refine Ev_if_ne (tgt := 30) hq_89 (show decode prog_1_method_37_code 24 = .ok (.ifCond .ne 6, 3) by decide +kernel) (by decide) (fun c3 => ?_) (fun c3 => ?_)
      · have k := k.1 c3
        refine Ev_aload_n hq_89 (show decode prog_1_method_37_code 30 = .ok (.aload_n 0, 1) by decide +kernel) rfl ?_
        refine Ev_getR hq_89 (show decode prog_1_method_37_code 31 = .ok (.getfield 16, 3) by decide +kernel) rfl (SGn hS (by decide)) (SGk hS rfl) (by decide) rfl (SGr hS rfl) ?_
        refine Ev_aload_n hq_89 (show decode prog_1_method_37_code 34 = .ok (.aload_n 0, 1) by decide +kernel) rfl ?_
        refine Ev_getR hq_89 (show decode prog_1_method_37_code 35 = .ok (.getfield 10, 3) by decide +kernel) rfl (SGn hS (by decide)) (SGk hS rfl) (by decide) rfl (SGr hS rfl) ?_
        obtain ⟨I4, h5, k⟩ := k
        refine Ev_virt (as := [.ref 1]) hq_89 (show decode prog_1_method_37_code 38 = .ok (.invokevirtual 230, 3) by decide +kernel) rfl hq_83 rfl (z_le rfl) ⟨(SGn hS (by decide)), (SGk hS rfl), by decide⟩ h5 ?_
        refine Ev_ldc (v := 2147483647) hq_89 (show decode prog_1_method_37_code 41 = .ok (.ldc 239, 2) by decide +kernel) rfl ?_
        refine Ev_istore (lo2 := [.ref 0, .int x1, .int x2, .int x3, .int 2147483647, zU, zU]) hq_89 (show decode prog_1_method_37_code 43 = .ok (.istore 4, 2) by decide +kernel) (z_le rfl) rfl ?_
        refine Ev_iconst (v := 0) hq_89 (show decode prog_1_method_37_code 45 = .ok (.iconst 0, 1) by decide +kernel) (by decide) ?_
        refine Ev_istore (lo2 := [.ref 0, .int x1, .int x2, .int x3, .int 2147483647, .int 0, zU]) hq_89 (show decode prog_1_method_37_code 46 = .ok (.istore 5, 2) by decide +kernel) (z_le rfl) rfl ?_
        exact k
      · have k := k.2 (Classical.not_not.mp c3)
        refine Ev_bipush (v := (-7)) hq_89 (show decode prog_1_method_37_code 27 = .ok (.bipush (-7), 2) by decide +kernel) (by decide) ?_
        exact Ev_iret hq_89 (show decode prog_1_method_37_code 29 = .ok (.ireturn, 1) by decide +kernel) rfl k
  · have k := k.2 (Classical.not_not.mp c1)
    refine Ev_bipush (v := (-5)) hq_89 (show decode prog_1_method_37_code 8 = .ok (.bipush (-5), 2) by decide +kernel) (by decide) ?_
    exact Ev_iret hq_89 (show decode prog_1_method_37_code 10 = .ok (.ireturn, 1) by decide +kernel) rfl k
set_option maxRecDepth 20000 in
theorem wp_T_soon_48 {X : Nat × (Nat → Int32)} {d : Nat} {G : zG} {I : zI} {res : Option Value × zG × zI} (x1 : Int32) (x2 : Int32) (x3 : Int32) (x4 : Int32) (x5 : Int32) (v6 : Value) (cv6 : v6.category = 1) (hS : SG G) 
    (k : (16 < x5 → (¬ x4 = 2147483647 → res = (some (.int (f_T_choiceOrCost x4 x3)), G, I)) ∧ (x4 = 2147483647 → res = (some (.int (-1)), G, I))) ∧ (¬ 16 < x5 → ∃ (r5 : Int32) (I3 : zI), Cv X d 88 [.ref 0, .int x1, .int x2, .int x5] G I (some (.int r5), G, I3) ∧ ((r5 = (-1) → ∀ y7 : Int32, y7 = x5 + 1 → Ev X (d + 1) 89 48 [.ref 0, .int x1, .int x2, .int x3, .int x4, .int y7, .int r5] [] G I3 res) ∧ (¬ r5 = (-1) → ∀ y8 : Int32, y8 = (if (f_T_choice r5 x5) < x4 then (f_T_choice r5 x5) else x4) → ∀ y9 : Int32, y9 = x5 + 1 → Ev X (d + 1) 89 48 [.ref 0, .int x1, .int x2, .int x3, .int y8, .int y9, .int r5] [] G I3 res)))) :
    Ev X (d + 1) 89 48 [.ref 0, .int x1, .int x2, .int x3, .int x4, .int x5, v6] [] G I res := by
  refine Ev_iload hq_89 (show decode prog_1_method_37_code 48 = .ok (.iload 5, 2) by decide +kernel) rfl ?_
  refine Ev_bipush (v := 16) hq_89 (show decode prog_1_method_37_code 50 = .ok (.bipush 16, 2) by decide +kernel) (by decide) ?_
  refine Ev_icmp_gt (tgt := 91) hq_89 (show decode prog_1_method_37_code 52 = .ok (.if_icmp .gt 39, 3) by decide +kernel) (by decide) (fun c1 => ?_) (fun c1 => ?_)
  · have k := k.1 c1
    refine Ev_iload hq_89 (show decode prog_1_method_37_code 91 = .ok (.iload 4, 2) by decide +kernel) rfl ?_
    refine Ev_ldc (v := 2147483647) hq_89 (show decode prog_1_method_37_code 93 = .ok (.ldc 239, 2) by decide +kernel) rfl ?_
    refine Ev_icmp_ne (tgt := 102) hq_89 (show decode prog_1_method_37_code 95 = .ok (.if_icmp .ne 7, 3) by decide +kernel) (by decide) (fun c2 => ?_) (fun c2 => ?_)
    · have k := k.1 c2
      refine Ev_iload hq_89 (show decode prog_1_method_37_code 102 = .ok (.iload 4, 2) by decide +kernel) rfl ?_
      refine Ev_iload_n hq_89 (show decode prog_1_method_37_code 104 = .ok (.iload_n 3, 1) by decide +kernel) rfl ?_
      refine Ev_stat (as := [.int x4, .int x3]) hq_89 (show decode prog_1_method_37_code 105 = .ok (.invokestatic 236, 3) by decide +kernel) rfl (Or.inl rfl) hq_86 rfl (z_le rfl) (c_T_choiceOrCost x4 x3) ?_
      exact Ev_iret hq_89 (show decode prog_1_method_37_code 108 = .ok (.ireturn, 1) by decide +kernel) rfl k
    · have k := k.2 (Classical.not_not.mp c2)
      refine Ev_iconst (v := (-1)) hq_89 (show decode prog_1_method_37_code 98 = .ok (.iconst (-1), 1) by decide +kernel) (by decide) ?_
      refine Ev_goto (tgt := 108) hq_89 (show decode prog_1_method_37_code 99 = .ok (.goto 9, 3) by decide +kernel) (by decide) ?_
      exact Ev_iret hq_89 (show decode prog_1_method_37_code 108 = .ok (.ireturn, 1) by decide +kernel) rfl k
  · have k := k.2 c1
    refine Ev_aload_n hq_89 (show decode prog_1_method_37_code 55 = .ok (.aload_n 0, 1) by decide +kernel) rfl ?_
    refine Ev_iload_n hq_89 (show decode prog_1_method_37_code 56 = .ok (.iload_n 1, 1) by decide +kernel) rfl ?_
    refine Ev_iload_n hq_89 (show decode prog_1_method_37_code 57 = .ok (.iload_n 2, 1) by decide +kernel) rfl ?_
    refine Ev_iload hq_89 (show decode prog_1_method_37_code 58 = .ok (.iload 5, 2) by decide +kernel) rfl ?_
    obtain ⟨r5, I3, h4, k⟩ := k
    refine Ev_virt (as := [.int x1, .int x2, .int x5]) hq_89 (show decode prog_1_method_37_code 60 = .ok (.invokevirtual 246, 3) by decide +kernel) rfl hq_88 rfl (z_le rfl) ⟨(SGn hS (by decide)), (SGk hS rfl), by decide⟩ h4 ?_
    refine Ev_istore (lo2 := [.ref 0, .int x1, .int x2, .int x3, .int x4, .int x5, .int r5]) hq_89 (show decode prog_1_method_37_code 63 = .ok (.istore 6, 2) by decide +kernel) (z_le rfl) rfl ?_
    refine Ev_iload hq_89 (show decode prog_1_method_37_code 65 = .ok (.iload 6, 2) by decide +kernel) rfl ?_
    refine Ev_iconst (v := (-1)) hq_89 (show decode prog_1_method_37_code 67 = .ok (.iconst (-1), 1) by decide +kernel) (by decide) ?_
    refine Ev_icmp_eq (tgt := 85) hq_89 (show decode prog_1_method_37_code 68 = .ok (.if_icmp .eq 17, 3) by decide +kernel) (by decide) (fun c6 => ?_) (fun c6 => ?_)
    · have k := k.1 c6
      obtain ⟨y7, ey7⟩ : ∃ y7 : Int32, y7 = x5 + 1 := ⟨_, rfl⟩
      have k := k y7 ey7
      refine Ev_iinc (v := y7) (lo2 := [.ref 0, .int x1, .int x2, .int x3, .int x4, .int y7, .int r5]) hq_89 (show decode prog_1_method_37_code 85 = .ok (.iinc 5 1, 3) by decide +kernel) rfl (by rw [ey7]; rfl) rfl ?_
      refine Ev_goto (tgt := 48) hq_89 (show decode prog_1_method_37_code 88 = .ok (.goto (-40), 3) by decide +kernel) (by decide) ?_
      exact k
    · have k := k.2 c6
      refine Ev_iload hq_89 (show decode prog_1_method_37_code 71 = .ok (.iload 4, 2) by decide +kernel) rfl ?_
      refine Ev_iload hq_89 (show decode prog_1_method_37_code 73 = .ok (.iload 6, 2) by decide +kernel) rfl ?_
      refine Ev_iload hq_89 (show decode prog_1_method_37_code 75 = .ok (.iload 5, 2) by decide +kernel) rfl ?_
      refine Ev_stat (as := [.int r5, .int x5]) hq_89 (show decode prog_1_method_37_code 77 = .ok (.invokestatic 243, 3) by decide +kernel) rfl (Or.inl rfl) hq_85 rfl (z_le rfl) (c_T_choice r5 x5) ?_
      refine Ev_min hq_89 (show decode prog_1_method_37_code 80 = .ok (.invokestatic 76, 3) by decide +kernel) rfl (z_le rfl) ?_
      obtain ⟨y8, ey8⟩ : ∃ y8 : Int32, y8 = (if (f_T_choice r5 x5) < x4 then (f_T_choice r5 x5) else x4) := ⟨_, rfl⟩
      have k := k y8 ey8
      rw [← ey8]
      refine Ev_istore (lo2 := [.ref 0, .int x1, .int x2, .int x3, .int y8, .int x5, .int r5]) hq_89 (show decode prog_1_method_37_code 83 = .ok (.istore 4, 2) by decide +kernel) (z_le rfl) rfl ?_
      obtain ⟨y9, ey9⟩ : ∃ y9 : Int32, y9 = x5 + 1 := ⟨_, rfl⟩
      have k := k y9 ey9
      refine Ev_iinc (v := y9) (lo2 := [.ref 0, .int x1, .int x2, .int x3, .int y8, .int y9, .int r5]) hq_89 (show decode prog_1_method_37_code 85 = .ok (.iinc 5 1, 3) by decide +kernel) rfl (by rw [ey9]; rfl) rfl ?_
      refine Ev_goto (tgt := 48) hq_89 (show decode prog_1_method_37_code 88 = .ok (.goto (-40), 3) by decide +kernel) (by decide) ?_
      exact k
set_option maxRecDepth 20000 in
theorem wp_T_card {X : Nat × (Nat → Int32)} {d : Nat} {G : zG} {I : zI} {res : Option Value × zG × zI} (x1 : Int32) (hS : SG G) 
    (k : (¬ (f_T_within x1 0 1) = 0 → ∃ (I2 : zI), Cv X d 83 [.ref 9, .ref 1] G I (none, G, I2) ∧ (Ev X (d + 1) 90 28 [.ref 0, .int x1, .int 2147483647, .int 0] [] G I2 res)) ∧ ((f_T_within x1 0 1) = 0 → res = (some (.int (-2)), G, I))) :
    Ev X (d + 1) 90 0 [.ref 0, .int x1, zU, zU] [] G I res := by
  refine Ev_iload_n hq_90 (show decode prog_1_method_38_code 0 = .ok (.iload_n 1, 1) by decide +kernel) rfl ?_
  refine Ev_iconst (v := 0) hq_90 (show decode prog_1_method_38_code 1 = .ok (.iconst 0, 1) by decide +kernel) (by decide) ?_
  refine Ev_iconst (v := 1) hq_90 (show decode prog_1_method_38_code 2 = .ok (.iconst 1, 1) by decide +kernel) (by decide) ?_
  refine Ev_stat (as := [.int x1, .int 0, .int 1]) hq_90 (show decode prog_1_method_38_code 3 = .ok (.invokestatic 108, 3) by decide +kernel) rfl (Or.inl rfl) hq_32 rfl (z_le rfl) (c_T_within x1 0 1) ?_
  refine Ev_if_ne (tgt := 12) hq_90 (show decode prog_1_method_38_code 6 = .ok (.ifCond .ne 6, 3) by decide +kernel) (by decide) (fun c1 => ?_) (fun c1 => ?_)
  · have k := k.1 c1
    refine Ev_aload_n hq_90 (show decode prog_1_method_38_code 12 = .ok (.aload_n 0, 1) by decide +kernel) rfl ?_
    refine Ev_getR hq_90 (show decode prog_1_method_38_code 13 = .ok (.getfield 16, 3) by decide +kernel) rfl (SGn hS (by decide)) (SGk hS rfl) (by decide) rfl (SGr hS rfl) ?_
    refine Ev_aload_n hq_90 (show decode prog_1_method_38_code 16 = .ok (.aload_n 0, 1) by decide +kernel) rfl ?_
    refine Ev_getR hq_90 (show decode prog_1_method_38_code 17 = .ok (.getfield 10, 3) by decide +kernel) rfl (SGn hS (by decide)) (SGk hS rfl) (by decide) rfl (SGr hS rfl) ?_
    obtain ⟨I2, h3, k⟩ := k
    refine Ev_virt (as := [.ref 1]) hq_90 (show decode prog_1_method_38_code 20 = .ok (.invokevirtual 230, 3) by decide +kernel) rfl hq_83 rfl (z_le rfl) ⟨(SGn hS (by decide)), (SGk hS rfl), by decide⟩ h3 ?_
    refine Ev_ldc (v := 2147483647) hq_90 (show decode prog_1_method_38_code 23 = .ok (.ldc 239, 2) by decide +kernel) rfl ?_
    refine Ev_istore_n (lo2 := [.ref 0, .int x1, .int 2147483647, zU]) hq_90 (show decode prog_1_method_38_code 25 = .ok (.istore_n 2, 1) by decide +kernel) (z_le rfl) rfl ?_
    refine Ev_iconst (v := 0) hq_90 (show decode prog_1_method_38_code 26 = .ok (.iconst 0, 1) by decide +kernel) (by decide) ?_
    refine Ev_istore_n (lo2 := [.ref 0, .int x1, .int 2147483647, .int 0]) hq_90 (show decode prog_1_method_38_code 27 = .ok (.istore_n 3, 1) by decide +kernel) (z_le rfl) rfl ?_
    exact k
  · have k := k.2 (Classical.not_not.mp c1)
    refine Ev_bipush (v := (-2)) hq_90 (show decode prog_1_method_38_code 9 = .ok (.bipush (-2), 2) by decide +kernel) (by decide) ?_
    exact Ev_iret hq_90 (show decode prog_1_method_38_code 11 = .ok (.ireturn, 1) by decide +kernel) rfl k
set_option maxRecDepth 20000 in
theorem wp_T_card_28 {X : Nat × (Nat → Int32)} {d : Nat} {G : zG} {I : zI} {res : Option Value × zG × zI} (x1 : Int32) (x2 : Int32) (x3 : Int32) (hS : SG G) 
    (k : (16 < x3 → res = (some (.int (f_T_choiceOrCost x2 x1)), G, I)) ∧ (¬ 16 < x3 → ∃ (I2 : zI), Cv X d 36 [.ref 15, .int x3] G I (none, G, I2) ∧ (∃ (I4 : zI), Cv X d 62 [.ref 0, .ref 9] G I2 (none, G, I4) ∧ (∃ (r8 : Int32) (I6 : zI), Cv X d 76 [.ref 25, .int (I4 9 7)] G I4 (some (.int r8), G, I6) ∧ (∀ y9 : Int32, y9 = (if (f_T_choice r8 x3) < x2 then (f_T_choice r8 x3) else x2) → ∀ y10 : Int32, y10 = x3 + 1 → Ev X (d + 1) 90 28 [.ref 0, .int x1, .int y9, .int y10] [] G I6 res))))) :
    Ev X (d + 1) 90 28 [.ref 0, .int x1, .int x2, .int x3] [] G I res := by
  refine Ev_iload_n hq_90 (show decode prog_1_method_38_code 28 = .ok (.iload_n 3, 1) by decide +kernel) rfl ?_
  refine Ev_bipush (v := 16) hq_90 (show decode prog_1_method_38_code 29 = .ok (.bipush 16, 2) by decide +kernel) (by decide) ?_
  refine Ev_icmp_gt (tgt := 82) hq_90 (show decode prog_1_method_38_code 31 = .ok (.if_icmp .gt 51, 3) by decide +kernel) (by decide) (fun c1 => ?_) (fun c1 => ?_)
  · have k := k.1 c1
    refine Ev_iload_n hq_90 (show decode prog_1_method_38_code 82 = .ok (.iload_n 2, 1) by decide +kernel) rfl ?_
    refine Ev_iload_n hq_90 (show decode prog_1_method_38_code 83 = .ok (.iload_n 1, 1) by decide +kernel) rfl ?_
    refine Ev_stat (as := [.int x2, .int x1]) hq_90 (show decode prog_1_method_38_code 84 = .ok (.invokestatic 236, 3) by decide +kernel) rfl (Or.inl rfl) hq_86 rfl (z_le rfl) (c_T_choiceOrCost x2 x1) ?_
    exact Ev_iret hq_90 (show decode prog_1_method_38_code 87 = .ok (.ireturn, 1) by decide +kernel) rfl k
  · have k := k.2 c1
    refine Ev_aload_n hq_90 (show decode prog_1_method_38_code 34 = .ok (.aload_n 0, 1) by decide +kernel) rfl ?_
    refine Ev_getR hq_90 (show decode prog_1_method_38_code 35 = .ok (.getfield 16, 3) by decide +kernel) rfl (SGn hS (by decide)) (SGk hS rfl) (by decide) rfl (SGr hS rfl) ?_
    refine Ev_getR hq_90 (show decode prog_1_method_38_code 38 = .ok (.getfield 240, 3) by decide +kernel) rfl (SGn hS (by decide)) (SGk hS rfl) (by decide) rfl (SGr hS rfl) ?_
    refine Ev_iload_n hq_90 (show decode prog_1_method_38_code 41 = .ok (.iload_n 3, 1) by decide +kernel) rfl ?_
    obtain ⟨I2, h3, k⟩ := k
    refine Ev_stat (as := [.ref 15, .int x3]) hq_90 (show decode prog_1_method_38_code 42 = .ok (.invokestatic 94, 3) by decide +kernel) rfl (Or.inl rfl) hq_36 rfl (z_le rfl) h3 ?_
    refine Ev_aload_n hq_90 (show decode prog_1_method_38_code 45 = .ok (.aload_n 0, 1) by decide +kernel) rfl ?_
    refine Ev_aload_n hq_90 (show decode prog_1_method_38_code 46 = .ok (.aload_n 0, 1) by decide +kernel) rfl ?_
    refine Ev_getR hq_90 (show decode prog_1_method_38_code 47 = .ok (.getfield 16, 3) by decide +kernel) rfl (SGn hS (by decide)) (SGk hS rfl) (by decide) rfl (SGr hS rfl) ?_
    obtain ⟨I4, h5, k⟩ := k
    refine Ev_virt (as := [.ref 9]) hq_90 (show decode prog_1_method_38_code 50 = .ok (.invokevirtual 187, 3) by decide +kernel) rfl hq_62 rfl (z_le rfl) ⟨(SGn hS (by decide)), (SGk hS rfl), by decide⟩ h5 ?_
    refine Ev_iload_n hq_90 (show decode prog_1_method_38_code 53 = .ok (.iload_n 2, 1) by decide +kernel) rfl ?_
    refine Ev_aload_n hq_90 (show decode prog_1_method_38_code 54 = .ok (.aload_n 0, 1) by decide +kernel) rfl ?_
    refine Ev_getR hq_90 (show decode prog_1_method_38_code 55 = .ok (.getfield 29, 3) by decide +kernel) rfl (SGn hS (by decide)) (SGk hS rfl) (by decide) rfl (SGr hS rfl) ?_
    refine Ev_aload_n hq_90 (show decode prog_1_method_38_code 58 = .ok (.aload_n 0, 1) by decide +kernel) rfl ?_
    refine Ev_getR hq_90 (show decode prog_1_method_38_code 59 = .ok (.getfield 16, 3) by decide +kernel) rfl (SGn hS (by decide)) (SGk hS rfl) (by decide) rfl (SGr hS rfl) ?_
    refine Ev_getI hq_90 (show decode prog_1_method_38_code 62 = .ok (.getfield 100, 3) by decide +kernel) rfl (SGn hS (by decide)) (SGk hS rfl) (by decide) rfl ?_
    obtain ⟨r8, I6, h7, k⟩ := k
    refine Ev_virt (as := [.int (I4 9 7)]) hq_90 (show decode prog_1_method_38_code 65 = .ok (.invokevirtual 218, 3) by decide +kernel) rfl hq_76 rfl (z_le rfl) ⟨(SGn hS (by decide)), (SGk hS rfl), by decide⟩ h7 ?_
    refine Ev_iload_n hq_90 (show decode prog_1_method_38_code 68 = .ok (.iload_n 3, 1) by decide +kernel) rfl ?_
    refine Ev_stat (as := [.int r8, .int x3]) hq_90 (show decode prog_1_method_38_code 69 = .ok (.invokestatic 243, 3) by decide +kernel) rfl (Or.inl rfl) hq_85 rfl (z_le rfl) (c_T_choice r8 x3) ?_
    refine Ev_min hq_90 (show decode prog_1_method_38_code 72 = .ok (.invokestatic 76, 3) by decide +kernel) rfl (z_le rfl) ?_
    obtain ⟨y9, ey9⟩ : ∃ y9 : Int32, y9 = (if (f_T_choice r8 x3) < x2 then (f_T_choice r8 x3) else x2) := ⟨_, rfl⟩
    have k := k y9 ey9
    rw [← ey9]
    refine Ev_istore_n (lo2 := [.ref 0, .int x1, .int y9, .int x3]) hq_90 (show decode prog_1_method_38_code 75 = .ok (.istore_n 2, 1) by decide +kernel) (z_le rfl) rfl ?_
    obtain ⟨y10, ey10⟩ : ∃ y10 : Int32, y10 = x3 + 1 := ⟨_, rfl⟩
    have k := k y10 ey10
    refine Ev_iinc (v := y10) (lo2 := [.ref 0, .int x1, .int y9, .int y10]) hq_90 (show decode prog_1_method_38_code 76 = .ok (.iinc 3 1, 3) by decide +kernel) rfl (by rw [ey10]; rfl) rfl ?_
    refine Ev_goto (tgt := 28) hq_90 (show decode prog_1_method_38_code 79 = .ok (.goto (-51), 3) by decide +kernel) (by decide) ?_
    exact k
set_option maxRecDepth 20000 in
theorem wp_T_areTwo {X : Nat × (Nat → Int32)} {d : Nat} {G : zG} {I : zI} {res : Option Value × zG × zI} (x1 : Int32) (x2 : Int32) (hd : 1 ≤ d) (hS : SG G) 
    (k : ((f_T_isShower I x1) = 0 → res = (some (.int 0), G, I)) ∧ (¬ (f_T_isShower I x1) = 0 → ((f_T_isShower I x2) = 0 → res = (some (.int 0), G, I)) ∧ (¬ (f_T_isShower I x2) = 0 → (x1 = x2 → res = (some (.int 0), G, I)) ∧ (¬ x1 = x2 → res = (some (.int 1), G, I))))) :
    Ev X (d + 1) 92 0 [.ref 0, .int x1, .int x2] [] G I res := by
  refine Ev_aload_n hq_92 (show decode prog_1_method_40_code 0 = .ok (.aload_n 0, 1) by decide +kernel) rfl ?_
  refine Ev_iload_n hq_92 (show decode prog_1_method_40_code 1 = .ok (.iload_n 1, 1) by decide +kernel) rfl ?_
  refine Ev_virt (as := [.int x1]) hq_92 (show decode prog_1_method_40_code 2 = .ok (.invokevirtual 120, 3) by decide +kernel) rfl hq_45 rfl (z_le rfl) ⟨(SGn hS (by decide)), (SGk hS rfl), by decide⟩ (c_T_isShower (by omega) hS x1) ?_
  refine Ev_if_eq (tgt := 25) hq_92 (show decode prog_1_method_40_code 5 = .ok (.ifCond .eq 20, 3) by decide +kernel) (by decide) (fun c1 => ?_) (fun c1 => ?_)
  · have k := k.1 c1
    refine Ev_iconst (v := 0) hq_92 (show decode prog_1_method_40_code 25 = .ok (.iconst 0, 1) by decide +kernel) (by decide) ?_
    exact Ev_iret hq_92 (show decode prog_1_method_40_code 26 = .ok (.ireturn, 1) by decide +kernel) rfl k
  · have k := k.2 c1
    refine Ev_aload_n hq_92 (show decode prog_1_method_40_code 8 = .ok (.aload_n 0, 1) by decide +kernel) rfl ?_
    refine Ev_iload_n hq_92 (show decode prog_1_method_40_code 9 = .ok (.iload_n 2, 1) by decide +kernel) rfl ?_
    refine Ev_virt (as := [.int x2]) hq_92 (show decode prog_1_method_40_code 10 = .ok (.invokevirtual 120, 3) by decide +kernel) rfl hq_45 rfl (z_le rfl) ⟨(SGn hS (by decide)), (SGk hS rfl), by decide⟩ (c_T_isShower (by omega) hS x2) ?_
    refine Ev_if_eq (tgt := 25) hq_92 (show decode prog_1_method_40_code 13 = .ok (.ifCond .eq 12, 3) by decide +kernel) (by decide) (fun c2 => ?_) (fun c2 => ?_)
    · have k := k.1 c2
      refine Ev_iconst (v := 0) hq_92 (show decode prog_1_method_40_code 25 = .ok (.iconst 0, 1) by decide +kernel) (by decide) ?_
      exact Ev_iret hq_92 (show decode prog_1_method_40_code 26 = .ok (.ireturn, 1) by decide +kernel) rfl k
    · have k := k.2 c2
      refine Ev_iload_n hq_92 (show decode prog_1_method_40_code 16 = .ok (.iload_n 1, 1) by decide +kernel) rfl ?_
      refine Ev_iload_n hq_92 (show decode prog_1_method_40_code 17 = .ok (.iload_n 2, 1) by decide +kernel) rfl ?_
      refine Ev_icmp_eq (tgt := 25) hq_92 (show decode prog_1_method_40_code 18 = .ok (.if_icmp .eq 7, 3) by decide +kernel) (by decide) (fun c3 => ?_) (fun c3 => ?_)
      · have k := k.1 c3
        refine Ev_iconst (v := 0) hq_92 (show decode prog_1_method_40_code 25 = .ok (.iconst 0, 1) by decide +kernel) (by decide) ?_
        exact Ev_iret hq_92 (show decode prog_1_method_40_code 26 = .ok (.ireturn, 1) by decide +kernel) rfl k
      · have k := k.2 c3
        refine Ev_iconst (v := 1) hq_92 (show decode prog_1_method_40_code 21 = .ok (.iconst 1, 1) by decide +kernel) (by decide) ?_
        refine Ev_goto (tgt := 26) hq_92 (show decode prog_1_method_40_code 22 = .ok (.goto 4, 3) by decide +kernel) (by decide) ?_
        exact Ev_iret hq_92 (show decode prog_1_method_40_code 26 = .ok (.ireturn, 1) by decide +kernel) rfl k
def f_T_areTwo (I : zI) (x1 x2 : Int32) : Int32 := (if (f_T_isShower I x1) = 0 then 0 else (if (f_T_isShower I x2) = 0 then 0 else (if x1 = x2 then 0 else 1)))
theorem c_T_areTwo {X : Nat × (Nat → Int32)} {d : Nat} {G : zG} {I : zI} (hd : 2 ≤ d) (hS : SG G) (x1 x2 : Int32) : Cv X d 92 [.ref 0, .int x1, .int x2] G I (some (.int (f_T_areTwo I x1 x2)), G, I) := by
  obtain ⟨d, rfl⟩ : ∃ e, d = e + 1 := ⟨d - 1, by omega⟩
  exact Cv.of hq_92 (z_le rfl) rfl (wp_T_areTwo x1 x2 (by omega) hS ⟨fun h0 => (by simp only [f_T_areTwo]; rw [if_pos h0]), fun h0 => ⟨fun h1 => (by simp only [f_T_areTwo]; rw [if_neg h0]; rw [if_pos h1]), fun h1 => ⟨fun h2 => (by simp only [f_T_areTwo]; rw [if_neg h0]; rw [if_neg h1]; rw [if_pos h2]), fun h2 => (by simp only [f_T_areTwo]; rw [if_neg h0]; rw [if_neg h1]; rw [if_neg h2])⟩⟩⟩)
theorem b_T_areTwo (I : zI) (x1 x2 : Int32) : f_T_areTwo I x1 x2 = 0 ∨ f_T_areTwo I x1 x2 = 1 := by
  unfold f_T_areTwo
  repeat (any_goals split)
  all_goals first | exact Or.inl rfl | exact Or.inr rfl | exact b_T_isShower ..
set_option maxRecDepth 20000 in
theorem wp_T_even {X : Nat × (Nat → Int32)} {d : Nat} {G : zG} {I : zI} {res : Option Value × zG × zI} (x1 : Int32) (x2 : Int32) (x3 : Int32) (hd : 2 ≤ d) (hS : SG G) 
    (k : (¬ (f_T_areTwo I x1 x2) = 0 → (¬ (f_T_within x3 0 1) = 0 → ∃ (I3 : zI), Cv X d 83 [.ref 9, .ref 1] G I (none, G, I3) ∧ (Ev X (d + 1) 91 44 [.ref 0, .int x1, .int x2, .int x3, .int 0, .int 0, .int 0, zU, zU] [] G I3 res)) ∧ ((f_T_within x3 0 1) = 0 → res = (some (.int (-7)), G, I))) ∧ ((f_T_areTwo I x1 x2) = 0 → res = (some (.int (-5)), G, I))) :
    Ev X (d + 1) 91 0 [.ref 0, .int x1, .int x2, .int x3, zU, zU, zU, zU, zU] [] G I res := by
  refine Ev_aload_n hq_91 (show decode prog_1_method_39_code 0 = .ok (.aload_n 0, 1) by decide +kernel) rfl ?_
  refine Ev_iload_n hq_91 (show decode prog_1_method_39_code 1 = .ok (.iload_n 1, 1) by decide +kernel) rfl ?_
  refine Ev_iload_n hq_91 (show decode prog_1_method_39_code 2 = .ok (.iload_n 2, 1) by decide +kernel) rfl ?_
  refine Ev_virt (as := [.int x1, .int x2]) hq_91 (show decode prog_1_method_39_code 3 = .ok (.invokevirtual 249, 3) by decide +kernel) rfl hq_92 rfl (z_le rfl) ⟨(SGn hS (by decide)), (SGk hS rfl), by decide⟩ (c_T_areTwo (by omega) hS x1 x2) ?_
  refine Ev_if_ne (tgt := 12) hq_91 (show decode prog_1_method_39_code 6 = .ok (.ifCond .ne 6, 3) by decide +kernel) (by decide) (fun c1 => ?_) (fun c1 => ?_)
  · have k := k.1 c1
    refine Ev_iload_n hq_91 (show decode prog_1_method_39_code 12 = .ok (.iload_n 3, 1) by decide +kernel) rfl ?_
    refine Ev_iconst (v := 0) hq_91 (show decode prog_1_method_39_code 13 = .ok (.iconst 0, 1) by decide +kernel) (by decide) ?_
    refine Ev_iconst (v := 1) hq_91 (show decode prog_1_method_39_code 14 = .ok (.iconst 1, 1) by decide +kernel) (by decide) ?_
    refine Ev_stat (as := [.int x3, .int 0, .int 1]) hq_91 (show decode prog_1_method_39_code 15 = .ok (.invokestatic 108, 3) by decide +kernel) rfl (Or.inl rfl) hq_32 rfl (z_le rfl) (c_T_within x3 0 1) ?_
    refine Ev_if_ne (tgt := 24) hq_91 (show decode prog_1_method_39_code 18 = .ok (.ifCond .ne 6, 3) by decide +kernel) (by decide) (fun c2 => ?_) (fun c2 => ?_)
    · have k := k.1 c2
      refine Ev_aload_n hq_91 (show decode prog_1_method_39_code 24 = .ok (.aload_n 0, 1) by decide +kernel) rfl ?_
      refine Ev_getR hq_91 (show decode prog_1_method_39_code 25 = .ok (.getfield 16, 3) by decide +kernel) rfl (SGn hS (by decide)) (SGk hS rfl) (by decide) rfl (SGr hS rfl) ?_
      refine Ev_aload_n hq_91 (show decode prog_1_method_39_code 28 = .ok (.aload_n 0, 1) by decide +kernel) rfl ?_
      refine Ev_getR hq_91 (show decode prog_1_method_39_code 29 = .ok (.getfield 10, 3) by decide +kernel) rfl (SGn hS (by decide)) (SGk hS rfl) (by decide) rfl (SGr hS rfl) ?_
      obtain ⟨I3, h4, k⟩ := k
      refine Ev_virt (as := [.ref 1]) hq_91 (show decode prog_1_method_39_code 32 = .ok (.invokevirtual 230, 3) by decide +kernel) rfl hq_83 rfl (z_le rfl) ⟨(SGn hS (by decide)), (SGk hS rfl), by decide⟩ h4 ?_
      refine Ev_iconst (v := 0) hq_91 (show decode prog_1_method_39_code 35 = .ok (.iconst 0, 1) by decide +kernel) (by decide) ?_
      refine Ev_istore (lo2 := [.ref 0, .int x1, .int x2, .int x3, .int 0, zU, zU, zU, zU]) hq_91 (show decode prog_1_method_39_code 36 = .ok (.istore 4, 2) by decide +kernel) (z_le rfl) rfl ?_
      refine Ev_iconst (v := 0) hq_91 (show decode prog_1_method_39_code 38 = .ok (.iconst 0, 1) by decide +kernel) (by decide) ?_
      refine Ev_istore (lo2 := [.ref 0, .int x1, .int x2, .int x3, .int 0, .int 0, zU, zU, zU]) hq_91 (show decode prog_1_method_39_code 39 = .ok (.istore 5, 2) by decide +kernel) (z_le rfl) rfl ?_
      refine Ev_iconst (v := 0) hq_91 (show decode prog_1_method_39_code 41 = .ok (.iconst 0, 1) by decide +kernel) (by decide) ?_
      refine Ev_istore (lo2 := [.ref 0, .int x1, .int x2, .int x3, .int 0, .int 0, .int 0, zU, zU]) hq_91 (show decode prog_1_method_39_code 42 = .ok (.istore 6, 2) by decide +kernel) (z_le rfl) rfl ?_
      exact k
    · have k := k.2 (Classical.not_not.mp c2)
      refine Ev_bipush (v := (-7)) hq_91 (show decode prog_1_method_39_code 21 = .ok (.bipush (-7), 2) by decide +kernel) (by decide) ?_
      exact Ev_iret hq_91 (show decode prog_1_method_39_code 23 = .ok (.ireturn, 1) by decide +kernel) rfl k
  · have k := k.2 (Classical.not_not.mp c1)
    refine Ev_bipush (v := (-5)) hq_91 (show decode prog_1_method_39_code 9 = .ok (.bipush (-5), 2) by decide +kernel) (by decide) ?_
    exact Ev_iret hq_91 (show decode prog_1_method_39_code 11 = .ok (.ireturn, 1) by decide +kernel) rfl k
set_option maxRecDepth 20000 in
theorem wp_T_even_44 {X : Nat × (Nat → Int32)} {d : Nat} {G : zG} {I : zI} {res : Option Value × zG × zI} (x1 : Int32) (x2 : Int32) (x3 : Int32) (x4 : Int32) (x5 : Int32) (x6 : Int32) (v7 : Value) (cv7 : v7.category = 1) (v8 : Value) (cv8 : v8.category = 1) (hS : SG G) 
    (k : (20 ≤ x6 → (2 ≤ x5 → (¬ x3 = 0 → z_inr x1 4 ∧ (z_inr x2 4 ∧ (res = (some (.int ((100 * (I 15 x1.toNatClampNeg)) + (I 15 x2.toNatClampNeg))), G, I)))) ∧ (x3 = 0 → res = (some (.int x4), G, I))) ∧ (¬ 2 ≤ x5 → res = (some (.int (-1)), G, I))) ∧ (¬ 20 ≤ x6 → (2 ≤ x5 → (2 ≤ x5 → (¬ x3 = 0 → z_inr x1 4 ∧ (z_inr x2 4 ∧ (res = (some (.int ((100 * (I 15 x1.toNatClampNeg)) + (I 15 x2.toNatClampNeg))), G, I)))) ∧ (x3 = 0 → res = (some (.int x4), G, I))) ∧ (¬ 2 ≤ x5 → res = (some (.int (-1)), G, I))) ∧ (¬ 2 ≤ x5 → (¬ (x6 - x6 / 2 * 2) = 0 → z_inr x2 4 ∧ (∀ y13 : Int32, y13 = (I 15 x2.toNatClampNeg) → ∃ (r16 : Int32) (I14 : zI), Cv X d 84 [.ref 0, .int x2] G I (some (.int r16), G, I14) ∧ (z_inr x2 4 ∧ (∀ I18 : zI, I18 = z_up I14 15 x2.toNatClampNeg (f_T_choiceOrCost r16 0) → z_inr x2 4 ∧ ((¬ (I18 15 x2.toNatClampNeg) = y13 → ∀ y21 : Int32, y21 = x4 + 1 → ∀ y22 : Int32, y22 = x6 + 1 → Ev X (d + 1) 91 44 [.ref 0, .int x1, .int x2, .int x3, .int y21, .int 0, .int y22, .int x2, .int y13] [] G I18 res) ∧ ((I18 15 x2.toNatClampNeg) = y13 → ∀ y23 : Int32, y23 = x5 + 1 → ∀ y24 : Int32, y24 = x6 + 1 → Ev X (d + 1) 91 44 [.ref 0, .int x1, .int x2, .int x3, .int x4, .int y23, .int y24, .int x2, .int y13] [] G I18 res)))))) ∧ ((x6 - x6 / 2 * 2) = 0 → z_inr x1 4 ∧ (∀ y26 : Int32, y26 = (I 15 x1.toNatClampNeg) → ∃ (r29 : Int32) (I27 : zI), Cv X d 84 [.ref 0, .int x1] G I (some (.int r29), G, I27) ∧ (z_inr x1 4 ∧ (∀ I31 : zI, I31 = z_up I27 15 x1.toNatClampNeg (f_T_choiceOrCost r29 0) → z_inr x1 4 ∧ ((¬ (I31 15 x1.toNatClampNeg) = y26 → ∀ y34 : Int32, y34 = x4 + 1 → ∀ y35 : Int32, y35 = x6 + 1 → Ev X (d + 1) 91 44 [.ref 0, .int x1, .int x2, .int x3, .int y34, .int 0, .int y35, .int x1, .int y26] [] G I31 res) ∧ ((I31 15 x1.toNatClampNeg) = y26 → ∀ y36 : Int32, y36 = x5 + 1 → ∀ y37 : Int32, y37 = x6 + 1 → Ev X (d + 1) 91 44 [.ref 0, .int x1, .int x2, .int x3, .int x4, .int y36, .int y37, .int x1, .int y26] [] G I31 res))))))))) :
    Ev X (d + 1) 91 44 [.ref 0, .int x1, .int x2, .int x3, .int x4, .int x5, .int x6, v7, v8] [] G I res := by
  refine Ev_iload hq_91 (show decode prog_1_method_39_code 44 = .ok (.iload 6, 2) by decide +kernel) rfl ?_
  refine Ev_bipush (v := 20) hq_91 (show decode prog_1_method_39_code 46 = .ok (.bipush 20, 2) by decide +kernel) (by decide) ?_
  refine Ev_icmp_ge (tgt := 136) hq_91 (show decode prog_1_method_39_code 48 = .ok (.if_icmp .ge 88, 3) by decide +kernel) (by decide) (fun c1 => ?_) (fun c1 => ?_)
  · have k := k.1 c1
    refine Ev_iload hq_91 (show decode prog_1_method_39_code 136 = .ok (.iload 5, 2) by decide +kernel) rfl ?_
    refine Ev_iconst (v := 2) hq_91 (show decode prog_1_method_39_code 138 = .ok (.iconst 2, 1) by decide +kernel) (by decide) ?_
    refine Ev_icmp_ge (tgt := 144) hq_91 (show decode prog_1_method_39_code 139 = .ok (.if_icmp .ge 5, 3) by decide +kernel) (by decide) (fun c2 => ?_) (fun c2 => ?_)
    · have k := k.1 c2
      refine Ev_iload_n hq_91 (show decode prog_1_method_39_code 144 = .ok (.iload_n 3, 1) by decide +kernel) rfl ?_
      refine Ev_if_ne (tgt := 153) hq_91 (show decode prog_1_method_39_code 145 = .ok (.ifCond .ne 8, 3) by decide +kernel) (by decide) (fun c3 => ?_) (fun c3 => ?_)
      · have k := k.1 c3
        refine Ev_bipush (v := 100) hq_91 (show decode prog_1_method_39_code 153 = .ok (.bipush 100, 2) by decide +kernel) (by decide) ?_
        refine Ev_aload_n hq_91 (show decode prog_1_method_39_code 155 = .ok (.aload_n 0, 1) by decide +kernel) rfl ?_
        refine Ev_getR hq_91 (show decode prog_1_method_39_code 156 = .ok (.getfield 16, 3) by decide +kernel) rfl (SGn hS (by decide)) (SGk hS rfl) (by decide) rfl (SGr hS rfl) ?_
        refine Ev_getR hq_91 (show decode prog_1_method_39_code 159 = .ok (.getfield 240, 3) by decide +kernel) rfl (SGn hS (by decide)) (SGk hS rfl) (by decide) rfl (SGr hS rfl) ?_
        refine Ev_iload_n hq_91 (show decode prog_1_method_39_code 162 = .ok (.iload_n 1, 1) by decide +kernel) rfl ?_
        obtain ⟨h4, k⟩ := k
        refine Ev_iald hq_91 (show decode prog_1_method_39_code 163 = .ok (.iaload, 1) by decide +kernel) (SGn hS (by decide)) (SGk hS rfl) (SGi hS rfl h4) ?_
        refine Ev_imul hq_91 (show decode prog_1_method_39_code 164 = .ok (.imul, 1) by decide +kernel) ?_
        refine Ev_aload_n hq_91 (show decode prog_1_method_39_code 165 = .ok (.aload_n 0, 1) by decide +kernel) rfl ?_
        refine Ev_getR hq_91 (show decode prog_1_method_39_code 166 = .ok (.getfield 16, 3) by decide +kernel) rfl (SGn hS (by decide)) (SGk hS rfl) (by decide) rfl (SGr hS rfl) ?_
        refine Ev_getR hq_91 (show decode prog_1_method_39_code 169 = .ok (.getfield 240, 3) by decide +kernel) rfl (SGn hS (by decide)) (SGk hS rfl) (by decide) rfl (SGr hS rfl) ?_
        refine Ev_iload_n hq_91 (show decode prog_1_method_39_code 172 = .ok (.iload_n 2, 1) by decide +kernel) rfl ?_
        obtain ⟨h5, k⟩ := k
        refine Ev_iald hq_91 (show decode prog_1_method_39_code 173 = .ok (.iaload, 1) by decide +kernel) (SGn hS (by decide)) (SGk hS rfl) (SGi hS rfl h5) ?_
        refine Ev_iadd hq_91 (show decode prog_1_method_39_code 174 = .ok (.iadd, 1) by decide +kernel) ?_
        exact Ev_iret hq_91 (show decode prog_1_method_39_code 175 = .ok (.ireturn, 1) by decide +kernel) rfl k
      · have k := k.2 (Classical.not_not.mp c3)
        refine Ev_iload hq_91 (show decode prog_1_method_39_code 148 = .ok (.iload 4, 2) by decide +kernel) rfl ?_
        refine Ev_goto (tgt := 175) hq_91 (show decode prog_1_method_39_code 150 = .ok (.goto 25, 3) by decide +kernel) (by decide) ?_
        exact Ev_iret hq_91 (show decode prog_1_method_39_code 175 = .ok (.ireturn, 1) by decide +kernel) rfl k
    · have k := k.2 c2
      refine Ev_iconst (v := (-1)) hq_91 (show decode prog_1_method_39_code 142 = .ok (.iconst (-1), 1) by decide +kernel) (by decide) ?_
      exact Ev_iret hq_91 (show decode prog_1_method_39_code 143 = .ok (.ireturn, 1) by decide +kernel) rfl k
  · have k := k.2 c1
    refine Ev_iload hq_91 (show decode prog_1_method_39_code 51 = .ok (.iload 5, 2) by decide +kernel) rfl ?_
    refine Ev_iconst (v := 2) hq_91 (show decode prog_1_method_39_code 53 = .ok (.iconst 2, 1) by decide +kernel) (by decide) ?_
    refine Ev_icmp_ge (tgt := 136) hq_91 (show decode prog_1_method_39_code 54 = .ok (.if_icmp .ge 82, 3) by decide +kernel) (by decide) (fun c6 => ?_) (fun c6 => ?_)
    · have k := k.1 c6
      refine Ev_iload hq_91 (show decode prog_1_method_39_code 136 = .ok (.iload 5, 2) by decide +kernel) rfl ?_
      refine Ev_iconst (v := 2) hq_91 (show decode prog_1_method_39_code 138 = .ok (.iconst 2, 1) by decide +kernel) (by decide) ?_
      refine Ev_icmp_ge (tgt := 144) hq_91 (show decode prog_1_method_39_code 139 = .ok (.if_icmp .ge 5, 3) by decide +kernel) (by decide) (fun c7 => ?_) (fun c7 => ?_)
      · have k := k.1 c7
        refine Ev_iload_n hq_91 (show decode prog_1_method_39_code 144 = .ok (.iload_n 3, 1) by decide +kernel) rfl ?_
        refine Ev_if_ne (tgt := 153) hq_91 (show decode prog_1_method_39_code 145 = .ok (.ifCond .ne 8, 3) by decide +kernel) (by decide) (fun c8 => ?_) (fun c8 => ?_)
        · have k := k.1 c8
          refine Ev_bipush (v := 100) hq_91 (show decode prog_1_method_39_code 153 = .ok (.bipush 100, 2) by decide +kernel) (by decide) ?_
          refine Ev_aload_n hq_91 (show decode prog_1_method_39_code 155 = .ok (.aload_n 0, 1) by decide +kernel) rfl ?_
          refine Ev_getR hq_91 (show decode prog_1_method_39_code 156 = .ok (.getfield 16, 3) by decide +kernel) rfl (SGn hS (by decide)) (SGk hS rfl) (by decide) rfl (SGr hS rfl) ?_
          refine Ev_getR hq_91 (show decode prog_1_method_39_code 159 = .ok (.getfield 240, 3) by decide +kernel) rfl (SGn hS (by decide)) (SGk hS rfl) (by decide) rfl (SGr hS rfl) ?_
          refine Ev_iload_n hq_91 (show decode prog_1_method_39_code 162 = .ok (.iload_n 1, 1) by decide +kernel) rfl ?_
          obtain ⟨h9, k⟩ := k
          refine Ev_iald hq_91 (show decode prog_1_method_39_code 163 = .ok (.iaload, 1) by decide +kernel) (SGn hS (by decide)) (SGk hS rfl) (SGi hS rfl h9) ?_
          refine Ev_imul hq_91 (show decode prog_1_method_39_code 164 = .ok (.imul, 1) by decide +kernel) ?_
          refine Ev_aload_n hq_91 (show decode prog_1_method_39_code 165 = .ok (.aload_n 0, 1) by decide +kernel) rfl ?_
          refine Ev_getR hq_91 (show decode prog_1_method_39_code 166 = .ok (.getfield 16, 3) by decide +kernel) rfl (SGn hS (by decide)) (SGk hS rfl) (by decide) rfl (SGr hS rfl) ?_
          refine Ev_getR hq_91 (show decode prog_1_method_39_code 169 = .ok (.getfield 240, 3) by decide +kernel) rfl (SGn hS (by decide)) (SGk hS rfl) (by decide) rfl (SGr hS rfl) ?_
          refine Ev_iload_n hq_91 (show decode prog_1_method_39_code 172 = .ok (.iload_n 2, 1) by decide +kernel) rfl ?_
          obtain ⟨h10, k⟩ := k
          refine Ev_iald hq_91 (show decode prog_1_method_39_code 173 = .ok (.iaload, 1) by decide +kernel) (SGn hS (by decide)) (SGk hS rfl) (SGi hS rfl h10) ?_
          refine Ev_iadd hq_91 (show decode prog_1_method_39_code 174 = .ok (.iadd, 1) by decide +kernel) ?_
          exact Ev_iret hq_91 (show decode prog_1_method_39_code 175 = .ok (.ireturn, 1) by decide +kernel) rfl k
        · have k := k.2 (Classical.not_not.mp c8)
          refine Ev_iload hq_91 (show decode prog_1_method_39_code 148 = .ok (.iload 4, 2) by decide +kernel) rfl ?_
          refine Ev_goto (tgt := 175) hq_91 (show decode prog_1_method_39_code 150 = .ok (.goto 25, 3) by decide +kernel) (by decide) ?_
          exact Ev_iret hq_91 (show decode prog_1_method_39_code 175 = .ok (.ireturn, 1) by decide +kernel) rfl k
      · have k := k.2 c7
        refine Ev_iconst (v := (-1)) hq_91 (show decode prog_1_method_39_code 142 = .ok (.iconst (-1), 1) by decide +kernel) (by decide) ?_
        exact Ev_iret hq_91 (show decode prog_1_method_39_code 143 = .ok (.ireturn, 1) by decide +kernel) rfl k
    · have k := k.2 c6
      refine Ev_iload hq_91 (show decode prog_1_method_39_code 57 = .ok (.iload 6, 2) by decide +kernel) rfl ?_
      refine Ev_iconst (v := 2) hq_91 (show decode prog_1_method_39_code 59 = .ok (.iconst 2, 1) by decide +kernel) (by decide) ?_
      refine Ev_irem hq_91 (show decode prog_1_method_39_code 60 = .ok (.irem, 1) by decide +kernel) (by decide) ?_
      refine Ev_if_ne (tgt := 68) hq_91 (show decode prog_1_method_39_code 61 = .ok (.ifCond .ne 7, 3) by decide +kernel) (by decide) (fun c11 => ?_) (fun c11 => ?_)
      · have k := k.1 c11
        refine Ev_iload_n hq_91 (show decode prog_1_method_39_code 68 = .ok (.iload_n 2, 1) by decide +kernel) rfl ?_
        refine Ev_istore (lo2 := [.ref 0, .int x1, .int x2, .int x3, .int x4, .int x5, .int x6, .int x2, v8]) hq_91 (show decode prog_1_method_39_code 69 = .ok (.istore 7, 2) by decide +kernel) (z_le rfl) rfl ?_
        refine Ev_aload_n hq_91 (show decode prog_1_method_39_code 71 = .ok (.aload_n 0, 1) by decide +kernel) rfl ?_
        refine Ev_getR hq_91 (show decode prog_1_method_39_code 72 = .ok (.getfield 16, 3) by decide +kernel) rfl (SGn hS (by decide)) (SGk hS rfl) (by decide) rfl (SGr hS rfl) ?_
        refine Ev_getR hq_91 (show decode prog_1_method_39_code 75 = .ok (.getfield 240, 3) by decide +kernel) rfl (SGn hS (by decide)) (SGk hS rfl) (by decide) rfl (SGr hS rfl) ?_
        refine Ev_iload hq_91 (show decode prog_1_method_39_code 78 = .ok (.iload 7, 2) by decide +kernel) rfl ?_
        obtain ⟨h12, k⟩ := k
        refine Ev_iald hq_91 (show decode prog_1_method_39_code 80 = .ok (.iaload, 1) by decide +kernel) (SGn hS (by decide)) (SGk hS rfl) (SGi hS rfl h12) ?_
        obtain ⟨y13, ey13⟩ : ∃ y13 : Int32, y13 = (I 15 x2.toNatClampNeg) := ⟨_, rfl⟩
        have k := k y13 ey13
        rw [← ey13]
        refine Ev_istore (lo2 := [.ref 0, .int x1, .int x2, .int x3, .int x4, .int x5, .int x6, .int x2, .int y13]) hq_91 (show decode prog_1_method_39_code 81 = .ok (.istore 8, 2) by decide +kernel) (z_le rfl) rfl ?_
        refine Ev_aload_n hq_91 (show decode prog_1_method_39_code 83 = .ok (.aload_n 0, 1) by decide +kernel) rfl ?_
        refine Ev_getR hq_91 (show decode prog_1_method_39_code 84 = .ok (.getfield 16, 3) by decide +kernel) rfl (SGn hS (by decide)) (SGk hS rfl) (by decide) rfl (SGr hS rfl) ?_
        refine Ev_getR hq_91 (show decode prog_1_method_39_code 87 = .ok (.getfield 240, 3) by decide +kernel) rfl (SGn hS (by decide)) (SGk hS rfl) (by decide) rfl (SGr hS rfl) ?_
        refine Ev_iload hq_91 (show decode prog_1_method_39_code 90 = .ok (.iload 7, 2) by decide +kernel) rfl ?_
        refine Ev_aload_n hq_91 (show decode prog_1_method_39_code 92 = .ok (.aload_n 0, 1) by decide +kernel) rfl ?_
        refine Ev_iload hq_91 (show decode prog_1_method_39_code 93 = .ok (.iload 7, 2) by decide +kernel) rfl ?_
        obtain ⟨r16, I14, h15, k⟩ := k
        refine Ev_virt (as := [.int x2]) hq_91 (show decode prog_1_method_39_code 95 = .ok (.invokevirtual 233, 3) by decide +kernel) rfl hq_84 rfl (z_le rfl) ⟨(SGn hS (by decide)), (SGk hS rfl), by decide⟩ h15 ?_
        refine Ev_iconst (v := 0) hq_91 (show decode prog_1_method_39_code 98 = .ok (.iconst 0, 1) by decide +kernel) (by decide) ?_
        refine Ev_stat (as := [.int r16, .int 0]) hq_91 (show decode prog_1_method_39_code 99 = .ok (.invokestatic 236, 3) by decide +kernel) rfl (Or.inl rfl) hq_86 rfl (z_le rfl) (c_T_choiceOrCost r16 0) ?_
        obtain ⟨h17, k⟩ := k
        refine Ev_iast hq_91 (show decode prog_1_method_39_code 102 = .ok (.iastore, 1) by decide +kernel) (SGn hS (by decide)) (SGk hS rfl) (SGi hS rfl h17) ?_
        obtain ⟨I18, eI18⟩ : ∃ I18 : zI, I18 = z_up I14 15 x2.toNatClampNeg (f_T_choiceOrCost r16 0) := ⟨_, rfl⟩
        have k := k I18 eI18
        rw [← eI18]
        refine Ev_aload_n hq_91 (show decode prog_1_method_39_code 103 = .ok (.aload_n 0, 1) by decide +kernel) rfl ?_
        refine Ev_getR hq_91 (show decode prog_1_method_39_code 104 = .ok (.getfield 16, 3) by decide +kernel) rfl (SGn hS (by decide)) (SGk hS rfl) (by decide) rfl (SGr hS rfl) ?_
        refine Ev_getR hq_91 (show decode prog_1_method_39_code 107 = .ok (.getfield 240, 3) by decide +kernel) rfl (SGn hS (by decide)) (SGk hS rfl) (by decide) rfl (SGr hS rfl) ?_
        refine Ev_iload hq_91 (show decode prog_1_method_39_code 110 = .ok (.iload 7, 2) by decide +kernel) rfl ?_
        obtain ⟨h19, k⟩ := k
        refine Ev_iald hq_91 (show decode prog_1_method_39_code 112 = .ok (.iaload, 1) by decide +kernel) (SGn hS (by decide)) (SGk hS rfl) (SGi hS rfl h19) ?_
        refine Ev_iload hq_91 (show decode prog_1_method_39_code 113 = .ok (.iload 8, 2) by decide +kernel) rfl ?_
        refine Ev_icmp_ne (tgt := 124) hq_91 (show decode prog_1_method_39_code 115 = .ok (.if_icmp .ne 9, 3) by decide +kernel) (by decide) (fun c20 => ?_) (fun c20 => ?_)
        · have k := k.1 c20
          obtain ⟨y21, ey21⟩ : ∃ y21 : Int32, y21 = x4 + 1 := ⟨_, rfl⟩
          have k := k y21 ey21
          refine Ev_iinc (v := y21) (lo2 := [.ref 0, .int x1, .int x2, .int x3, .int y21, .int x5, .int x6, .int x2, .int y13]) hq_91 (show decode prog_1_method_39_code 124 = .ok (.iinc 4 1, 3) by decide +kernel) rfl (by rw [ey21]; rfl) rfl ?_
          refine Ev_iconst (v := 0) hq_91 (show decode prog_1_method_39_code 127 = .ok (.iconst 0, 1) by decide +kernel) (by decide) ?_
          refine Ev_istore (lo2 := [.ref 0, .int x1, .int x2, .int x3, .int y21, .int 0, .int x6, .int x2, .int y13]) hq_91 (show decode prog_1_method_39_code 128 = .ok (.istore 5, 2) by decide +kernel) (z_le rfl) rfl ?_
          obtain ⟨y22, ey22⟩ : ∃ y22 : Int32, y22 = x6 + 1 := ⟨_, rfl⟩
          have k := k y22 ey22
          refine Ev_iinc (v := y22) (lo2 := [.ref 0, .int x1, .int x2, .int x3, .int y21, .int 0, .int y22, .int x2, .int y13]) hq_91 (show decode prog_1_method_39_code 130 = .ok (.iinc 6 1, 3) by decide +kernel) rfl (by rw [ey22]; rfl) rfl ?_
          refine Ev_goto (tgt := 44) hq_91 (show decode prog_1_method_39_code 133 = .ok (.goto (-89), 3) by decide +kernel) (by decide) ?_
          exact k
        · have k := k.2 (Classical.not_not.mp c20)
          obtain ⟨y23, ey23⟩ : ∃ y23 : Int32, y23 = x5 + 1 := ⟨_, rfl⟩
          have k := k y23 ey23
          refine Ev_iinc (v := y23) (lo2 := [.ref 0, .int x1, .int x2, .int x3, .int x4, .int y23, .int x6, .int x2, .int y13]) hq_91 (show decode prog_1_method_39_code 118 = .ok (.iinc 5 1, 3) by decide +kernel) rfl (by rw [ey23]; rfl) rfl ?_
          refine Ev_goto (tgt := 130) hq_91 (show decode prog_1_method_39_code 121 = .ok (.goto 9, 3) by decide +kernel) (by decide) ?_
          obtain ⟨y24, ey24⟩ : ∃ y24 : Int32, y24 = x6 + 1 := ⟨_, rfl⟩
          have k := k y24 ey24
          refine Ev_iinc (v := y24) (lo2 := [.ref 0, .int x1, .int x2, .int x3, .int x4, .int y23, .int y24, .int x2, .int y13]) hq_91 (show decode prog_1_method_39_code 130 = .ok (.iinc 6 1, 3) by decide +kernel) rfl (by rw [ey24]; rfl) rfl ?_
          refine Ev_goto (tgt := 44) hq_91 (show decode prog_1_method_39_code 133 = .ok (.goto (-89), 3) by decide +kernel) (by decide) ?_
          exact k
      · have k := k.2 (Classical.not_not.mp c11)
        refine Ev_iload_n hq_91 (show decode prog_1_method_39_code 64 = .ok (.iload_n 1, 1) by decide +kernel) rfl ?_
        refine Ev_goto (tgt := 69) hq_91 (show decode prog_1_method_39_code 65 = .ok (.goto 4, 3) by decide +kernel) (by decide) ?_
        refine Ev_istore (lo2 := [.ref 0, .int x1, .int x2, .int x3, .int x4, .int x5, .int x6, .int x1, v8]) hq_91 (show decode prog_1_method_39_code 69 = .ok (.istore 7, 2) by decide +kernel) (z_le rfl) rfl ?_
        refine Ev_aload_n hq_91 (show decode prog_1_method_39_code 71 = .ok (.aload_n 0, 1) by decide +kernel) rfl ?_
        refine Ev_getR hq_91 (show decode prog_1_method_39_code 72 = .ok (.getfield 16, 3) by decide +kernel) rfl (SGn hS (by decide)) (SGk hS rfl) (by decide) rfl (SGr hS rfl) ?_
        refine Ev_getR hq_91 (show decode prog_1_method_39_code 75 = .ok (.getfield 240, 3) by decide +kernel) rfl (SGn hS (by decide)) (SGk hS rfl) (by decide) rfl (SGr hS rfl) ?_
        refine Ev_iload hq_91 (show decode prog_1_method_39_code 78 = .ok (.iload 7, 2) by decide +kernel) rfl ?_
        obtain ⟨h25, k⟩ := k
        refine Ev_iald hq_91 (show decode prog_1_method_39_code 80 = .ok (.iaload, 1) by decide +kernel) (SGn hS (by decide)) (SGk hS rfl) (SGi hS rfl h25) ?_
        obtain ⟨y26, ey26⟩ : ∃ y26 : Int32, y26 = (I 15 x1.toNatClampNeg) := ⟨_, rfl⟩
        have k := k y26 ey26
        rw [← ey26]
        refine Ev_istore (lo2 := [.ref 0, .int x1, .int x2, .int x3, .int x4, .int x5, .int x6, .int x1, .int y26]) hq_91 (show decode prog_1_method_39_code 81 = .ok (.istore 8, 2) by decide +kernel) (z_le rfl) rfl ?_
        refine Ev_aload_n hq_91 (show decode prog_1_method_39_code 83 = .ok (.aload_n 0, 1) by decide +kernel) rfl ?_
        refine Ev_getR hq_91 (show decode prog_1_method_39_code 84 = .ok (.getfield 16, 3) by decide +kernel) rfl (SGn hS (by decide)) (SGk hS rfl) (by decide) rfl (SGr hS rfl) ?_
        refine Ev_getR hq_91 (show decode prog_1_method_39_code 87 = .ok (.getfield 240, 3) by decide +kernel) rfl (SGn hS (by decide)) (SGk hS rfl) (by decide) rfl (SGr hS rfl) ?_
        refine Ev_iload hq_91 (show decode prog_1_method_39_code 90 = .ok (.iload 7, 2) by decide +kernel) rfl ?_
        refine Ev_aload_n hq_91 (show decode prog_1_method_39_code 92 = .ok (.aload_n 0, 1) by decide +kernel) rfl ?_
        refine Ev_iload hq_91 (show decode prog_1_method_39_code 93 = .ok (.iload 7, 2) by decide +kernel) rfl ?_
        obtain ⟨r29, I27, h28, k⟩ := k
        refine Ev_virt (as := [.int x1]) hq_91 (show decode prog_1_method_39_code 95 = .ok (.invokevirtual 233, 3) by decide +kernel) rfl hq_84 rfl (z_le rfl) ⟨(SGn hS (by decide)), (SGk hS rfl), by decide⟩ h28 ?_
        refine Ev_iconst (v := 0) hq_91 (show decode prog_1_method_39_code 98 = .ok (.iconst 0, 1) by decide +kernel) (by decide) ?_
        refine Ev_stat (as := [.int r29, .int 0]) hq_91 (show decode prog_1_method_39_code 99 = .ok (.invokestatic 236, 3) by decide +kernel) rfl (Or.inl rfl) hq_86 rfl (z_le rfl) (c_T_choiceOrCost r29 0) ?_
        obtain ⟨h30, k⟩ := k
        refine Ev_iast hq_91 (show decode prog_1_method_39_code 102 = .ok (.iastore, 1) by decide +kernel) (SGn hS (by decide)) (SGk hS rfl) (SGi hS rfl h30) ?_
        obtain ⟨I31, eI31⟩ : ∃ I31 : zI, I31 = z_up I27 15 x1.toNatClampNeg (f_T_choiceOrCost r29 0) := ⟨_, rfl⟩
        have k := k I31 eI31
        rw [← eI31]
        refine Ev_aload_n hq_91 (show decode prog_1_method_39_code 103 = .ok (.aload_n 0, 1) by decide +kernel) rfl ?_
        refine Ev_getR hq_91 (show decode prog_1_method_39_code 104 = .ok (.getfield 16, 3) by decide +kernel) rfl (SGn hS (by decide)) (SGk hS rfl) (by decide) rfl (SGr hS rfl) ?_
        refine Ev_getR hq_91 (show decode prog_1_method_39_code 107 = .ok (.getfield 240, 3) by decide +kernel) rfl (SGn hS (by decide)) (SGk hS rfl) (by decide) rfl (SGr hS rfl) ?_
        refine Ev_iload hq_91 (show decode prog_1_method_39_code 110 = .ok (.iload 7, 2) by decide +kernel) rfl ?_
        obtain ⟨h32, k⟩ := k
        refine Ev_iald hq_91 (show decode prog_1_method_39_code 112 = .ok (.iaload, 1) by decide +kernel) (SGn hS (by decide)) (SGk hS rfl) (SGi hS rfl h32) ?_
        refine Ev_iload hq_91 (show decode prog_1_method_39_code 113 = .ok (.iload 8, 2) by decide +kernel) rfl ?_
        refine Ev_icmp_ne (tgt := 124) hq_91 (show decode prog_1_method_39_code 115 = .ok (.if_icmp .ne 9, 3) by decide +kernel) (by decide) (fun c33 => ?_) (fun c33 => ?_)
        · have k := k.1 c33
          obtain ⟨y34, ey34⟩ : ∃ y34 : Int32, y34 = x4 + 1 := ⟨_, rfl⟩
          have k := k y34 ey34
          refine Ev_iinc (v := y34) (lo2 := [.ref 0, .int x1, .int x2, .int x3, .int y34, .int x5, .int x6, .int x1, .int y26]) hq_91 (show decode prog_1_method_39_code 124 = .ok (.iinc 4 1, 3) by decide +kernel) rfl (by rw [ey34]; rfl) rfl ?_
          refine Ev_iconst (v := 0) hq_91 (show decode prog_1_method_39_code 127 = .ok (.iconst 0, 1) by decide +kernel) (by decide) ?_
          refine Ev_istore (lo2 := [.ref 0, .int x1, .int x2, .int x3, .int y34, .int 0, .int x6, .int x1, .int y26]) hq_91 (show decode prog_1_method_39_code 128 = .ok (.istore 5, 2) by decide +kernel) (z_le rfl) rfl ?_
          obtain ⟨y35, ey35⟩ : ∃ y35 : Int32, y35 = x6 + 1 := ⟨_, rfl⟩
          have k := k y35 ey35
          refine Ev_iinc (v := y35) (lo2 := [.ref 0, .int x1, .int x2, .int x3, .int y34, .int 0, .int y35, .int x1, .int y26]) hq_91 (show decode prog_1_method_39_code 130 = .ok (.iinc 6 1, 3) by decide +kernel) rfl (by rw [ey35]; rfl) rfl ?_
          refine Ev_goto (tgt := 44) hq_91 (show decode prog_1_method_39_code 133 = .ok (.goto (-89), 3) by decide +kernel) (by decide) ?_
          exact k
        · have k := k.2 (Classical.not_not.mp c33)
          obtain ⟨y36, ey36⟩ : ∃ y36 : Int32, y36 = x5 + 1 := ⟨_, rfl⟩
          have k := k y36 ey36
          refine Ev_iinc (v := y36) (lo2 := [.ref 0, .int x1, .int x2, .int x3, .int x4, .int y36, .int x6, .int x1, .int y26]) hq_91 (show decode prog_1_method_39_code 118 = .ok (.iinc 5 1, 3) by decide +kernel) rfl (by rw [ey36]; rfl) rfl ?_
          refine Ev_goto (tgt := 130) hq_91 (show decode prog_1_method_39_code 121 = .ok (.goto 9, 3) by decide +kernel) (by decide) ?_
          obtain ⟨y37, ey37⟩ : ∃ y37 : Int32, y37 = x6 + 1 := ⟨_, rfl⟩
          have k := k y37 ey37
          refine Ev_iinc (v := y37) (lo2 := [.ref 0, .int x1, .int x2, .int x3, .int x4, .int y36, .int y37, .int x1, .int y26]) hq_91 (show decode prog_1_method_39_code 130 = .ok (.iinc 6 1, 3) by decide +kernel) rfl (by rw [ey37]; rfl) rfl ?_
          refine Ev_goto (tgt := 44) hq_91 (show decode prog_1_method_39_code 133 = .ok (.goto (-89), 3) by decide +kernel) (by decide) ?_
          exact k
set_option maxRecDepth 20000 in
theorem wp_T_hurts {X : Nat × (Nat → Int32)} {d : Nat} {G : zG} {I : zI} {res : Option Value × zG × zI} (x1 : Int32) (x2 : Int32) (hd : 2 ≤ d) (hS : SG G) 
    (k : (¬ (f_T_areTwo I x1 x2) = 0 → ∃ (I2 : zI), Cv X d 62 [.ref 0, .ref 1] G I (none, G, I2) ∧ (z_inr x2 4 ∧ (∀ y5 : Int32, y5 = (I2 36 x2.toNatClampNeg) → ∃ (I6 : zI), Cv X d 83 [.ref 9, .ref 1] G I2 (none, G, I6) ∧ (z_inr x1 4 ∧ (∀ I9 : zI, I9 = z_up I6 16 x1.toNatClampNeg 0 → ∃ (I10 : zI), Cv X d 62 [.ref 0, .ref 9] G I9 (none, G, I10) ∧ (z_inr x2 4 ∧ (res = (some (.int (y5 - (I10 36 x2.toNatClampNeg))), G, I10)))))))) ∧ ((f_T_areTwo I x1 x2) = 0 → res = (some (.int (-100000)), G, I))) :
    Ev X (d + 1) 93 0 [.ref 0, .int x1, .int x2, zU] [] G I res := by
  refine Ev_aload_n hq_93 (show decode prog_1_method_41_code 0 = .ok (.aload_n 0, 1) by decide +kernel) rfl ?_
  refine Ev_iload_n hq_93 (show decode prog_1_method_41_code 1 = .ok (.iload_n 1, 1) by decide +kernel) rfl ?_
  refine Ev_iload_n hq_93 (show decode prog_1_method_41_code 2 = .ok (.iload_n 2, 1) by decide +kernel) rfl ?_
  refine Ev_virt (as := [.int x1, .int x2]) hq_93 (show decode prog_1_method_41_code 3 = .ok (.invokevirtual 249, 3) by decide +kernel) rfl hq_92 rfl (z_le rfl) ⟨(SGn hS (by decide)), (SGk hS rfl), by decide⟩ (c_T_areTwo (by omega) hS x1 x2) ?_
  refine Ev_if_ne (tgt := 12) hq_93 (show decode prog_1_method_41_code 6 = .ok (.ifCond .ne 6, 3) by decide +kernel) (by decide) (fun c1 => ?_) (fun c1 => ?_)
  · have k := k.1 c1
    refine Ev_aload_n hq_93 (show decode prog_1_method_41_code 12 = .ok (.aload_n 0, 1) by decide +kernel) rfl ?_
    refine Ev_aload_n hq_93 (show decode prog_1_method_41_code 13 = .ok (.aload_n 0, 1) by decide +kernel) rfl ?_
    refine Ev_getR hq_93 (show decode prog_1_method_41_code 14 = .ok (.getfield 10, 3) by decide +kernel) rfl (SGn hS (by decide)) (SGk hS rfl) (by decide) rfl (SGr hS rfl) ?_
    obtain ⟨I2, h3, k⟩ := k
    refine Ev_virt (as := [.ref 1]) hq_93 (show decode prog_1_method_41_code 17 = .ok (.invokevirtual 187, 3) by decide +kernel) rfl hq_62 rfl (z_le rfl) ⟨(SGn hS (by decide)), (SGk hS rfl), by decide⟩ h3 ?_
    refine Ev_aload_n hq_93 (show decode prog_1_method_41_code 20 = .ok (.aload_n 0, 1) by decide +kernel) rfl ?_
    refine Ev_getR hq_93 (show decode prog_1_method_41_code 21 = .ok (.getfield 29, 3) by decide +kernel) rfl (SGn hS (by decide)) (SGk hS rfl) (by decide) rfl (SGr hS rfl) ?_
    refine Ev_getR hq_93 (show decode prog_1_method_41_code 24 = .ok (.getfield 200, 3) by decide +kernel) rfl (SGn hS (by decide)) (SGk hS rfl) (by decide) rfl (SGr hS rfl) ?_
    refine Ev_iload_n hq_93 (show decode prog_1_method_41_code 27 = .ok (.iload_n 2, 1) by decide +kernel) rfl ?_
    obtain ⟨h4, k⟩ := k
    refine Ev_iald hq_93 (show decode prog_1_method_41_code 28 = .ok (.iaload, 1) by decide +kernel) (SGn hS (by decide)) (SGk hS rfl) (SGi hS rfl h4) ?_
    obtain ⟨y5, ey5⟩ : ∃ y5 : Int32, y5 = (I2 36 x2.toNatClampNeg) := ⟨_, rfl⟩
    have k := k y5 ey5
    rw [← ey5]
    refine Ev_istore_n (lo2 := [.ref 0, .int x1, .int x2, .int y5]) hq_93 (show decode prog_1_method_41_code 29 = .ok (.istore_n 3, 1) by decide +kernel) (z_le rfl) rfl ?_
    refine Ev_aload_n hq_93 (show decode prog_1_method_41_code 30 = .ok (.aload_n 0, 1) by decide +kernel) rfl ?_
    refine Ev_getR hq_93 (show decode prog_1_method_41_code 31 = .ok (.getfield 16, 3) by decide +kernel) rfl (SGn hS (by decide)) (SGk hS rfl) (by decide) rfl (SGr hS rfl) ?_
    refine Ev_aload_n hq_93 (show decode prog_1_method_41_code 34 = .ok (.aload_n 0, 1) by decide +kernel) rfl ?_
    refine Ev_getR hq_93 (show decode prog_1_method_41_code 35 = .ok (.getfield 10, 3) by decide +kernel) rfl (SGn hS (by decide)) (SGk hS rfl) (by decide) rfl (SGr hS rfl) ?_
    obtain ⟨I6, h7, k⟩ := k
    refine Ev_virt (as := [.ref 1]) hq_93 (show decode prog_1_method_41_code 38 = .ok (.invokevirtual 230, 3) by decide +kernel) rfl hq_83 rfl (z_le rfl) ⟨(SGn hS (by decide)), (SGk hS rfl), by decide⟩ h7 ?_
    refine Ev_aload_n hq_93 (show decode prog_1_method_41_code 41 = .ok (.aload_n 0, 1) by decide +kernel) rfl ?_
    refine Ev_getR hq_93 (show decode prog_1_method_41_code 42 = .ok (.getfield 16, 3) by decide +kernel) rfl (SGn hS (by decide)) (SGk hS rfl) (by decide) rfl (SGr hS rfl) ?_
    refine Ev_getR hq_93 (show decode prog_1_method_41_code 45 = .ok (.getfield 253, 3) by decide +kernel) rfl (SGn hS (by decide)) (SGk hS rfl) (by decide) rfl (SGr hS rfl) ?_
    refine Ev_iload_n hq_93 (show decode prog_1_method_41_code 48 = .ok (.iload_n 1, 1) by decide +kernel) rfl ?_
    refine Ev_iconst (v := 0) hq_93 (show decode prog_1_method_41_code 49 = .ok (.iconst 0, 1) by decide +kernel) (by decide) ?_
    obtain ⟨h8, k⟩ := k
    refine Ev_iast hq_93 (show decode prog_1_method_41_code 50 = .ok (.iastore, 1) by decide +kernel) (SGn hS (by decide)) (SGk hS rfl) (SGi hS rfl h8) ?_
    obtain ⟨I9, eI9⟩ : ∃ I9 : zI, I9 = z_up I6 16 x1.toNatClampNeg 0 := ⟨_, rfl⟩
    have k := k I9 eI9
    rw [← eI9]
    refine Ev_aload_n hq_93 (show decode prog_1_method_41_code 51 = .ok (.aload_n 0, 1) by decide +kernel) rfl ?_
    refine Ev_aload_n hq_93 (show decode prog_1_method_41_code 52 = .ok (.aload_n 0, 1) by decide +kernel) rfl ?_
    refine Ev_getR hq_93 (show decode prog_1_method_41_code 53 = .ok (.getfield 16, 3) by decide +kernel) rfl (SGn hS (by decide)) (SGk hS rfl) (by decide) rfl (SGr hS rfl) ?_
    obtain ⟨I10, h11, k⟩ := k
    refine Ev_virt (as := [.ref 9]) hq_93 (show decode prog_1_method_41_code 56 = .ok (.invokevirtual 187, 3) by decide +kernel) rfl hq_62 rfl (z_le rfl) ⟨(SGn hS (by decide)), (SGk hS rfl), by decide⟩ h11 ?_
    refine Ev_iload_n hq_93 (show decode prog_1_method_41_code 59 = .ok (.iload_n 3, 1) by decide +kernel) rfl ?_
    refine Ev_aload_n hq_93 (show decode prog_1_method_41_code 60 = .ok (.aload_n 0, 1) by decide +kernel) rfl ?_
    refine Ev_getR hq_93 (show decode prog_1_method_41_code 61 = .ok (.getfield 29, 3) by decide +kernel) rfl (SGn hS (by decide)) (SGk hS rfl) (by decide) rfl (SGr hS rfl) ?_
    refine Ev_getR hq_93 (show decode prog_1_method_41_code 64 = .ok (.getfield 200, 3) by decide +kernel) rfl (SGn hS (by decide)) (SGk hS rfl) (by decide) rfl (SGr hS rfl) ?_
    refine Ev_iload_n hq_93 (show decode prog_1_method_41_code 67 = .ok (.iload_n 2, 1) by decide +kernel) rfl ?_
    obtain ⟨h12, k⟩ := k
    refine Ev_iald hq_93 (show decode prog_1_method_41_code 68 = .ok (.iaload, 1) by decide +kernel) (SGn hS (by decide)) (SGk hS rfl) (SGi hS rfl h12) ?_
    refine Ev_isub hq_93 (show decode prog_1_method_41_code 69 = .ok (.isub, 1) by decide +kernel) ?_
    exact Ev_iret hq_93 (show decode prog_1_method_41_code 70 = .ok (.ireturn, 1) by decide +kernel) rfl k
  · have k := k.2 (Classical.not_not.mp c1)
    refine Ev_ldc (v := (-100000)) hq_93 (show decode prog_1_method_41_code 9 = .ok (.ldc 185, 2) by decide +kernel) rfl ?_
    exact Ev_iret hq_93 (show decode prog_1_method_41_code 11 = .ok (.ireturn, 1) by decide +kernel) rfl k
set_option maxRecDepth 20000 in
theorem wp_T_costWithout {X : Nat × (Nat → Int32)} {d : Nat} {G : zG} {I : zI} {res : Option Value × zG × zI} (x1 : Int32) (hS : SG G) 
    (k : ∃ (I1 : zI), Cv X d 83 [.ref 9, .ref 1] G I (none, G, I1) ∧ (z_inr x1 4 ∧ (∀ I4 : zI, I4 = z_up I1 16 x1.toNatClampNeg 0 → ∃ (I5 : zI), Cv X d 62 [.ref 0, .ref 9] G I4 (none, G, I5) ∧ (∃ (r9 : Int32) (I7 : zI), Cv X d 76 [.ref 25, .int (I5 9 7)] G I5 (some (.int r9), G, I7) ∧ (res = (some (.int r9), G, I7)))))) :
    Ev X (d + 1) 95 0 [.ref 0, .int x1] [] G I res := by
  refine Ev_aload_n hq_95 (show decode prog_1_method_43_code 0 = .ok (.aload_n 0, 1) by decide +kernel) rfl ?_
  refine Ev_getR hq_95 (show decode prog_1_method_43_code 1 = .ok (.getfield 16, 3) by decide +kernel) rfl (SGn hS (by decide)) (SGk hS rfl) (by decide) rfl (SGr hS rfl) ?_
  refine Ev_aload_n hq_95 (show decode prog_1_method_43_code 4 = .ok (.aload_n 0, 1) by decide +kernel) rfl ?_
  refine Ev_getR hq_95 (show decode prog_1_method_43_code 5 = .ok (.getfield 10, 3) by decide +kernel) rfl (SGn hS (by decide)) (SGk hS rfl) (by decide) rfl (SGr hS rfl) ?_
  obtain ⟨I1, h2, k⟩ := k
  refine Ev_virt (as := [.ref 1]) hq_95 (show decode prog_1_method_43_code 8 = .ok (.invokevirtual 230, 3) by decide +kernel) rfl hq_83 rfl (z_le rfl) ⟨(SGn hS (by decide)), (SGk hS rfl), by decide⟩ h2 ?_
  refine Ev_aload_n hq_95 (show decode prog_1_method_43_code 11 = .ok (.aload_n 0, 1) by decide +kernel) rfl ?_
  refine Ev_getR hq_95 (show decode prog_1_method_43_code 12 = .ok (.getfield 16, 3) by decide +kernel) rfl (SGn hS (by decide)) (SGk hS rfl) (by decide) rfl (SGr hS rfl) ?_
  refine Ev_getR hq_95 (show decode prog_1_method_43_code 15 = .ok (.getfield 253, 3) by decide +kernel) rfl (SGn hS (by decide)) (SGk hS rfl) (by decide) rfl (SGr hS rfl) ?_
  refine Ev_iload_n hq_95 (show decode prog_1_method_43_code 18 = .ok (.iload_n 1, 1) by decide +kernel) rfl ?_
  refine Ev_iconst (v := 0) hq_95 (show decode prog_1_method_43_code 19 = .ok (.iconst 0, 1) by decide +kernel) (by decide) ?_
  obtain ⟨h3, k⟩ := k
  refine Ev_iast hq_95 (show decode prog_1_method_43_code 20 = .ok (.iastore, 1) by decide +kernel) (SGn hS (by decide)) (SGk hS rfl) (SGi hS rfl h3) ?_
  obtain ⟨I4, eI4⟩ : ∃ I4 : zI, I4 = z_up I1 16 x1.toNatClampNeg 0 := ⟨_, rfl⟩
  have k := k I4 eI4
  rw [← eI4]
  refine Ev_aload_n hq_95 (show decode prog_1_method_43_code 21 = .ok (.aload_n 0, 1) by decide +kernel) rfl ?_
  refine Ev_aload_n hq_95 (show decode prog_1_method_43_code 22 = .ok (.aload_n 0, 1) by decide +kernel) rfl ?_
  refine Ev_getR hq_95 (show decode prog_1_method_43_code 23 = .ok (.getfield 16, 3) by decide +kernel) rfl (SGn hS (by decide)) (SGk hS rfl) (by decide) rfl (SGr hS rfl) ?_
  obtain ⟨I5, h6, k⟩ := k
  refine Ev_virt (as := [.ref 9]) hq_95 (show decode prog_1_method_43_code 26 = .ok (.invokevirtual 187, 3) by decide +kernel) rfl hq_62 rfl (z_le rfl) ⟨(SGn hS (by decide)), (SGk hS rfl), by decide⟩ h6 ?_
  refine Ev_aload_n hq_95 (show decode prog_1_method_43_code 29 = .ok (.aload_n 0, 1) by decide +kernel) rfl ?_
  refine Ev_getR hq_95 (show decode prog_1_method_43_code 30 = .ok (.getfield 29, 3) by decide +kernel) rfl (SGn hS (by decide)) (SGk hS rfl) (by decide) rfl (SGr hS rfl) ?_
  refine Ev_aload_n hq_95 (show decode prog_1_method_43_code 33 = .ok (.aload_n 0, 1) by decide +kernel) rfl ?_
  refine Ev_getR hq_95 (show decode prog_1_method_43_code 34 = .ok (.getfield 16, 3) by decide +kernel) rfl (SGn hS (by decide)) (SGk hS rfl) (by decide) rfl (SGr hS rfl) ?_
  refine Ev_getI hq_95 (show decode prog_1_method_43_code 37 = .ok (.getfield 100, 3) by decide +kernel) rfl (SGn hS (by decide)) (SGk hS rfl) (by decide) rfl ?_
  obtain ⟨r9, I7, h8, k⟩ := k
  refine Ev_virt (as := [.int (I5 9 7)]) hq_95 (show decode prog_1_method_43_code 40 = .ok (.invokevirtual 218, 3) by decide +kernel) rfl hq_76 rfl (z_le rfl) ⟨(SGn hS (by decide)), (SGk hS rfl), by decide⟩ h8 ?_
  exact Ev_iret hq_95 (show decode prog_1_method_43_code 43 = .ok (.ireturn, 1) by decide +kernel) rfl k
set_option maxRecDepth 20000 in
theorem wp_T_off {X : Nat × (Nat → Int32)} {d : Nat} {G : zG} {I : zI} {res : Option Value × zG × zI} (x1 : Int32) 
    (k : (¬ (f_T_within x1 0 1) = 0 → Ev X (d + 1) 94 17 [.ref 0, .int x1, .int 2147483647, .int 0] [] G I res) ∧ ((f_T_within x1 0 1) = 0 → res = (some (.int (-2)), G, I))) :
    Ev X (d + 1) 94 0 [.ref 0, .int x1, zU, zU] [] G I res := by
  refine Ev_iload_n hq_94 (show decode prog_1_method_42_code 0 = .ok (.iload_n 1, 1) by decide +kernel) rfl ?_
  refine Ev_iconst (v := 0) hq_94 (show decode prog_1_method_42_code 1 = .ok (.iconst 0, 1) by decide +kernel) (by decide) ?_
  refine Ev_iconst (v := 1) hq_94 (show decode prog_1_method_42_code 2 = .ok (.iconst 1, 1) by decide +kernel) (by decide) ?_
  refine Ev_stat (as := [.int x1, .int 0, .int 1]) hq_94 (show decode prog_1_method_42_code 3 = .ok (.invokestatic 108, 3) by decide +kernel) rfl (Or.inl rfl) hq_32 rfl (z_le rfl) (c_T_within x1 0 1) ?_
  refine Ev_if_ne (tgt := 12) hq_94 (show decode prog_1_method_42_code 6 = .ok (.ifCond .ne 6, 3) by decide +kernel) (by decide) (fun c1 => ?_) (fun c1 => ?_)
  · have k := k.1 c1
    refine Ev_ldc (v := 2147483647) hq_94 (show decode prog_1_method_42_code 12 = .ok (.ldc 239, 2) by decide +kernel) rfl ?_
    refine Ev_istore_n (lo2 := [.ref 0, .int x1, .int 2147483647, zU]) hq_94 (show decode prog_1_method_42_code 14 = .ok (.istore_n 2, 1) by decide +kernel) (z_le rfl) rfl ?_
    refine Ev_iconst (v := 0) hq_94 (show decode prog_1_method_42_code 15 = .ok (.iconst 0, 1) by decide +kernel) (by decide) ?_
    refine Ev_istore_n (lo2 := [.ref 0, .int x1, .int 2147483647, .int 0]) hq_94 (show decode prog_1_method_42_code 16 = .ok (.istore_n 3, 1) by decide +kernel) (z_le rfl) rfl ?_
    exact k
  · have k := k.2 (Classical.not_not.mp c1)
    refine Ev_bipush (v := (-2)) hq_94 (show decode prog_1_method_42_code 9 = .ok (.bipush (-2), 2) by decide +kernel) (by decide) ?_
    exact Ev_iret hq_94 (show decode prog_1_method_42_code 11 = .ok (.ireturn, 1) by decide +kernel) rfl k
set_option maxRecDepth 20000 in
theorem wp_T_off_17 {X : Nat × (Nat → Int32)} {d : Nat} {G : zG} {I : zI} {res : Option Value × zG × zI} (x1 : Int32) (x2 : Int32) (x3 : Int32) (hS : SG G) 
    (k : ((I 1 7) ≤ x3 → (¬ x2 = 2147483647 → res = (some (.int (f_T_choiceOrCost x2 x1)), G, I)) ∧ (x2 = 2147483647 → res = (some (.int (-1)), G, I))) ∧ (¬ (I 1 7) ≤ x3 → z_inr x3 4 ∧ ((¬ (I 8 x3.toNatClampNeg) = 1 → ∀ y5 : Int32, y5 = x3 + 1 → Ev X (d + 1) 94 17 [.ref 0, .int x1, .int x2, .int y5] [] G I res) ∧ ((I 8 x3.toNatClampNeg) = 1 → ∃ (r8 : Int32) (I6 : zI), Cv X d 95 [.ref 0, .int x3] G I (some (.int r8), G, I6) ∧ (∀ y9 : Int32, y9 = (if (f_T_choice r8 x3) < x2 then (f_T_choice r8 x3) else x2) → ∀ y10 : Int32, y10 = x3 + 1 → Ev X (d + 1) 94 17 [.ref 0, .int x1, .int y9, .int y10] [] G I6 res))))) :
    Ev X (d + 1) 94 17 [.ref 0, .int x1, .int x2, .int x3] [] G I res := by
  refine Ev_iload_n hq_94 (show decode prog_1_method_42_code 17 = .ok (.iload_n 3, 1) by decide +kernel) rfl ?_
  refine Ev_aload_n hq_94 (show decode prog_1_method_42_code 18 = .ok (.aload_n 0, 1) by decide +kernel) rfl ?_
  refine Ev_getR hq_94 (show decode prog_1_method_42_code 19 = .ok (.getfield 10, 3) by decide +kernel) rfl (SGn hS (by decide)) (SGk hS rfl) (by decide) rfl (SGr hS rfl) ?_
  refine Ev_getI hq_94 (show decode prog_1_method_42_code 22 = .ok (.getfield 100, 3) by decide +kernel) rfl (SGn hS (by decide)) (SGk hS rfl) (by decide) rfl ?_
  refine Ev_icmp_ge (tgt := 61) hq_94 (show decode prog_1_method_42_code 25 = .ok (.if_icmp .ge 36, 3) by decide +kernel) (by decide) (fun c1 => ?_) (fun c1 => ?_)
  · have k := k.1 c1
    refine Ev_iload_n hq_94 (show decode prog_1_method_42_code 61 = .ok (.iload_n 2, 1) by decide +kernel) rfl ?_
    refine Ev_ldc (v := 2147483647) hq_94 (show decode prog_1_method_42_code 62 = .ok (.ldc 239, 2) by decide +kernel) rfl ?_
    refine Ev_icmp_ne (tgt := 71) hq_94 (show decode prog_1_method_42_code 64 = .ok (.if_icmp .ne 7, 3) by decide +kernel) (by decide) (fun c2 => ?_) (fun c2 => ?_)
    · have k := k.1 c2
      refine Ev_iload_n hq_94 (show decode prog_1_method_42_code 71 = .ok (.iload_n 2, 1) by decide +kernel) rfl ?_
      refine Ev_iload_n hq_94 (show decode prog_1_method_42_code 72 = .ok (.iload_n 1, 1) by decide +kernel) rfl ?_
      refine Ev_stat (as := [.int x2, .int x1]) hq_94 (show decode prog_1_method_42_code 73 = .ok (.invokestatic 236, 3) by decide +kernel) rfl (Or.inl rfl) hq_86 rfl (z_le rfl) (c_T_choiceOrCost x2 x1) ?_
      exact Ev_iret hq_94 (show decode prog_1_method_42_code 76 = .ok (.ireturn, 1) by decide +kernel) rfl k
    · have k := k.2 (Classical.not_not.mp c2)
      refine Ev_iconst (v := (-1)) hq_94 (show decode prog_1_method_42_code 67 = .ok (.iconst (-1), 1) by decide +kernel) (by decide) ?_
      refine Ev_goto (tgt := 76) hq_94 (show decode prog_1_method_42_code 68 = .ok (.goto 8, 3) by decide +kernel) (by decide) ?_
      exact Ev_iret hq_94 (show decode prog_1_method_42_code 76 = .ok (.ireturn, 1) by decide +kernel) rfl k
  · have k := k.2 c1
    refine Ev_aload_n hq_94 (show decode prog_1_method_42_code 28 = .ok (.aload_n 0, 1) by decide +kernel) rfl ?_
    refine Ev_getR hq_94 (show decode prog_1_method_42_code 29 = .ok (.getfield 10, 3) by decide +kernel) rfl (SGn hS (by decide)) (SGk hS rfl) (by decide) rfl (SGr hS rfl) ?_
    refine Ev_getR hq_94 (show decode prog_1_method_42_code 32 = .ok (.getfield 253, 3) by decide +kernel) rfl (SGn hS (by decide)) (SGk hS rfl) (by decide) rfl (SGr hS rfl) ?_
    refine Ev_iload_n hq_94 (show decode prog_1_method_42_code 35 = .ok (.iload_n 3, 1) by decide +kernel) rfl ?_
    obtain ⟨h3, k⟩ := k
    refine Ev_iald hq_94 (show decode prog_1_method_42_code 36 = .ok (.iaload, 1) by decide +kernel) (SGn hS (by decide)) (SGk hS rfl) (SGi hS rfl h3) ?_
    refine Ev_iconst (v := 1) hq_94 (show decode prog_1_method_42_code 37 = .ok (.iconst 1, 1) by decide +kernel) (by decide) ?_
    refine Ev_icmp_ne (tgt := 55) hq_94 (show decode prog_1_method_42_code 38 = .ok (.if_icmp .ne 17, 3) by decide +kernel) (by decide) (fun c4 => ?_) (fun c4 => ?_)
    · have k := k.1 c4
      obtain ⟨y5, ey5⟩ : ∃ y5 : Int32, y5 = x3 + 1 := ⟨_, rfl⟩
      have k := k y5 ey5
      refine Ev_iinc (v := y5) (lo2 := [.ref 0, .int x1, .int x2, .int y5]) hq_94 (show decode prog_1_method_42_code 55 = .ok (.iinc 3 1, 3) by decide +kernel) rfl (by rw [ey5]; rfl) rfl ?_
      refine Ev_goto (tgt := 17) hq_94 (show decode prog_1_method_42_code 58 = .ok (.goto (-41), 3) by decide +kernel) (by decide) ?_
      exact k
    · have k := k.2 (Classical.not_not.mp c4)
      refine Ev_iload_n hq_94 (show decode prog_1_method_42_code 41 = .ok (.iload_n 2, 1) by decide +kernel) rfl ?_
      refine Ev_aload_n hq_94 (show decode prog_1_method_42_code 42 = .ok (.aload_n 0, 1) by decide +kernel) rfl ?_
      refine Ev_iload_n hq_94 (show decode prog_1_method_42_code 43 = .ok (.iload_n 3, 1) by decide +kernel) rfl ?_
      obtain ⟨r8, I6, h7, k⟩ := k
      refine Ev_virt (as := [.int x3]) hq_94 (show decode prog_1_method_42_code 44 = .ok (.invokevirtual 256, 3) by decide +kernel) rfl hq_95 rfl (z_le rfl) ⟨(SGn hS (by decide)), (SGk hS rfl), by decide⟩ h7 ?_
      refine Ev_iload_n hq_94 (show decode prog_1_method_42_code 47 = .ok (.iload_n 3, 1) by decide +kernel) rfl ?_
      refine Ev_stat (as := [.int r8, .int x3]) hq_94 (show decode prog_1_method_42_code 48 = .ok (.invokestatic 243, 3) by decide +kernel) rfl (Or.inl rfl) hq_85 rfl (z_le rfl) (c_T_choice r8 x3) ?_
      refine Ev_min hq_94 (show decode prog_1_method_42_code 51 = .ok (.invokestatic 76, 3) by decide +kernel) rfl (z_le rfl) ?_
      obtain ⟨y9, ey9⟩ : ∃ y9 : Int32, y9 = (if (f_T_choice r8 x3) < x2 then (f_T_choice r8 x3) else x2) := ⟨_, rfl⟩
      have k := k y9 ey9
      rw [← ey9]
      refine Ev_istore_n (lo2 := [.ref 0, .int x1, .int y9, .int x3]) hq_94 (show decode prog_1_method_42_code 54 = .ok (.istore_n 2, 1) by decide +kernel) (z_le rfl) rfl ?_
      obtain ⟨y10, ey10⟩ : ∃ y10 : Int32, y10 = x3 + 1 := ⟨_, rfl⟩
      have k := k y10 ey10
      refine Ev_iinc (v := y10) (lo2 := [.ref 0, .int x1, .int y9, .int y10]) hq_94 (show decode prog_1_method_42_code 55 = .ok (.iinc 3 1, 3) by decide +kernel) rfl (by rw [ey10]; rfl) rfl ?_
      refine Ev_goto (tgt := 17) hq_94 (show decode prog_1_method_42_code 58 = .ok (.goto (-41), 3) by decide +kernel) (by decide) ?_
      exact k
set_option maxRecDepth 20000 in
theorem wp_T_liveWithStill {X : Nat × (Nat → Int32)} {d : Nat} {G : zG} {I : zI} {res : Option Value × zG × zI} (o : Nat) (x2 : Int32) (hS : SG G) 
    (k : ∃ (w3 : Nat) (I1 : zI), Cv X d 48 [.ref 0, .ref o] G I (some (.ref w3), G, I1) ∧ (∃ (I4 : zI), Cv X d 63 [.ref 25, .ref o, .ref w3, .int 30, .int x2] G I1 (none, G, I4) ∧ (res = (none, G, I4)))) :
    Ev X (d + 1) 97 0 [.ref 0, .ref o, .int x2] [] G I res := by
  refine Ev_aload_n hq_97 (show decode prog_1_method_24_code 0 = .ok (.aload_n 0, 1) by decide +kernel) rfl ?_
  refine Ev_getR hq_97 (show decode prog_1_method_24_code 1 = .ok (.getfield 29, 3) by decide +kernel) rfl (SGn hS (by decide)) (SGk hS rfl) (by decide) rfl (SGr hS rfl) ?_
  refine Ev_aload_n hq_97 (show decode prog_1_method_24_code 4 = .ok (.aload_n 1, 1) by decide +kernel) rfl ?_
  refine Ev_aload_n hq_97 (show decode prog_1_method_24_code 5 = .ok (.aload_n 0, 1) by decide +kernel) rfl ?_
  refine Ev_aload_n hq_97 (show decode prog_1_method_24_code 6 = .ok (.aload_n 1, 1) by decide +kernel) rfl ?_
  obtain ⟨w3, I1, h2, k⟩ := k
  refine Ev_virt (as := [.ref o]) hq_97 (show decode prog_1_method_24_code 7 = .ok (.invokevirtual 130, 3) by decide +kernel) rfl hq_48 rfl (z_le rfl) ⟨(SGn hS (by decide)), (SGk hS rfl), by decide⟩ h2 ?_
  refine Ev_bipush (v := 30) hq_97 (show decode prog_1_method_24_code 10 = .ok (.bipush 30, 2) by decide +kernel) (by decide) ?_
  refine Ev_iload_n hq_97 (show decode prog_1_method_24_code 12 = .ok (.iload_n 2, 1) by decide +kernel) rfl ?_
  obtain ⟨I4, h5, k⟩ := k
  refine Ev_virt (as := [.ref o, .ref w3, .int 30, .int x2]) hq_97 (show decode prog_1_method_24_code 13 = .ok (.invokevirtual 181, 3) by decide +kernel) rfl hq_63 rfl (z_le rfl) ⟨(SGn hS (by decide)), (SGk hS rfl), by decide⟩ h5 ?_
  exact Ev_vret hq_97 (show decode prog_1_method_24_code 16 = .ok (.return_, 1) by decide +kernel) k
set_option maxRecDepth 20000 in
theorem wp_T_stills {X : Nat × (Nat → Int32)} {d : Nat} {G : zG} {I : zI} {res : Option Value × zG × zI} (x1 : Int32) (hd : 1 ≤ d) (hS : SG G) 
    (k : (¬ (f_T_isShower I x1) = 0 → ∃ (I2 : zI), Cv X d 97 [.ref 0, .ref 1, .int x1] G I (none, G, I2) ∧ (∃ (r6 : Int32) (I4 : zI), Cv X d 76 [.ref 25, .int (I2 1 7)] G I2 (some (.int r6), G, I4) ∧ (z_inr x1 4 ∧ (∀ y8 : Int32, y8 = (r6 - (I4 36 x1.toNatClampNeg)) → ∃ (I9 : zI), Cv X d 62 [.ref 0, .ref 1] G I4 (none, G, I9) ∧ (∃ (r13 : Int32) (I11 : zI), Cv X d 76 [.ref 25, .int (I9 1 7)] G I9 (some (.int r13), G, I11) ∧ (z_inr x1 4 ∧ (res = (some (.int (y8 - (r13 - (I11 36 x1.toNatClampNeg)))), G, I11)))))))) ∧ ((f_T_isShower I x1) = 0 → res = (some (.int (-100000)), G, I))) :
    Ev X (d + 1) 96 0 [.ref 0, .int x1, zU] [] G I res := by
  refine Ev_aload_n hq_96 (show decode prog_1_method_44_code 0 = .ok (.aload_n 0, 1) by decide +kernel) rfl ?_
  refine Ev_iload_n hq_96 (show decode prog_1_method_44_code 1 = .ok (.iload_n 1, 1) by decide +kernel) rfl ?_
  refine Ev_virt (as := [.int x1]) hq_96 (show decode prog_1_method_44_code 2 = .ok (.invokevirtual 120, 3) by decide +kernel) rfl hq_45 rfl (z_le rfl) ⟨(SGn hS (by decide)), (SGk hS rfl), by decide⟩ (c_T_isShower (by omega) hS x1) ?_
  refine Ev_if_ne (tgt := 11) hq_96 (show decode prog_1_method_44_code 5 = .ok (.ifCond .ne 6, 3) by decide +kernel) (by decide) (fun c1 => ?_) (fun c1 => ?_)
  · have k := k.1 c1
    refine Ev_aload_n hq_96 (show decode prog_1_method_44_code 11 = .ok (.aload_n 0, 1) by decide +kernel) rfl ?_
    refine Ev_aload_n hq_96 (show decode prog_1_method_44_code 12 = .ok (.aload_n 0, 1) by decide +kernel) rfl ?_
    refine Ev_getR hq_96 (show decode prog_1_method_44_code 13 = .ok (.getfield 10, 3) by decide +kernel) rfl (SGn hS (by decide)) (SGk hS rfl) (by decide) rfl (SGr hS rfl) ?_
    refine Ev_iload_n hq_96 (show decode prog_1_method_44_code 16 = .ok (.iload_n 1, 1) by decide +kernel) rfl ?_
    obtain ⟨I2, h3, k⟩ := k
    refine Ev_virt (as := [.ref 1, .int x1]) hq_96 (show decode prog_1_method_44_code 17 = .ok (.invokevirtual 259, 3) by decide +kernel) rfl hq_97 rfl (z_le rfl) ⟨(SGn hS (by decide)), (SGk hS rfl), by decide⟩ h3 ?_
    refine Ev_aload_n hq_96 (show decode prog_1_method_44_code 20 = .ok (.aload_n 0, 1) by decide +kernel) rfl ?_
    refine Ev_getR hq_96 (show decode prog_1_method_44_code 21 = .ok (.getfield 29, 3) by decide +kernel) rfl (SGn hS (by decide)) (SGk hS rfl) (by decide) rfl (SGr hS rfl) ?_
    refine Ev_aload_n hq_96 (show decode prog_1_method_44_code 24 = .ok (.aload_n 0, 1) by decide +kernel) rfl ?_
    refine Ev_getR hq_96 (show decode prog_1_method_44_code 25 = .ok (.getfield 10, 3) by decide +kernel) rfl (SGn hS (by decide)) (SGk hS rfl) (by decide) rfl (SGr hS rfl) ?_
    refine Ev_getI hq_96 (show decode prog_1_method_44_code 28 = .ok (.getfield 100, 3) by decide +kernel) rfl (SGn hS (by decide)) (SGk hS rfl) (by decide) rfl ?_
    obtain ⟨r6, I4, h5, k⟩ := k
    refine Ev_virt (as := [.int (I2 1 7)]) hq_96 (show decode prog_1_method_44_code 31 = .ok (.invokevirtual 218, 3) by decide +kernel) rfl hq_76 rfl (z_le rfl) ⟨(SGn hS (by decide)), (SGk hS rfl), by decide⟩ h5 ?_
    refine Ev_aload_n hq_96 (show decode prog_1_method_44_code 34 = .ok (.aload_n 0, 1) by decide +kernel) rfl ?_
    refine Ev_getR hq_96 (show decode prog_1_method_44_code 35 = .ok (.getfield 29, 3) by decide +kernel) rfl (SGn hS (by decide)) (SGk hS rfl) (by decide) rfl (SGr hS rfl) ?_
    refine Ev_getR hq_96 (show decode prog_1_method_44_code 38 = .ok (.getfield 200, 3) by decide +kernel) rfl (SGn hS (by decide)) (SGk hS rfl) (by decide) rfl (SGr hS rfl) ?_
    refine Ev_iload_n hq_96 (show decode prog_1_method_44_code 41 = .ok (.iload_n 1, 1) by decide +kernel) rfl ?_
    obtain ⟨h7, k⟩ := k
    refine Ev_iald hq_96 (show decode prog_1_method_44_code 42 = .ok (.iaload, 1) by decide +kernel) (SGn hS (by decide)) (SGk hS rfl) (SGi hS rfl h7) ?_
    refine Ev_isub hq_96 (show decode prog_1_method_44_code 43 = .ok (.isub, 1) by decide +kernel) ?_
    obtain ⟨y8, ey8⟩ : ∃ y8 : Int32, y8 = (r6 - (I4 36 x1.toNatClampNeg)) := ⟨_, rfl⟩
    have k := k y8 ey8
    rw [← ey8]
    refine Ev_istore_n (lo2 := [.ref 0, .int x1, .int y8]) hq_96 (show decode prog_1_method_44_code 44 = .ok (.istore_n 2, 1) by decide +kernel) (z_le rfl) rfl ?_
    refine Ev_aload_n hq_96 (show decode prog_1_method_44_code 45 = .ok (.aload_n 0, 1) by decide +kernel) rfl ?_
    refine Ev_aload_n hq_96 (show decode prog_1_method_44_code 46 = .ok (.aload_n 0, 1) by decide +kernel) rfl ?_
    refine Ev_getR hq_96 (show decode prog_1_method_44_code 47 = .ok (.getfield 10, 3) by decide +kernel) rfl (SGn hS (by decide)) (SGk hS rfl) (by decide) rfl (SGr hS rfl) ?_
    obtain ⟨I9, h10, k⟩ := k
    refine Ev_virt (as := [.ref 1]) hq_96 (show decode prog_1_method_44_code 50 = .ok (.invokevirtual 187, 3) by decide +kernel) rfl hq_62 rfl (z_le rfl) ⟨(SGn hS (by decide)), (SGk hS rfl), by decide⟩ h10 ?_
    refine Ev_iload_n hq_96 (show decode prog_1_method_44_code 53 = .ok (.iload_n 2, 1) by decide +kernel) rfl ?_
    refine Ev_aload_n hq_96 (show decode prog_1_method_44_code 54 = .ok (.aload_n 0, 1) by decide +kernel) rfl ?_
    refine Ev_getR hq_96 (show decode prog_1_method_44_code 55 = .ok (.getfield 29, 3) by decide +kernel) rfl (SGn hS (by decide)) (SGk hS rfl) (by decide) rfl (SGr hS rfl) ?_
    refine Ev_aload_n hq_96 (show decode prog_1_method_44_code 58 = .ok (.aload_n 0, 1) by decide +kernel) rfl ?_
    refine Ev_getR hq_96 (show decode prog_1_method_44_code 59 = .ok (.getfield 10, 3) by decide +kernel) rfl (SGn hS (by decide)) (SGk hS rfl) (by decide) rfl (SGr hS rfl) ?_
    refine Ev_getI hq_96 (show decode prog_1_method_44_code 62 = .ok (.getfield 100, 3) by decide +kernel) rfl (SGn hS (by decide)) (SGk hS rfl) (by decide) rfl ?_
    obtain ⟨r13, I11, h12, k⟩ := k
    refine Ev_virt (as := [.int (I9 1 7)]) hq_96 (show decode prog_1_method_44_code 65 = .ok (.invokevirtual 218, 3) by decide +kernel) rfl hq_76 rfl (z_le rfl) ⟨(SGn hS (by decide)), (SGk hS rfl), by decide⟩ h12 ?_
    refine Ev_aload_n hq_96 (show decode prog_1_method_44_code 68 = .ok (.aload_n 0, 1) by decide +kernel) rfl ?_
    refine Ev_getR hq_96 (show decode prog_1_method_44_code 69 = .ok (.getfield 29, 3) by decide +kernel) rfl (SGn hS (by decide)) (SGk hS rfl) (by decide) rfl (SGr hS rfl) ?_
    refine Ev_getR hq_96 (show decode prog_1_method_44_code 72 = .ok (.getfield 200, 3) by decide +kernel) rfl (SGn hS (by decide)) (SGk hS rfl) (by decide) rfl (SGr hS rfl) ?_
    refine Ev_iload_n hq_96 (show decode prog_1_method_44_code 75 = .ok (.iload_n 1, 1) by decide +kernel) rfl ?_
    obtain ⟨h14, k⟩ := k
    refine Ev_iald hq_96 (show decode prog_1_method_44_code 76 = .ok (.iaload, 1) by decide +kernel) (SGn hS (by decide)) (SGk hS rfl) (SGi hS rfl h14) ?_
    refine Ev_isub hq_96 (show decode prog_1_method_44_code 77 = .ok (.isub, 1) by decide +kernel) ?_
    refine Ev_isub hq_96 (show decode prog_1_method_44_code 78 = .ok (.isub, 1) by decide +kernel) ?_
    exact Ev_iret hq_96 (show decode prog_1_method_44_code 79 = .ok (.ireturn, 1) by decide +kernel) rfl k
  · have k := k.2 (Classical.not_not.mp c1)
    refine Ev_ldc (v := (-100000)) hq_96 (show decode prog_1_method_44_code 8 = .ok (.ldc 185, 2) by decide +kernel) rfl ?_
    exact Ev_iret hq_96 (show decode prog_1_method_44_code 10 = .ok (.ireturn, 1) by decide +kernel) rfl k
set_option maxRecDepth 20000 in
theorem wp_T_leave {X : Nat × (Nat → Int32)} {d : Nat} {G : zG} {I : zI} {res : Option Value × zG × zI} (x1 : Int32) (x2 : Int32) (hd : 1 ≤ d) (hS : SG G) 
    (k : (¬ (f_T_isShower I x1) = 0 → (¬ (f_T_within x2 0 1) = 0 → ∃ (I3 : zI), Cv X d 83 [.ref 9, .ref 1] G I (none, G, I3) ∧ (Ev X (d + 1) 98 40 [.ref 0, .int x1, .int x2, .int 2147483647, .int 0] [] G I3 res)) ∧ ((f_T_within x2 0 1) = 0 → res = (some (.int (-7)), G, I))) ∧ ((f_T_isShower I x1) = 0 → res = (some (.int (-5)), G, I))) :
    Ev X (d + 1) 98 0 [.ref 0, .int x1, .int x2, zU, zU] [] G I res := by
  refine Ev_aload_n hq_98 (show decode prog_1_method_45_code 0 = .ok (.aload_n 0, 1) by decide +kernel) rfl ?_
  refine Ev_iload_n hq_98 (show decode prog_1_method_45_code 1 = .ok (.iload_n 1, 1) by decide +kernel) rfl ?_
  refine Ev_virt (as := [.int x1]) hq_98 (show decode prog_1_method_45_code 2 = .ok (.invokevirtual 120, 3) by decide +kernel) rfl hq_45 rfl (z_le rfl) ⟨(SGn hS (by decide)), (SGk hS rfl), by decide⟩ (c_T_isShower (by omega) hS x1) ?_
  refine Ev_if_ne (tgt := 11) hq_98 (show decode prog_1_method_45_code 5 = .ok (.ifCond .ne 6, 3) by decide +kernel) (by decide) (fun c1 => ?_) (fun c1 => ?_)
  · have k := k.1 c1
    refine Ev_iload_n hq_98 (show decode prog_1_method_45_code 11 = .ok (.iload_n 2, 1) by decide +kernel) rfl ?_
    refine Ev_iconst (v := 0) hq_98 (show decode prog_1_method_45_code 12 = .ok (.iconst 0, 1) by decide +kernel) (by decide) ?_
    refine Ev_iconst (v := 1) hq_98 (show decode prog_1_method_45_code 13 = .ok (.iconst 1, 1) by decide +kernel) (by decide) ?_
    refine Ev_stat (as := [.int x2, .int 0, .int 1]) hq_98 (show decode prog_1_method_45_code 14 = .ok (.invokestatic 108, 3) by decide +kernel) rfl (Or.inl rfl) hq_32 rfl (z_le rfl) (c_T_within x2 0 1) ?_
    refine Ev_if_ne (tgt := 23) hq_98 (show decode prog_1_method_45_code 17 = .ok (.ifCond .ne 6, 3) by decide +kernel) (by decide) (fun c2 => ?_) (fun c2 => ?_)
    · have k := k.1 c2
      refine Ev_aload_n hq_98 (show decode prog_1_method_45_code 23 = .ok (.aload_n 0, 1) by decide +kernel) rfl ?_
      refine Ev_getR hq_98 (show decode prog_1_method_45_code 24 = .ok (.getfield 16, 3) by decide +kernel) rfl (SGn hS (by decide)) (SGk hS rfl) (by decide) rfl (SGr hS rfl) ?_
      refine Ev_aload_n hq_98 (show decode prog_1_method_45_code 27 = .ok (.aload_n 0, 1) by decide +kernel) rfl ?_
      refine Ev_getR hq_98 (show decode prog_1_method_45_code 28 = .ok (.getfield 10, 3) by decide +kernel) rfl (SGn hS (by decide)) (SGk hS rfl) (by decide) rfl (SGr hS rfl) ?_
      obtain ⟨I3, h4, k⟩ := k
      refine Ev_virt (as := [.ref 1]) hq_98 (show decode prog_1_method_45_code 31 = .ok (.invokevirtual 230, 3) by decide +kernel) rfl hq_83 rfl (z_le rfl) ⟨(SGn hS (by decide)), (SGk hS rfl), by decide⟩ h4 ?_
      refine Ev_ldc (v := 2147483647) hq_98 (show decode prog_1_method_45_code 34 = .ok (.ldc 239, 2) by decide +kernel) rfl ?_
      refine Ev_istore_n (lo2 := [.ref 0, .int x1, .int x2, .int 2147483647, zU]) hq_98 (show decode prog_1_method_45_code 36 = .ok (.istore_n 3, 1) by decide +kernel) (z_le rfl) rfl ?_
      refine Ev_iconst (v := 0) hq_98 (show decode prog_1_method_45_code 37 = .ok (.iconst 0, 1) by decide +kernel) (by decide) ?_
      refine Ev_istore (lo2 := [.ref 0, .int x1, .int x2, .int 2147483647, .int 0]) hq_98 (show decode prog_1_method_45_code 38 = .ok (.istore 4, 2) by decide +kernel) (z_le rfl) rfl ?_
      exact k
    · have k := k.2 (Classical.not_not.mp c2)
      refine Ev_bipush (v := (-7)) hq_98 (show decode prog_1_method_45_code 20 = .ok (.bipush (-7), 2) by decide +kernel) (by decide) ?_
      exact Ev_iret hq_98 (show decode prog_1_method_45_code 22 = .ok (.ireturn, 1) by decide +kernel) rfl k
  · have k := k.2 (Classical.not_not.mp c1)
    refine Ev_bipush (v := (-5)) hq_98 (show decode prog_1_method_45_code 8 = .ok (.bipush (-5), 2) by decide +kernel) (by decide) ?_
    exact Ev_iret hq_98 (show decode prog_1_method_45_code 10 = .ok (.ireturn, 1) by decide +kernel) rfl k
set_option maxRecDepth 20000 in
theorem wp_T_leave_40 {X : Nat × (Nat → Int32)} {d : Nat} {G : zG} {I : zI} {res : Option Value × zG × zI} (x1 : Int32) (x2 : Int32) (x3 : Int32) (x4 : Int32) (hS : SG G) 
    (k : (990 < x4 → res = (some (.int (f_T_choiceOrCost x3 x2)), G, I)) ∧ (¬ 990 < x4 → z_inr x1 4 ∧ (∀ I3 : zI, I3 = z_up I 14 x1.toNatClampNeg x4 → ∃ (I4 : zI), Cv X d 97 [.ref 0, .ref 9, .int x1] G I3 (none, G, I4) ∧ (z_inr x1 4 ∧ (∀ y7 : Int32, y7 = (if (f_T_choice (I4 36 x1.toNatClampNeg) x4) < x3 then (f_T_choice (I4 36 x1.toNatClampNeg) x4) else x3) → ∀ y8 : Int32, y8 = x4 + 10 → Ev X (d + 1) 98 40 [.ref 0, .int x1, .int x2, .int y7, .int y8] [] G I4 res))))) :
    Ev X (d + 1) 98 40 [.ref 0, .int x1, .int x2, .int x3, .int x4] [] G I res := by
  refine Ev_iload hq_98 (show decode prog_1_method_45_code 40 = .ok (.iload 4, 2) by decide +kernel) rfl ?_
  refine Ev_sipush (v := 990) hq_98 (show decode prog_1_method_45_code 42 = .ok (.sipush 990, 3) by decide +kernel) (by decide) ?_
  refine Ev_icmp_gt (tgt := 93) hq_98 (show decode prog_1_method_45_code 45 = .ok (.if_icmp .gt 48, 3) by decide +kernel) (by decide) (fun c1 => ?_) (fun c1 => ?_)
  · have k := k.1 c1
    refine Ev_iload_n hq_98 (show decode prog_1_method_45_code 93 = .ok (.iload_n 3, 1) by decide +kernel) rfl ?_
    refine Ev_iload_n hq_98 (show decode prog_1_method_45_code 94 = .ok (.iload_n 2, 1) by decide +kernel) rfl ?_
    refine Ev_stat (as := [.int x3, .int x2]) hq_98 (show decode prog_1_method_45_code 95 = .ok (.invokestatic 236, 3) by decide +kernel) rfl (Or.inl rfl) hq_86 rfl (z_le rfl) (c_T_choiceOrCost x3 x2) ?_
    exact Ev_iret hq_98 (show decode prog_1_method_45_code 98 = .ok (.ireturn, 1) by decide +kernel) rfl k
  · have k := k.2 c1
    refine Ev_aload_n hq_98 (show decode prog_1_method_45_code 48 = .ok (.aload_n 0, 1) by decide +kernel) rfl ?_
    refine Ev_getR hq_98 (show decode prog_1_method_45_code 49 = .ok (.getfield 16, 3) by decide +kernel) rfl (SGn hS (by decide)) (SGk hS rfl) (by decide) rfl (SGr hS rfl) ?_
    refine Ev_getR hq_98 (show decode prog_1_method_45_code 52 = .ok (.getfield 227, 3) by decide +kernel) rfl (SGn hS (by decide)) (SGk hS rfl) (by decide) rfl (SGr hS rfl) ?_
    refine Ev_iload_n hq_98 (show decode prog_1_method_45_code 55 = .ok (.iload_n 1, 1) by decide +kernel) rfl ?_
    refine Ev_iload hq_98 (show decode prog_1_method_45_code 56 = .ok (.iload 4, 2) by decide +kernel) rfl ?_
    obtain ⟨h2, k⟩ := k
    refine Ev_iast hq_98 (show decode prog_1_method_45_code 58 = .ok (.iastore, 1) by decide +kernel) (SGn hS (by decide)) (SGk hS rfl) (SGi hS rfl h2) ?_
    obtain ⟨I3, eI3⟩ : ∃ I3 : zI, I3 = z_up I 14 x1.toNatClampNeg x4 := ⟨_, rfl⟩
    have k := k I3 eI3
    rw [← eI3]
    refine Ev_aload_n hq_98 (show decode prog_1_method_45_code 59 = .ok (.aload_n 0, 1) by decide +kernel) rfl ?_
    refine Ev_aload_n hq_98 (show decode prog_1_method_45_code 60 = .ok (.aload_n 0, 1) by decide +kernel) rfl ?_
    refine Ev_getR hq_98 (show decode prog_1_method_45_code 61 = .ok (.getfield 16, 3) by decide +kernel) rfl (SGn hS (by decide)) (SGk hS rfl) (by decide) rfl (SGr hS rfl) ?_
    refine Ev_iload_n hq_98 (show decode prog_1_method_45_code 64 = .ok (.iload_n 1, 1) by decide +kernel) rfl ?_
    obtain ⟨I4, h5, k⟩ := k
    refine Ev_virt (as := [.ref 9, .int x1]) hq_98 (show decode prog_1_method_45_code 65 = .ok (.invokevirtual 259, 3) by decide +kernel) rfl hq_97 rfl (z_le rfl) ⟨(SGn hS (by decide)), (SGk hS rfl), by decide⟩ h5 ?_
    refine Ev_iload_n hq_98 (show decode prog_1_method_45_code 68 = .ok (.iload_n 3, 1) by decide +kernel) rfl ?_
    refine Ev_aload_n hq_98 (show decode prog_1_method_45_code 69 = .ok (.aload_n 0, 1) by decide +kernel) rfl ?_
    refine Ev_getR hq_98 (show decode prog_1_method_45_code 70 = .ok (.getfield 29, 3) by decide +kernel) rfl (SGn hS (by decide)) (SGk hS rfl) (by decide) rfl (SGr hS rfl) ?_
    refine Ev_getR hq_98 (show decode prog_1_method_45_code 73 = .ok (.getfield 200, 3) by decide +kernel) rfl (SGn hS (by decide)) (SGk hS rfl) (by decide) rfl (SGr hS rfl) ?_
    refine Ev_iload_n hq_98 (show decode prog_1_method_45_code 76 = .ok (.iload_n 1, 1) by decide +kernel) rfl ?_
    obtain ⟨h6, k⟩ := k
    refine Ev_iald hq_98 (show decode prog_1_method_45_code 77 = .ok (.iaload, 1) by decide +kernel) (SGn hS (by decide)) (SGk hS rfl) (SGi hS rfl h6) ?_
    refine Ev_iload hq_98 (show decode prog_1_method_45_code 78 = .ok (.iload 4, 2) by decide +kernel) rfl ?_
    refine Ev_stat (as := [.int (I4 36 x1.toNatClampNeg), .int x4]) hq_98 (show decode prog_1_method_45_code 80 = .ok (.invokestatic 243, 3) by decide +kernel) rfl (Or.inl rfl) hq_85 rfl (z_le rfl) (c_T_choice (I4 36 x1.toNatClampNeg) x4) ?_
    refine Ev_min hq_98 (show decode prog_1_method_45_code 83 = .ok (.invokestatic 76, 3) by decide +kernel) rfl (z_le rfl) ?_
    obtain ⟨y7, ey7⟩ : ∃ y7 : Int32, y7 = (if (f_T_choice (I4 36 x1.toNatClampNeg) x4) < x3 then (f_T_choice (I4 36 x1.toNatClampNeg) x4) else x3) := ⟨_, rfl⟩
    have k := k y7 ey7
    rw [← ey7]
    refine Ev_istore_n (lo2 := [.ref 0, .int x1, .int x2, .int y7, .int x4]) hq_98 (show decode prog_1_method_45_code 86 = .ok (.istore_n 3, 1) by decide +kernel) (z_le rfl) rfl ?_
    obtain ⟨y8, ey8⟩ : ∃ y8 : Int32, y8 = x4 + 10 := ⟨_, rfl⟩
    have k := k y8 ey8
    refine Ev_iinc (v := y8) (lo2 := [.ref 0, .int x1, .int x2, .int y7, .int y8]) hq_98 (show decode prog_1_method_45_code 87 = .ok (.iinc 4 10, 3) by decide +kernel) rfl (by rw [ey8]; rfl) rfl ?_
    refine Ev_goto (tgt := 40) hq_98 (show decode prog_1_method_45_code 90 = .ok (.goto (-50), 3) by decide +kernel) (by decide) ?_
    exact k
set_option maxRecDepth 20000 in
theorem wp_T_isSheet {X : Nat × (Nat → Int32)} {d : Nat} {G : zG} {I : zI} {res : Option Value × zG × zI} (x0 : Int32) 
    (k : res = (some (.int (f_T_within x0 0 3)), G, I)) :
    Ev X (d + 1) 102 0 [.int x0] [] G I res := by
  refine Ev_iload_n hq_102 (show decode prog_1_method_66_code 0 = .ok (.iload_n 0, 1) by decide +kernel) rfl ?_
  refine Ev_iconst (v := 0) hq_102 (show decode prog_1_method_66_code 1 = .ok (.iconst 0, 1) by decide +kernel) (by decide) ?_
  refine Ev_iconst (v := 3) hq_102 (show decode prog_1_method_66_code 2 = .ok (.iconst 3, 1) by decide +kernel) (by decide) ?_
  refine Ev_stat (as := [.int x0, .int 0, .int 3]) hq_102 (show decode prog_1_method_66_code 3 = .ok (.invokestatic 108, 3) by decide +kernel) rfl (Or.inl rfl) hq_32 rfl (z_le rfl) (c_T_within x0 0 3) ?_
  exact Ev_iret hq_102 (show decode prog_1_method_66_code 6 = .ok (.ireturn, 1) by decide +kernel) (z_nb (b_T_within x0 0 3)) k
def f_T_isSheet (x0 : Int32) : Int32 := (f_T_within x0 0 3)
theorem c_T_isSheet {X : Nat × (Nat → Int32)} {d : Nat} {G : zG} {I : zI} (hd : 1 ≤ d) (x0 : Int32) : Cv X d 102 [.int x0] G I (some (.int (f_T_isSheet x0)), G, I) := by
  obtain ⟨d, rfl⟩ : ∃ e, d = e + 1 := ⟨d - 1, by omega⟩
  exact Cv.of hq_102 (z_le rfl) rfl (wp_T_isSheet x0 (by rfl))
theorem b_T_isSheet (x0 : Int32) : f_T_isSheet x0 = 0 ∨ f_T_isSheet x0 = 1 := by
  unfold f_T_isSheet
  repeat (any_goals split)
  all_goals first | exact Or.inl rfl | exact Or.inr rfl | exact b_T_within ..
set_option maxRecDepth 20000 in
theorem wp_T_sheetRefusal {X : Nat × (Nat → Int32)} {d : Nat} {G : zG} {I : zI} {res : Option Value × zG × zI} (x1 : Int32) (hd : 1 ≤ d) (hS : SG G) 
    (k : (¬ (f_T_isSheet x1) = 0 → z_inr x1 4 ∧ ((¬ (I 50 x1.toNatClampNeg) = (-1) → z_inr x1 4 ∧ (((I 51 x1.toNatClampNeg) ≤ 30 → res = (some (.int 0), G, I)) ∧ (¬ (I 51 x1.toNatClampNeg) ≤ 30 → res = (some (.int (-2)), G, I)))) ∧ ((I 50 x1.toNatClampNeg) = (-1) → res = (some (.int (-11)), G, I)))) ∧ ((f_T_isSheet x1) = 0 → res = (some (.int (-2)), G, I))) :
    Ev X (d + 1) 101 0 [.ref 0, .int x1] [] G I res := by
  refine Ev_iload_n hq_101 (show decode prog_1_method_47_code 0 = .ok (.iload_n 1, 1) by decide +kernel) rfl ?_
  refine Ev_stat (as := [.int x1]) hq_101 (show decode prog_1_method_47_code 1 = .ok (.invokestatic 269, 3) by decide +kernel) rfl (Or.inl rfl) hq_102 rfl (z_le rfl) (c_T_isSheet (by omega) x1) ?_
  refine Ev_if_ne (tgt := 10) hq_101 (show decode prog_1_method_47_code 4 = .ok (.ifCond .ne 6, 3) by decide +kernel) (by decide) (fun c1 => ?_) (fun c1 => ?_)
  · have k := k.1 c1
    refine Ev_aload_n hq_101 (show decode prog_1_method_47_code 10 = .ok (.aload_n 0, 1) by decide +kernel) rfl ?_
    refine Ev_getR hq_101 (show decode prog_1_method_47_code 11 = .ok (.getfield 62, 3) by decide +kernel) rfl (SGn hS (by decide)) (SGk hS rfl) (by decide) rfl (SGr hS rfl) ?_
    refine Ev_iload_n hq_101 (show decode prog_1_method_47_code 14 = .ok (.iload_n 1, 1) by decide +kernel) rfl ?_
    obtain ⟨h2, k⟩ := k
    refine Ev_iald hq_101 (show decode prog_1_method_47_code 15 = .ok (.iaload, 1) by decide +kernel) (SGn hS (by decide)) (SGk hS rfl) (SGi hS rfl h2) ?_
    refine Ev_iconst (v := (-1)) hq_101 (show decode prog_1_method_47_code 16 = .ok (.iconst (-1), 1) by decide +kernel) (by decide) ?_
    refine Ev_icmp_ne (tgt := 23) hq_101 (show decode prog_1_method_47_code 17 = .ok (.if_icmp .ne 6, 3) by decide +kernel) (by decide) (fun c3 => ?_) (fun c3 => ?_)
    · have k := k.1 c3
      refine Ev_aload_n hq_101 (show decode prog_1_method_47_code 23 = .ok (.aload_n 0, 1) by decide +kernel) rfl ?_
      refine Ev_getR hq_101 (show decode prog_1_method_47_code 24 = .ok (.getfield 65, 3) by decide +kernel) rfl (SGn hS (by decide)) (SGk hS rfl) (by decide) rfl (SGr hS rfl) ?_
      refine Ev_iload_n hq_101 (show decode prog_1_method_47_code 27 = .ok (.iload_n 1, 1) by decide +kernel) rfl ?_
      obtain ⟨h4, k⟩ := k
      refine Ev_iald hq_101 (show decode prog_1_method_47_code 28 = .ok (.iaload, 1) by decide +kernel) (SGn hS (by decide)) (SGk hS rfl) (SGi hS rfl h4) ?_
      refine Ev_bipush (v := 30) hq_101 (show decode prog_1_method_47_code 29 = .ok (.bipush 30, 2) by decide +kernel) (by decide) ?_
      refine Ev_icmp_le (tgt := 39) hq_101 (show decode prog_1_method_47_code 31 = .ok (.if_icmp .le 8, 3) by decide +kernel) (by decide) (fun c5 => ?_) (fun c5 => ?_)
      · have k := k.1 c5
        refine Ev_iconst (v := 0) hq_101 (show decode prog_1_method_47_code 39 = .ok (.iconst 0, 1) by decide +kernel) (by decide) ?_
        exact Ev_iret hq_101 (show decode prog_1_method_47_code 40 = .ok (.ireturn, 1) by decide +kernel) rfl k
      · have k := k.2 c5
        refine Ev_bipush (v := (-2)) hq_101 (show decode prog_1_method_47_code 34 = .ok (.bipush (-2), 2) by decide +kernel) (by decide) ?_
        refine Ev_goto (tgt := 40) hq_101 (show decode prog_1_method_47_code 36 = .ok (.goto 4, 3) by decide +kernel) (by decide) ?_
        exact Ev_iret hq_101 (show decode prog_1_method_47_code 40 = .ok (.ireturn, 1) by decide +kernel) rfl k
    · have k := k.2 (Classical.not_not.mp c3)
      refine Ev_bipush (v := (-11)) hq_101 (show decode prog_1_method_47_code 20 = .ok (.bipush (-11), 2) by decide +kernel) (by decide) ?_
      exact Ev_iret hq_101 (show decode prog_1_method_47_code 22 = .ok (.ireturn, 1) by decide +kernel) rfl k
  · have k := k.2 (Classical.not_not.mp c1)
    refine Ev_bipush (v := (-2)) hq_101 (show decode prog_1_method_47_code 7 = .ok (.bipush (-2), 2) by decide +kernel) (by decide) ?_
    exact Ev_iret hq_101 (show decode prog_1_method_47_code 9 = .ok (.ireturn, 1) by decide +kernel) rfl k
set_option maxRecDepth 20000 in
theorem wp_T_filmRefusal {X : Nat × (Nat → Int32)} {d : Nat} {G : zG} {I : zI} {res : Option Value × zG × zI} (x1 : Int32) (x2 : Int32) (hd : 1 ≤ d) (hS : SG G) 
    (k : ∃ (r3 : Int32) (I1 : zI), Cv X d 101 [.ref 0, .int x1] G I (some (.int r3), G, I1) ∧ ((r3 = 0 → ((f_T_isShower I1 x2) = 0 → res = (some (.int (-5)), G, I1)) ∧ (¬ (f_T_isShower I1 x2) = 0 → res = (some (.int 0), G, I1))) ∧ (¬ r3 = 0 → res = (some (.int r3), G, I1)))) :
    Ev X (d + 1) 100 0 [.ref 0, .int x1, .int x2, zU] [] G I res := by
  refine Ev_aload_n hq_100 (show decode prog_1_method_48_code 0 = .ok (.aload_n 0, 1) by decide +kernel) rfl ?_
  refine Ev_iload_n hq_100 (show decode prog_1_method_48_code 1 = .ok (.iload_n 1, 1) by decide +kernel) rfl ?_
  obtain ⟨r3, I1, h2, k⟩ := k
  refine Ev_virt (as := [.int x1]) hq_100 (show decode prog_1_method_48_code 2 = .ok (.invokevirtual 272, 3) by decide +kernel) rfl hq_101 rfl (z_le rfl) ⟨(SGn hS (by decide)), (SGk hS rfl), by decide⟩ h2 ?_
  refine Ev_istore_n (lo2 := [.ref 0, .int x1, .int x2, .int r3]) hq_100 (show decode prog_1_method_48_code 5 = .ok (.istore_n 3, 1) by decide +kernel) (z_le rfl) rfl ?_
  refine Ev_iload_n hq_100 (show decode prog_1_method_48_code 6 = .ok (.iload_n 3, 1) by decide +kernel) rfl ?_
  refine Ev_if_eq (tgt := 12) hq_100 (show decode prog_1_method_48_code 7 = .ok (.ifCond .eq 5, 3) by decide +kernel) (by decide) (fun c4 => ?_) (fun c4 => ?_)
  · have k := k.1 c4
    refine Ev_aload_n hq_100 (show decode prog_1_method_48_code 12 = .ok (.aload_n 0, 1) by decide +kernel) rfl ?_
    refine Ev_iload_n hq_100 (show decode prog_1_method_48_code 13 = .ok (.iload_n 2, 1) by decide +kernel) rfl ?_
    refine Ev_virt (as := [.int x2]) hq_100 (show decode prog_1_method_48_code 14 = .ok (.invokevirtual 120, 3) by decide +kernel) rfl hq_45 rfl (z_le rfl) ⟨(SGn hS (by decide)), (SGk hS rfl), by decide⟩ (c_T_isShower (by omega) hS x2) ?_
    refine Ev_if_eq (tgt := 24) hq_100 (show decode prog_1_method_48_code 17 = .ok (.ifCond .eq 7, 3) by decide +kernel) (by decide) (fun c5 => ?_) (fun c5 => ?_)
    · have k := k.1 c5
      refine Ev_bipush (v := (-5)) hq_100 (show decode prog_1_method_48_code 24 = .ok (.bipush (-5), 2) by decide +kernel) (by decide) ?_
      exact Ev_iret hq_100 (show decode prog_1_method_48_code 26 = .ok (.ireturn, 1) by decide +kernel) rfl k
    · have k := k.2 c5
      refine Ev_iconst (v := 0) hq_100 (show decode prog_1_method_48_code 20 = .ok (.iconst 0, 1) by decide +kernel) (by decide) ?_
      refine Ev_goto (tgt := 26) hq_100 (show decode prog_1_method_48_code 21 = .ok (.goto 5, 3) by decide +kernel) (by decide) ?_
      exact Ev_iret hq_100 (show decode prog_1_method_48_code 26 = .ok (.ireturn, 1) by decide +kernel) rfl k
  · have k := k.2 c4
    refine Ev_iload_n hq_100 (show decode prog_1_method_48_code 10 = .ok (.iload_n 3, 1) by decide +kernel) rfl ?_
    exact Ev_iret hq_100 (show decode prog_1_method_48_code 11 = .ok (.ireturn, 1) by decide +kernel) rfl k
set_option maxRecDepth 20000 in
theorem wp_T_firstOther {X : Nat × (Nat → Int32)} {d : Nat} {G : zG} {I : zI} {res : Option Value × zG × zI} (x1 : Int32) (x2 : Int32) (hS : SG G) 
    (k : z_inr x1 4 ∧ (∀ y2 : Int32, y2 = (if 30 < (I 51 x1.toNatClampNeg) then 30 else (I 51 x1.toNatClampNeg)) → Ev X (d + 1) 103 15 [.ref 0, .int x1, .int x2, .int y2, .int 0] [] G I res)) :
    Ev X (d + 1) 103 0 [.ref 0, .int x1, .int x2, zU, zU] [] G I res := by
  refine Ev_aload_n hq_103 (show decode prog_1_method_49_code 0 = .ok (.aload_n 0, 1) by decide +kernel) rfl ?_
  refine Ev_getR hq_103 (show decode prog_1_method_49_code 1 = .ok (.getfield 65, 3) by decide +kernel) rfl (SGn hS (by decide)) (SGk hS rfl) (by decide) rfl (SGr hS rfl) ?_
  refine Ev_iload_n hq_103 (show decode prog_1_method_49_code 4 = .ok (.iload_n 1, 1) by decide +kernel) rfl ?_
  obtain ⟨h1, k⟩ := k
  refine Ev_iald hq_103 (show decode prog_1_method_49_code 5 = .ok (.iaload, 1) by decide +kernel) (SGn hS (by decide)) (SGk hS rfl) (SGi hS rfl h1) ?_
  refine Ev_bipush (v := 30) hq_103 (show decode prog_1_method_49_code 6 = .ok (.bipush 30, 2) by decide +kernel) (by decide) ?_
  refine Ev_min hq_103 (show decode prog_1_method_49_code 8 = .ok (.invokestatic 76, 3) by decide +kernel) rfl (z_le rfl) ?_
  obtain ⟨y2, ey2⟩ : ∃ y2 : Int32, y2 = (if 30 < (I 51 x1.toNatClampNeg) then 30 else (I 51 x1.toNatClampNeg)) := ⟨_, rfl⟩
  have k := k y2 ey2
  rw [← ey2]
  refine Ev_istore_n (lo2 := [.ref 0, .int x1, .int x2, .int y2, zU]) hq_103 (show decode prog_1_method_49_code 11 = .ok (.istore_n 3, 1) by decide +kernel) (z_le rfl) rfl ?_
  refine Ev_iconst (v := 0) hq_103 (show decode prog_1_method_49_code 12 = .ok (.iconst 0, 1) by decide +kernel) (by decide) ?_
  refine Ev_istore (lo2 := [.ref 0, .int x1, .int x2, .int y2, .int 0]) hq_103 (show decode prog_1_method_49_code 13 = .ok (.istore 4, 2) by decide +kernel) (z_le rfl) rfl ?_
  exact k
set_option maxRecDepth 20000 in
theorem wp_T_firstOther_15 {X : Nat × (Nat → Int32)} {d : Nat} {G : zG} {I : zI} {res : Option Value × zG × zI} (x1 : Int32) (x2 : Int32) (x3 : Int32) (x4 : Int32) (hS : SG G) 
    (k : (x3 ≤ x4 → res = (some (.int (-1)), G, I)) ∧ (¬ x3 ≤ x4 → z_inr x1 4 ∧ (z_inr x4 40 ∧ (z_inr x2 4 ∧ (z_inr x4 30 ∧ (((I (46 + x1.toNatClampNeg) x4.toNatClampNeg) = (I (27 + x2.toNatClampNeg) x4.toNatClampNeg) → ∀ y9 : Int32, y9 = x4 + 1 → Ev X d 103 15 [.ref 0, .int x1, .int x2, .int x3, .int y9] [] G I res) ∧ (¬ (I (46 + x1.toNatClampNeg) x4.toNatClampNeg) = (I (27 + x2.toNatClampNeg) x4.toNatClampNeg) → res = (some (.int x4), G, I)))))))) :
    Ev X d 103 15 [.ref 0, .int x1, .int x2, .int x3, .int x4] [] G I res := by
  refine Ev_iload hq_103 (show decode prog_1_method_49_code 15 = .ok (.iload 4, 2) by decide +kernel) rfl ?_
  refine Ev_iload_n hq_103 (show decode prog_1_method_49_code 17 = .ok (.iload_n 3, 1) by decide +kernel) rfl ?_
  refine Ev_icmp_ge (tgt := 54) hq_103 (show decode prog_1_method_49_code 18 = .ok (.if_icmp .ge 36, 3) by decide +kernel) (by decide) (fun c1 => ?_) (fun c1 => ?_)
  · have k := k.1 c1
    refine Ev_iconst (v := (-1)) hq_103 (show decode prog_1_method_49_code 54 = .ok (.iconst (-1), 1) by decide +kernel) (by decide) ?_
    exact Ev_iret hq_103 (show decode prog_1_method_49_code 55 = .ok (.ireturn, 1) by decide +kernel) rfl k
  · have k := k.2 c1
    refine Ev_aload_n hq_103 (show decode prog_1_method_49_code 21 = .ok (.aload_n 0, 1) by decide +kernel) rfl ?_
    refine Ev_getR hq_103 (show decode prog_1_method_49_code 22 = .ok (.getfield 59, 3) by decide +kernel) rfl (SGn hS (by decide)) (SGk hS rfl) (by decide) rfl (SGr hS rfl) ?_
    refine Ev_iload_n hq_103 (show decode prog_1_method_49_code 25 = .ok (.iload_n 1, 1) by decide +kernel) rfl ?_
    obtain ⟨h2, k⟩ := k
    have r3 := SGrow hS (a := 45) (b := 46) (n := 40) (Or.inr (Or.inr ⟨rfl, rfl, rfl⟩)) h2.2
    refine Ev_aald hq_103 (show decode prog_1_method_49_code 26 = .ok (.aaload, 1) by decide +kernel) (SGn hS (by decide)) (Or.inr (SGk hS rfl)) (SGi hS rfl h2) r3.1 ?_
    refine Ev_iload hq_103 (show decode prog_1_method_49_code 27 = .ok (.iload 4, 2) by decide +kernel) rfl ?_
    obtain ⟨h4, k⟩ := k
    refine Ev_iald hq_103 (show decode prog_1_method_49_code 29 = .ok (.iaload, 1) by decide +kernel) r3.2.1 r3.2.2.1 (by rw [r3.2.2.2]; exact h4) ?_
    refine Ev_aload_n hq_103 (show decode prog_1_method_49_code 30 = .ok (.aload_n 0, 1) by decide +kernel) rfl ?_
    refine Ev_getR hq_103 (show decode prog_1_method_49_code 31 = .ok (.getfield 29, 3) by decide +kernel) rfl (SGn hS (by decide)) (SGk hS rfl) (by decide) rfl (SGr hS rfl) ?_
    refine Ev_getR hq_103 (show decode prog_1_method_49_code 34 = .ok (.getfield 191, 3) by decide +kernel) rfl (SGn hS (by decide)) (SGk hS rfl) (by decide) rfl (SGr hS rfl) ?_
    refine Ev_iload_n hq_103 (show decode prog_1_method_49_code 37 = .ok (.iload_n 2, 1) by decide +kernel) rfl ?_
    obtain ⟨h5, k⟩ := k
    have r6 := SGrow hS (a := 26) (b := 27) (n := 30) (Or.inl ⟨rfl, rfl, rfl⟩) h5.2
    refine Ev_aald hq_103 (show decode prog_1_method_49_code 38 = .ok (.aaload, 1) by decide +kernel) (SGn hS (by decide)) (Or.inr (SGk hS rfl)) (SGi hS rfl h5) r6.1 ?_
    refine Ev_iload hq_103 (show decode prog_1_method_49_code 39 = .ok (.iload 4, 2) by decide +kernel) rfl ?_
    obtain ⟨h7, k⟩ := k
    refine Ev_iald hq_103 (show decode prog_1_method_49_code 41 = .ok (.iaload, 1) by decide +kernel) r6.2.1 r6.2.2.1 (by rw [r6.2.2.2]; exact h7) ?_
    refine Ev_icmp_eq (tgt := 48) hq_103 (show decode prog_1_method_49_code 42 = .ok (.if_icmp .eq 6, 3) by decide +kernel) (by decide) (fun c8 => ?_) (fun c8 => ?_)
    · have k := k.1 c8
      obtain ⟨y9, ey9⟩ : ∃ y9 : Int32, y9 = x4 + 1 := ⟨_, rfl⟩
      have k := k y9 ey9
      refine Ev_iinc (v := y9) (lo2 := [.ref 0, .int x1, .int x2, .int x3, .int y9]) hq_103 (show decode prog_1_method_49_code 48 = .ok (.iinc 4 1, 3) by decide +kernel) rfl (by rw [ey9]; rfl) rfl ?_
      refine Ev_goto (tgt := 15) hq_103 (show decode prog_1_method_49_code 51 = .ok (.goto (-36), 3) by decide +kernel) (by decide) ?_
      exact k
    · have k := k.2 c8
      refine Ev_iload hq_103 (show decode prog_1_method_49_code 45 = .ok (.iload 4, 2) by decide +kernel) rfl ?_
      exact Ev_iret hq_103 (show decode prog_1_method_49_code 47 = .ok (.ireturn, 1) by decide +kernel) rfl k
set_option maxRecDepth 20000 in
theorem wp_T_judge {X : Nat × (Nat → Int32)} {d : Nat} {G : zG} {I : zI} {res : Option Value × zG × zI} (x1 : Int32) (x2 : Int32) (hS : SG G) 
    (k : ∃ (r3 : Int32) (I1 : zI), Cv X d 100 [.ref 0, .int x1, .int x2] G I (some (.int r3), G, I1) ∧ ((r3 = 0 → ∃ (I5 : zI), Cv X d 62 [.ref 0, .ref 1] G I1 (none, G, I5) ∧ (∃ (r9 : Int32) (I7 : zI), Cv X d 103 [.ref 0, .int x1, .int x2] G I5 (some (.int r9), G, I7) ∧ (res = (some (.int r9), G, I7)))) ∧ (¬ r3 = 0 → res = (some (.int r3), G, I1)))) :
    Ev X (d + 1) 99 0 [.ref 0, .int x1, .int x2, zU] [] G I res := by
  refine Ev_aload_n hq_99 (show decode prog_1_method_46_code 0 = .ok (.aload_n 0, 1) by decide +kernel) rfl ?_
  refine Ev_iload_n hq_99 (show decode prog_1_method_46_code 1 = .ok (.iload_n 1, 1) by decide +kernel) rfl ?_
  refine Ev_iload_n hq_99 (show decode prog_1_method_46_code 2 = .ok (.iload_n 2, 1) by decide +kernel) rfl ?_
  obtain ⟨r3, I1, h2, k⟩ := k
  refine Ev_virt (as := [.int x1, .int x2]) hq_99 (show decode prog_1_method_46_code 3 = .ok (.invokevirtual 263, 3) by decide +kernel) rfl hq_100 rfl (z_le rfl) ⟨(SGn hS (by decide)), (SGk hS rfl), by decide⟩ h2 ?_
  refine Ev_istore_n (lo2 := [.ref 0, .int x1, .int x2, .int r3]) hq_99 (show decode prog_1_method_46_code 6 = .ok (.istore_n 3, 1) by decide +kernel) (z_le rfl) rfl ?_
  refine Ev_iload_n hq_99 (show decode prog_1_method_46_code 7 = .ok (.iload_n 3, 1) by decide +kernel) rfl ?_
  refine Ev_if_eq (tgt := 13) hq_99 (show decode prog_1_method_46_code 8 = .ok (.ifCond .eq 5, 3) by decide +kernel) (by decide) (fun c4 => ?_) (fun c4 => ?_)
  · have k := k.1 c4
    refine Ev_aload_n hq_99 (show decode prog_1_method_46_code 13 = .ok (.aload_n 0, 1) by decide +kernel) rfl ?_
    refine Ev_aload_n hq_99 (show decode prog_1_method_46_code 14 = .ok (.aload_n 0, 1) by decide +kernel) rfl ?_
    refine Ev_getR hq_99 (show decode prog_1_method_46_code 15 = .ok (.getfield 10, 3) by decide +kernel) rfl (SGn hS (by decide)) (SGk hS rfl) (by decide) rfl (SGr hS rfl) ?_
    obtain ⟨I5, h6, k⟩ := k
    refine Ev_virt (as := [.ref 1]) hq_99 (show decode prog_1_method_46_code 18 = .ok (.invokevirtual 187, 3) by decide +kernel) rfl hq_62 rfl (z_le rfl) ⟨(SGn hS (by decide)), (SGk hS rfl), by decide⟩ h6 ?_
    refine Ev_aload_n hq_99 (show decode prog_1_method_46_code 21 = .ok (.aload_n 0, 1) by decide +kernel) rfl ?_
    refine Ev_iload_n hq_99 (show decode prog_1_method_46_code 22 = .ok (.iload_n 1, 1) by decide +kernel) rfl ?_
    refine Ev_iload_n hq_99 (show decode prog_1_method_46_code 23 = .ok (.iload_n 2, 1) by decide +kernel) rfl ?_
    obtain ⟨r9, I7, h8, k⟩ := k
    refine Ev_virt (as := [.int x1, .int x2]) hq_99 (show decode prog_1_method_46_code 24 = .ok (.invokevirtual 266, 3) by decide +kernel) rfl hq_103 rfl (z_le rfl) ⟨(SGn hS (by decide)), (SGk hS rfl), by decide⟩ h8 ?_
    exact Ev_iret hq_99 (show decode prog_1_method_46_code 27 = .ok (.ireturn, 1) by decide +kernel) rfl k
  · have k := k.2 c4
    refine Ev_iload_n hq_99 (show decode prog_1_method_46_code 11 = .ok (.iload_n 3, 1) by decide +kernel) rfl ?_
    exact Ev_iret hq_99 (show decode prog_1_method_46_code 12 = .ok (.ireturn, 1) by decide +kernel) rfl k
set_option maxRecDepth 20000 in
theorem wp_T_whose {X : Nat × (Nat → Int32)} {d : Nat} {G : zG} {I : zI} {res : Option Value × zG × zI} (x1 : Int32) (hS : SG G) 
    (k : ∃ (r3 : Int32) (I1 : zI), Cv X d 101 [.ref 0, .int x1] G I (some (.int r3), G, I1) ∧ ((r3 = 0 → ∃ (I5 : zI), Cv X d 62 [.ref 0, .ref 1] G I1 (none, G, I5) ∧ (Ev X (d + 1) 104 25 [.ref 0, .int x1, .int r3, .int 0, .int 0] [] G I5 res)) ∧ (¬ r3 = 0 → res = (some (.int r3), G, I1)))) :
    Ev X (d + 1) 104 0 [.ref 0, .int x1, zU, zU, zU] [] G I res := by
  refine Ev_aload_n hq_104 (show decode prog_1_method_50_code 0 = .ok (.aload_n 0, 1) by decide +kernel) rfl ?_
  refine Ev_iload_n hq_104 (show decode prog_1_method_50_code 1 = .ok (.iload_n 1, 1) by decide +kernel) rfl ?_
  obtain ⟨r3, I1, h2, k⟩ := k
  refine Ev_virt (as := [.int x1]) hq_104 (show decode prog_1_method_50_code 2 = .ok (.invokevirtual 272, 3) by decide +kernel) rfl hq_101 rfl (z_le rfl) ⟨(SGn hS (by decide)), (SGk hS rfl), by decide⟩ h2 ?_
  refine Ev_istore_n (lo2 := [.ref 0, .int x1, .int r3, zU, zU]) hq_104 (show decode prog_1_method_50_code 5 = .ok (.istore_n 2, 1) by decide +kernel) (z_le rfl) rfl ?_
  refine Ev_iload_n hq_104 (show decode prog_1_method_50_code 6 = .ok (.iload_n 2, 1) by decide +kernel) rfl ?_
  refine Ev_if_eq (tgt := 12) hq_104 (show decode prog_1_method_50_code 7 = .ok (.ifCond .eq 5, 3) by decide +kernel) (by decide) (fun c4 => ?_) (fun c4 => ?_)
  · have k := k.1 c4
    refine Ev_aload_n hq_104 (show decode prog_1_method_50_code 12 = .ok (.aload_n 0, 1) by decide +kernel) rfl ?_
    refine Ev_aload_n hq_104 (show decode prog_1_method_50_code 13 = .ok (.aload_n 0, 1) by decide +kernel) rfl ?_
    refine Ev_getR hq_104 (show decode prog_1_method_50_code 14 = .ok (.getfield 10, 3) by decide +kernel) rfl (SGn hS (by decide)) (SGk hS rfl) (by decide) rfl (SGr hS rfl) ?_
    obtain ⟨I5, h6, k⟩ := k
    refine Ev_virt (as := [.ref 1]) hq_104 (show decode prog_1_method_50_code 17 = .ok (.invokevirtual 187, 3) by decide +kernel) rfl hq_62 rfl (z_le rfl) ⟨(SGn hS (by decide)), (SGk hS rfl), by decide⟩ h6 ?_
    refine Ev_iconst (v := 0) hq_104 (show decode prog_1_method_50_code 20 = .ok (.iconst 0, 1) by decide +kernel) (by decide) ?_
    refine Ev_istore_n (lo2 := [.ref 0, .int x1, .int r3, .int 0, zU]) hq_104 (show decode prog_1_method_50_code 21 = .ok (.istore_n 3, 1) by decide +kernel) (z_le rfl) rfl ?_
    refine Ev_iconst (v := 0) hq_104 (show decode prog_1_method_50_code 22 = .ok (.iconst 0, 1) by decide +kernel) (by decide) ?_
    refine Ev_istore (lo2 := [.ref 0, .int x1, .int r3, .int 0, .int 0]) hq_104 (show decode prog_1_method_50_code 23 = .ok (.istore 4, 2) by decide +kernel) (z_le rfl) rfl ?_
    exact k
  · have k := k.2 c4
    refine Ev_iload_n hq_104 (show decode prog_1_method_50_code 10 = .ok (.iload_n 2, 1) by decide +kernel) rfl ?_
    exact Ev_iret hq_104 (show decode prog_1_method_50_code 11 = .ok (.ireturn, 1) by decide +kernel) rfl k
set_option maxRecDepth 20000 in
theorem wp_T_whose_25 {X : Nat × (Nat → Int32)} {d : Nat} {G : zG} {I : zI} {res : Option Value × zG × zI} (x1 : Int32) (x2 : Int32) (x3 : Int32) (x4 : Int32) (hS : SG G) 
    (k : ((I 1 7) ≤ x4 → res = (some (.int x3), G, I)) ∧ (¬ (I 1 7) ≤ x4 → ∃ (r4 : Int32) (I2 : zI), Cv X d 103 [.ref 0, .int x1, .int x4] G I (some (.int r4), G, I2) ∧ ((¬ r4 = (-1) → ∀ y6 : Int32, y6 = x4 + 1 → Ev X (d + 1) 104 25 [.ref 0, .int x1, .int x2, .int x3, .int y6] [] G I2 res) ∧ (r4 = (-1) → ∀ y7 : Int32, y7 = (x3 ||| (1 <<< (x4 &&& 31))) → ∀ y8 : Int32, y8 = x4 + 1 → Ev X (d + 1) 104 25 [.ref 0, .int x1, .int x2, .int y7, .int y8] [] G I2 res)))) :
    Ev X (d + 1) 104 25 [.ref 0, .int x1, .int x2, .int x3, .int x4] [] G I res := by
  refine Ev_iload hq_104 (show decode prog_1_method_50_code 25 = .ok (.iload 4, 2) by decide +kernel) rfl ?_
  refine Ev_aload_n hq_104 (show decode prog_1_method_50_code 27 = .ok (.aload_n 0, 1) by decide +kernel) rfl ?_
  refine Ev_getR hq_104 (show decode prog_1_method_50_code 28 = .ok (.getfield 10, 3) by decide +kernel) rfl (SGn hS (by decide)) (SGk hS rfl) (by decide) rfl (SGr hS rfl) ?_
  refine Ev_getI hq_104 (show decode prog_1_method_50_code 31 = .ok (.getfield 100, 3) by decide +kernel) rfl (SGn hS (by decide)) (SGk hS rfl) (by decide) rfl ?_
  refine Ev_icmp_ge (tgt := 61) hq_104 (show decode prog_1_method_50_code 34 = .ok (.if_icmp .ge 27, 3) by decide +kernel) (by decide) (fun c1 => ?_) (fun c1 => ?_)
  · have k := k.1 c1
    refine Ev_iload_n hq_104 (show decode prog_1_method_50_code 61 = .ok (.iload_n 3, 1) by decide +kernel) rfl ?_
    exact Ev_iret hq_104 (show decode prog_1_method_50_code 62 = .ok (.ireturn, 1) by decide +kernel) rfl k
  · have k := k.2 c1
    refine Ev_aload_n hq_104 (show decode prog_1_method_50_code 37 = .ok (.aload_n 0, 1) by decide +kernel) rfl ?_
    refine Ev_iload_n hq_104 (show decode prog_1_method_50_code 38 = .ok (.iload_n 1, 1) by decide +kernel) rfl ?_
    refine Ev_iload hq_104 (show decode prog_1_method_50_code 39 = .ok (.iload 4, 2) by decide +kernel) rfl ?_
    obtain ⟨r4, I2, h3, k⟩ := k
    refine Ev_virt (as := [.int x1, .int x4]) hq_104 (show decode prog_1_method_50_code 41 = .ok (.invokevirtual 266, 3) by decide +kernel) rfl hq_103 rfl (z_le rfl) ⟨(SGn hS (by decide)), (SGk hS rfl), by decide⟩ h3 ?_
    refine Ev_iconst (v := (-1)) hq_104 (show decode prog_1_method_50_code 44 = .ok (.iconst (-1), 1) by decide +kernel) (by decide) ?_
    refine Ev_icmp_ne (tgt := 55) hq_104 (show decode prog_1_method_50_code 45 = .ok (.if_icmp .ne 10, 3) by decide +kernel) (by decide) (fun c5 => ?_) (fun c5 => ?_)
    · have k := k.1 c5
      obtain ⟨y6, ey6⟩ : ∃ y6 : Int32, y6 = x4 + 1 := ⟨_, rfl⟩
      have k := k y6 ey6
      refine Ev_iinc (v := y6) (lo2 := [.ref 0, .int x1, .int x2, .int x3, .int y6]) hq_104 (show decode prog_1_method_50_code 55 = .ok (.iinc 4 1, 3) by decide +kernel) rfl (by rw [ey6]; rfl) rfl ?_
      refine Ev_goto (tgt := 25) hq_104 (show decode prog_1_method_50_code 58 = .ok (.goto (-33), 3) by decide +kernel) (by decide) ?_
      exact k
    · have k := k.2 (Classical.not_not.mp c5)
      refine Ev_iload_n hq_104 (show decode prog_1_method_50_code 48 = .ok (.iload_n 3, 1) by decide +kernel) rfl ?_
      refine Ev_iconst (v := 1) hq_104 (show decode prog_1_method_50_code 49 = .ok (.iconst 1, 1) by decide +kernel) (by decide) ?_
      refine Ev_iload hq_104 (show decode prog_1_method_50_code 50 = .ok (.iload 4, 2) by decide +kernel) rfl ?_
      refine Ev_ishl hq_104 (show decode prog_1_method_50_code 52 = .ok (.ishl, 1) by decide +kernel) ?_
      refine Ev_ior hq_104 (show decode prog_1_method_50_code 53 = .ok (.ior, 1) by decide +kernel) ?_
      obtain ⟨y7, ey7⟩ : ∃ y7 : Int32, y7 = (x3 ||| (1 <<< (x4 &&& 31))) := ⟨_, rfl⟩
      have k := k y7 ey7
      rw [← ey7]
      refine Ev_istore_n (lo2 := [.ref 0, .int x1, .int x2, .int y7, .int x4]) hq_104 (show decode prog_1_method_50_code 54 = .ok (.istore_n 3, 1) by decide +kernel) (z_le rfl) rfl ?_
      obtain ⟨y8, ey8⟩ : ∃ y8 : Int32, y8 = x4 + 1 := ⟨_, rfl⟩
      have k := k y8 ey8
      refine Ev_iinc (v := y8) (lo2 := [.ref 0, .int x1, .int x2, .int y7, .int y8]) hq_104 (show decode prog_1_method_50_code 55 = .ok (.iinc 4 1, 3) by decide +kernel) rfl (by rw [ey8]; rfl) rfl ?_
      refine Ev_goto (tgt := 25) hq_104 (show decode prog_1_method_50_code 58 = .ok (.goto (-33), 3) by decide +kernel) (by decide) ?_
      exact k
set_option maxRecDepth 20000 in
theorem wp_T_bitIfShown {X : Nat × (Nat → Int32)} {d : Nat} {G : zG} {I : zI} {res : Option Value × zG × zI} (x1 : Int32) (x2 : Int32) (x3 : Int32) (hS : SG G) 
    (k : ∃ (I1 : zI), Cv X d 62 [.ref 0, .ref 9] G I (none, G, I1) ∧ (∃ (r5 : Int32) (I3 : zI), Cv X d 103 [.ref 0, .int x1, .int x2] G I1 (some (.int r5), G, I3) ∧ ((¬ r5 = (-1) → res = (some (.int 0), G, I3)) ∧ (r5 = (-1) → res = (some (.int (1 <<< (x3 &&& 31))), G, I3))))) :
    Ev X (d + 1) 106 0 [.ref 0, .int x1, .int x2, .int x3] [] G I res := by
  refine Ev_aload_n hq_106 (show decode prog_1_method_51_code 0 = .ok (.aload_n 0, 1) by decide +kernel) rfl ?_
  refine Ev_aload_n hq_106 (show decode prog_1_method_51_code 1 = .ok (.aload_n 0, 1) by decide +kernel) rfl ?_
  refine Ev_getR hq_106 (show decode prog_1_method_51_code 2 = .ok (.getfield 16, 3) by decide +kernel) rfl (SGn hS (by decide)) (SGk hS rfl) (by decide) rfl (SGr hS rfl) ?_
  obtain ⟨I1, h2, k⟩ := k
  refine Ev_virt (as := [.ref 9]) hq_106 (show decode prog_1_method_51_code 5 = .ok (.invokevirtual 187, 3) by decide +kernel) rfl hq_62 rfl (z_le rfl) ⟨(SGn hS (by decide)), (SGk hS rfl), by decide⟩ h2 ?_
  refine Ev_aload_n hq_106 (show decode prog_1_method_51_code 8 = .ok (.aload_n 0, 1) by decide +kernel) rfl ?_
  refine Ev_iload_n hq_106 (show decode prog_1_method_51_code 9 = .ok (.iload_n 1, 1) by decide +kernel) rfl ?_
  refine Ev_iload_n hq_106 (show decode prog_1_method_51_code 10 = .ok (.iload_n 2, 1) by decide +kernel) rfl ?_
  obtain ⟨r5, I3, h4, k⟩ := k
  refine Ev_virt (as := [.int x1, .int x2]) hq_106 (show decode prog_1_method_51_code 11 = .ok (.invokevirtual 266, 3) by decide +kernel) rfl hq_103 rfl (z_le rfl) ⟨(SGn hS (by decide)), (SGk hS rfl), by decide⟩ h4 ?_
  refine Ev_iconst (v := (-1)) hq_106 (show decode prog_1_method_51_code 14 = .ok (.iconst (-1), 1) by decide +kernel) (by decide) ?_
  refine Ev_icmp_ne (tgt := 24) hq_106 (show decode prog_1_method_51_code 15 = .ok (.if_icmp .ne 9, 3) by decide +kernel) (by decide) (fun c6 => ?_) (fun c6 => ?_)
  · have k := k.1 c6
    refine Ev_iconst (v := 0) hq_106 (show decode prog_1_method_51_code 24 = .ok (.iconst 0, 1) by decide +kernel) (by decide) ?_
    exact Ev_iret hq_106 (show decode prog_1_method_51_code 25 = .ok (.ireturn, 1) by decide +kernel) rfl k
  · have k := k.2 (Classical.not_not.mp c6)
    refine Ev_iconst (v := 1) hq_106 (show decode prog_1_method_51_code 18 = .ok (.iconst 1, 1) by decide +kernel) (by decide) ?_
    refine Ev_iload_n hq_106 (show decode prog_1_method_51_code 19 = .ok (.iload_n 3, 1) by decide +kernel) rfl ?_
    refine Ev_ishl hq_106 (show decode prog_1_method_51_code 20 = .ok (.ishl, 1) by decide +kernel) ?_
    refine Ev_goto (tgt := 25) hq_106 (show decode prog_1_method_51_code 21 = .ok (.goto 4, 3) by decide +kernel) (by decide) ?_
    exact Ev_iret hq_106 (show decode prog_1_method_51_code 25 = .ok (.ireturn, 1) by decide +kernel) rfl k
set_option maxRecDepth 20000 in
theorem wp_T_fits {X : Nat × (Nat → Int32)} {d : Nat} {G : zG} {I : zI} {res : Option Value × zG × zI} (x1 : Int32) (x2 : Int32) (x3 : Int32) (hS : SG G) 
    (k : ∃ (r3 : Int32) (I1 : zI), Cv X d 100 [.ref 0, .int x1, .int x2] G I (some (.int r3), G, I1) ∧ ((r3 = 0 → (¬ (f_T_within x3 0 1) = 0 → (¬ x3 = 0 → ∀ y7 : Int32, y7 = (f_T_mostOf 3) → ∃ (I8 : zI), Cv X d 83 [.ref 9, .ref 1] G I1 (none, G, I8) ∧ (Ev X (d + 1) 105 63 [.ref 0, .int x1, .int x2, .int x3, .int r3, .int 3, .int y7, .int 0, .int 0] [] G I8 res)) ∧ (x3 = 0 → ∀ y10 : Int32, y10 = (f_T_mostOf 0) → ∃ (I11 : zI), Cv X d 83 [.ref 9, .ref 1] G I1 (none, G, I11) ∧ (Ev X (d + 1) 105 63 [.ref 0, .int x1, .int x2, .int x3, .int r3, .int 0, .int y10, .int 0, .int 0] [] G I11 res))) ∧ ((f_T_within x3 0 1) = 0 → res = (some (.int (-7)), G, I1))) ∧ (¬ r3 = 0 → res = (some (.int r3), G, I1)))) :
    Ev X (d + 1) 105 0 [.ref 0, .int x1, .int x2, .int x3, zU, zU, zU, zU, zU] [] G I res := by
  refine Ev_aload_n hq_105 (show decode prog_1_method_52_code 0 = .ok (.aload_n 0, 1) by decide +kernel) rfl ?_
  refine Ev_iload_n hq_105 (show decode prog_1_method_52_code 1 = .ok (.iload_n 1, 1) by decide +kernel) rfl ?_
  refine Ev_iload_n hq_105 (show decode prog_1_method_52_code 2 = .ok (.iload_n 2, 1) by decide +kernel) rfl ?_
  obtain ⟨r3, I1, h2, k⟩ := k
  refine Ev_virt (as := [.int x1, .int x2]) hq_105 (show decode prog_1_method_52_code 3 = .ok (.invokevirtual 263, 3) by decide +kernel) rfl hq_100 rfl (z_le rfl) ⟨(SGn hS (by decide)), (SGk hS rfl), by decide⟩ h2 ?_
  refine Ev_istore (lo2 := [.ref 0, .int x1, .int x2, .int x3, .int r3, zU, zU, zU, zU]) hq_105 (show decode prog_1_method_52_code 6 = .ok (.istore 4, 2) by decide +kernel) (z_le rfl) rfl ?_
  refine Ev_iload hq_105 (show decode prog_1_method_52_code 8 = .ok (.iload 4, 2) by decide +kernel) rfl ?_
  refine Ev_if_eq (tgt := 16) hq_105 (show decode prog_1_method_52_code 10 = .ok (.ifCond .eq 6, 3) by decide +kernel) (by decide) (fun c4 => ?_) (fun c4 => ?_)
  · have k := k.1 c4
    refine Ev_iload_n hq_105 (show decode prog_1_method_52_code 16 = .ok (.iload_n 3, 1) by decide +kernel) rfl ?_
    refine Ev_iconst (v := 0) hq_105 (show decode prog_1_method_52_code 17 = .ok (.iconst 0, 1) by decide +kernel) (by decide) ?_
    refine Ev_iconst (v := 1) hq_105 (show decode prog_1_method_52_code 18 = .ok (.iconst 1, 1) by decide +kernel) (by decide) ?_
    refine Ev_stat (as := [.int x3, .int 0, .int 1]) hq_105 (show decode prog_1_method_52_code 19 = .ok (.invokestatic 108, 3) by decide +kernel) rfl (Or.inl rfl) hq_32 rfl (z_le rfl) (c_T_within x3 0 1) ?_
    refine Ev_if_ne (tgt := 28) hq_105 (show decode prog_1_method_52_code 22 = .ok (.ifCond .ne 6, 3) by decide +kernel) (by decide) (fun c5 => ?_) (fun c5 => ?_)
    · have k := k.1 c5
      refine Ev_iload_n hq_105 (show decode prog_1_method_52_code 28 = .ok (.iload_n 3, 1) by decide +kernel) rfl ?_
      refine Ev_if_ne (tgt := 36) hq_105 (show decode prog_1_method_52_code 29 = .ok (.ifCond .ne 7, 3) by decide +kernel) (by decide) (fun c6 => ?_) (fun c6 => ?_)
      · have k := k.1 c6
        refine Ev_iconst (v := 3) hq_105 (show decode prog_1_method_52_code 36 = .ok (.iconst 3, 1) by decide +kernel) (by decide) ?_
        refine Ev_istore (lo2 := [.ref 0, .int x1, .int x2, .int x3, .int r3, .int 3, zU, zU, zU]) hq_105 (show decode prog_1_method_52_code 37 = .ok (.istore 5, 2) by decide +kernel) (z_le rfl) rfl ?_
        refine Ev_iload hq_105 (show decode prog_1_method_52_code 39 = .ok (.iload 5, 2) by decide +kernel) rfl ?_
        refine Ev_stat (as := [.int 3]) hq_105 (show decode prog_1_method_52_code 41 = .ok (.invokestatic 152, 3) by decide +kernel) rfl (Or.inl rfl) hq_56 rfl (z_le rfl) (c_T_mostOf 3) ?_
        obtain ⟨y7, ey7⟩ : ∃ y7 : Int32, y7 = (f_T_mostOf 3) := ⟨_, rfl⟩
        have k := k y7 ey7
        rw [← ey7]
        refine Ev_istore (lo2 := [.ref 0, .int x1, .int x2, .int x3, .int r3, .int 3, .int y7, zU, zU]) hq_105 (show decode prog_1_method_52_code 44 = .ok (.istore 6, 2) by decide +kernel) (z_le rfl) rfl ?_
        refine Ev_aload_n hq_105 (show decode prog_1_method_52_code 46 = .ok (.aload_n 0, 1) by decide +kernel) rfl ?_
        refine Ev_getR hq_105 (show decode prog_1_method_52_code 47 = .ok (.getfield 16, 3) by decide +kernel) rfl (SGn hS (by decide)) (SGk hS rfl) (by decide) rfl (SGr hS rfl) ?_
        refine Ev_aload_n hq_105 (show decode prog_1_method_52_code 50 = .ok (.aload_n 0, 1) by decide +kernel) rfl ?_
        refine Ev_getR hq_105 (show decode prog_1_method_52_code 51 = .ok (.getfield 10, 3) by decide +kernel) rfl (SGn hS (by decide)) (SGk hS rfl) (by decide) rfl (SGr hS rfl) ?_
        obtain ⟨I8, h9, k⟩ := k
        refine Ev_virt (as := [.ref 1]) hq_105 (show decode prog_1_method_52_code 54 = .ok (.invokevirtual 230, 3) by decide +kernel) rfl hq_83 rfl (z_le rfl) ⟨(SGn hS (by decide)), (SGk hS rfl), by decide⟩ h9 ?_
        refine Ev_iconst (v := 0) hq_105 (show decode prog_1_method_52_code 57 = .ok (.iconst 0, 1) by decide +kernel) (by decide) ?_
        refine Ev_istore (lo2 := [.ref 0, .int x1, .int x2, .int x3, .int r3, .int 3, .int y7, .int 0, zU]) hq_105 (show decode prog_1_method_52_code 58 = .ok (.istore 7, 2) by decide +kernel) (z_le rfl) rfl ?_
        refine Ev_iconst (v := 0) hq_105 (show decode prog_1_method_52_code 60 = .ok (.iconst 0, 1) by decide +kernel) (by decide) ?_
        refine Ev_istore (lo2 := [.ref 0, .int x1, .int x2, .int x3, .int r3, .int 3, .int y7, .int 0, .int 0]) hq_105 (show decode prog_1_method_52_code 61 = .ok (.istore 8, 2) by decide +kernel) (z_le rfl) rfl ?_
        exact k
      · have k := k.2 (Classical.not_not.mp c6)
        refine Ev_iconst (v := 0) hq_105 (show decode prog_1_method_52_code 32 = .ok (.iconst 0, 1) by decide +kernel) (by decide) ?_
        refine Ev_goto (tgt := 37) hq_105 (show decode prog_1_method_52_code 33 = .ok (.goto 4, 3) by decide +kernel) (by decide) ?_
        refine Ev_istore (lo2 := [.ref 0, .int x1, .int x2, .int x3, .int r3, .int 0, zU, zU, zU]) hq_105 (show decode prog_1_method_52_code 37 = .ok (.istore 5, 2) by decide +kernel) (z_le rfl) rfl ?_
        refine Ev_iload hq_105 (show decode prog_1_method_52_code 39 = .ok (.iload 5, 2) by decide +kernel) rfl ?_
        refine Ev_stat (as := [.int 0]) hq_105 (show decode prog_1_method_52_code 41 = .ok (.invokestatic 152, 3) by decide +kernel) rfl (Or.inl rfl) hq_56 rfl (z_le rfl) (c_T_mostOf 0) ?_
        obtain ⟨y10, ey10⟩ : ∃ y10 : Int32, y10 = (f_T_mostOf 0) := ⟨_, rfl⟩
        have k := k y10 ey10
        rw [← ey10]
        refine Ev_istore (lo2 := [.ref 0, .int x1, .int x2, .int x3, .int r3, .int 0, .int y10, zU, zU]) hq_105 (show decode prog_1_method_52_code 44 = .ok (.istore 6, 2) by decide +kernel) (z_le rfl) rfl ?_
        refine Ev_aload_n hq_105 (show decode prog_1_method_52_code 46 = .ok (.aload_n 0, 1) by decide +kernel) rfl ?_
        refine Ev_getR hq_105 (show decode prog_1_method_52_code 47 = .ok (.getfield 16, 3) by decide +kernel) rfl (SGn hS (by decide)) (SGk hS rfl) (by decide) rfl (SGr hS rfl) ?_
        refine Ev_aload_n hq_105 (show decode prog_1_method_52_code 50 = .ok (.aload_n 0, 1) by decide +kernel) rfl ?_
        refine Ev_getR hq_105 (show decode prog_1_method_52_code 51 = .ok (.getfield 10, 3) by decide +kernel) rfl (SGn hS (by decide)) (SGk hS rfl) (by decide) rfl (SGr hS rfl) ?_
        obtain ⟨I11, h12, k⟩ := k
        refine Ev_virt (as := [.ref 1]) hq_105 (show decode prog_1_method_52_code 54 = .ok (.invokevirtual 230, 3) by decide +kernel) rfl hq_83 rfl (z_le rfl) ⟨(SGn hS (by decide)), (SGk hS rfl), by decide⟩ h12 ?_
        refine Ev_iconst (v := 0) hq_105 (show decode prog_1_method_52_code 57 = .ok (.iconst 0, 1) by decide +kernel) (by decide) ?_
        refine Ev_istore (lo2 := [.ref 0, .int x1, .int x2, .int x3, .int r3, .int 0, .int y10, .int 0, zU]) hq_105 (show decode prog_1_method_52_code 58 = .ok (.istore 7, 2) by decide +kernel) (z_le rfl) rfl ?_
        refine Ev_iconst (v := 0) hq_105 (show decode prog_1_method_52_code 60 = .ok (.iconst 0, 1) by decide +kernel) (by decide) ?_
        refine Ev_istore (lo2 := [.ref 0, .int x1, .int x2, .int x3, .int r3, .int 0, .int y10, .int 0, .int 0]) hq_105 (show decode prog_1_method_52_code 61 = .ok (.istore 8, 2) by decide +kernel) (z_le rfl) rfl ?_
        exact k
    · have k := k.2 (Classical.not_not.mp c5)
      refine Ev_bipush (v := (-7)) hq_105 (show decode prog_1_method_52_code 25 = .ok (.bipush (-7), 2) by decide +kernel) (by decide) ?_
      exact Ev_iret hq_105 (show decode prog_1_method_52_code 27 = .ok (.ireturn, 1) by decide +kernel) rfl k
  · have k := k.2 c4
    refine Ev_iload hq_105 (show decode prog_1_method_52_code 13 = .ok (.iload 4, 2) by decide +kernel) rfl ?_
    exact Ev_iret hq_105 (show decode prog_1_method_52_code 15 = .ok (.ireturn, 1) by decide +kernel) rfl k
set_option maxRecDepth 20000 in
theorem wp_T_fits_63 {X : Nat × (Nat → Int32)} {d : Nat} {G : zG} {I : zI} {res : Option Value × zG × zI} (x1 : Int32) (x2 : Int32) (x3 : Int32) (x4 : Int32) (x5 : Int32) (x6 : Int32) (x7 : Int32) (x8 : Int32) (hS : SG G) 
    (k : (x6 < x8 → res = (some (.int x7), G, I)) ∧ (¬ x6 < x8 → ∃ (I2 : zI), Cv X d 58 [.ref 9, .int x2, .int x5, .int x8] G I (none, G, I2) ∧ (∃ (r6 : Int32) (I4 : zI), Cv X d 106 [.ref 0, .int x1, .int x2, .int x8] G I2 (some (.int r6), G, I4) ∧ (∀ y7 : Int32, y7 = (x7 ||| r6) → ∀ y8 : Int32, y8 = x8 + 1 → Ev X (d + 1) 105 63 [.ref 0, .int x1, .int x2, .int x3, .int x4, .int x5, .int x6, .int y7, .int y8] [] G I4 res)))) :
    Ev X (d + 1) 105 63 [.ref 0, .int x1, .int x2, .int x3, .int x4, .int x5, .int x6, .int x7, .int x8] [] G I res := by
  refine Ev_iload hq_105 (show decode prog_1_method_52_code 63 = .ok (.iload 8, 2) by decide +kernel) rfl ?_
  refine Ev_iload hq_105 (show decode prog_1_method_52_code 65 = .ok (.iload 6, 2) by decide +kernel) rfl ?_
  refine Ev_icmp_gt (tgt := 101) hq_105 (show decode prog_1_method_52_code 67 = .ok (.if_icmp .gt 34, 3) by decide +kernel) (by decide) (fun c1 => ?_) (fun c1 => ?_)
  · have k := k.1 c1
    refine Ev_iload hq_105 (show decode prog_1_method_52_code 101 = .ok (.iload 7, 2) by decide +kernel) rfl ?_
    exact Ev_iret hq_105 (show decode prog_1_method_52_code 103 = .ok (.ireturn, 1) by decide +kernel) rfl k
  · have k := k.2 c1
    refine Ev_aload_n hq_105 (show decode prog_1_method_52_code 70 = .ok (.aload_n 0, 1) by decide +kernel) rfl ?_
    refine Ev_getR hq_105 (show decode prog_1_method_52_code 71 = .ok (.getfield 16, 3) by decide +kernel) rfl (SGn hS (by decide)) (SGk hS rfl) (by decide) rfl (SGr hS rfl) ?_
    refine Ev_iload_n hq_105 (show decode prog_1_method_52_code 74 = .ok (.iload_n 2, 1) by decide +kernel) rfl ?_
    refine Ev_iload hq_105 (show decode prog_1_method_52_code 75 = .ok (.iload 5, 2) by decide +kernel) rfl ?_
    refine Ev_iload hq_105 (show decode prog_1_method_52_code 77 = .ok (.iload 8, 2) by decide +kernel) rfl ?_
    obtain ⟨I2, h3, k⟩ := k
    refine Ev_virt (as := [.int x2, .int x5, .int x8]) hq_105 (show decode prog_1_method_52_code 79 = .ok (.invokevirtual 158, 3) by decide +kernel) rfl hq_58 rfl (z_le rfl) ⟨(SGn hS (by decide)), (SGk hS rfl), by decide⟩ h3 ?_
    refine Ev_iload hq_105 (show decode prog_1_method_52_code 82 = .ok (.iload 7, 2) by decide +kernel) rfl ?_
    refine Ev_aload_n hq_105 (show decode prog_1_method_52_code 84 = .ok (.aload_n 0, 1) by decide +kernel) rfl ?_
    refine Ev_iload_n hq_105 (show decode prog_1_method_52_code 85 = .ok (.iload_n 1, 1) by decide +kernel) rfl ?_
    refine Ev_iload_n hq_105 (show decode prog_1_method_52_code 86 = .ok (.iload_n 2, 1) by decide +kernel) rfl ?_
    refine Ev_iload hq_105 (show decode prog_1_method_52_code 87 = .ok (.iload 8, 2) by decide +kernel) rfl ?_
    obtain ⟨r6, I4, h5, k⟩ := k
    refine Ev_virt (as := [.int x1, .int x2, .int x8]) hq_105 (show decode prog_1_method_52_code 89 = .ok (.invokevirtual 275, 3) by decide +kernel) rfl hq_106 rfl (z_le rfl) ⟨(SGn hS (by decide)), (SGk hS rfl), by decide⟩ h5 ?_
    refine Ev_ior hq_105 (show decode prog_1_method_52_code 92 = .ok (.ior, 1) by decide +kernel) ?_
    obtain ⟨y7, ey7⟩ : ∃ y7 : Int32, y7 = (x7 ||| r6) := ⟨_, rfl⟩
    have k := k y7 ey7
    rw [← ey7]
    refine Ev_istore (lo2 := [.ref 0, .int x1, .int x2, .int x3, .int x4, .int x5, .int x6, .int y7, .int x8]) hq_105 (show decode prog_1_method_52_code 93 = .ok (.istore 7, 2) by decide +kernel) (z_le rfl) rfl ?_
    obtain ⟨y8, ey8⟩ : ∃ y8 : Int32, y8 = x8 + 1 := ⟨_, rfl⟩
    have k := k y8 ey8
    refine Ev_iinc (v := y8) (lo2 := [.ref 0, .int x1, .int x2, .int x3, .int x4, .int x5, .int x6, .int y7, .int y8]) hq_105 (show decode prog_1_method_52_code 95 = .ok (.iinc 8 1, 3) by decide +kernel) rfl (by rw [ey8]; rfl) rfl ?_
    refine Ev_goto (tgt := 63) hq_105 (show decode prog_1_method_52_code 98 = .ok (.goto (-35), 3) by decide +kernel) (by decide) ?_
    exact k
set_option maxRecDepth 20000 in
theorem wp_T_kinds {X : Nat × (Nat → Int32)} {d : Nat} {G : zG} {I : zI} {res : Option Value × zG × zI} (x1 : Int32) (x2 : Int32) (x3 : Int32) (hS : SG G) 
    (k : ∃ (r3 : Int32) (I1 : zI), Cv X d 100 [.ref 0, .int x1, .int x2] G I (some (.int r3), G, I1) ∧ ((r3 = 0 → (¬ (f_T_within x3 0 1) = 0 → (¬ x3 = 0 → ∃ (I7 : zI), Cv X d 83 [.ref 9, .ref 1] G I1 (none, G, I7) ∧ (Ev X (d + 1) 107 58 [.ref 0, .int x1, .int x2, .int x3, .int r3, .int 10, .int 0, .int 0] [] G I7 res)) ∧ (x3 = 0 → ∃ (I9 : zI), Cv X d 83 [.ref 9, .ref 1] G I1 (none, G, I9) ∧ (Ev X (d + 1) 107 58 [.ref 0, .int x1, .int x2, .int x3, .int r3, .int 6, .int 0, .int 0] [] G I9 res))) ∧ ((f_T_within x3 0 1) = 0 → res = (some (.int (-7)), G, I1))) ∧ (¬ r3 = 0 → res = (some (.int r3), G, I1)))) :
    Ev X (d + 1) 107 0 [.ref 0, .int x1, .int x2, .int x3, zU, zU, zU, zU] [] G I res := by
  refine Ev_aload_n hq_107 (show decode prog_1_method_53_code 0 = .ok (.aload_n 0, 1) by decide +kernel) rfl ?_
  refine Ev_iload_n hq_107 (show decode prog_1_method_53_code 1 = .ok (.iload_n 1, 1) by decide +kernel) rfl ?_
  refine Ev_iload_n hq_107 (show decode prog_1_method_53_code 2 = .ok (.iload_n 2, 1) by decide +kernel) rfl ?_
  obtain ⟨r3, I1, h2, k⟩ := k
  refine Ev_virt (as := [.int x1, .int x2]) hq_107 (show decode prog_1_method_53_code 3 = .ok (.invokevirtual 263, 3) by decide +kernel) rfl hq_100 rfl (z_le rfl) ⟨(SGn hS (by decide)), (SGk hS rfl), by decide⟩ h2 ?_
  refine Ev_istore (lo2 := [.ref 0, .int x1, .int x2, .int x3, .int r3, zU, zU, zU]) hq_107 (show decode prog_1_method_53_code 6 = .ok (.istore 4, 2) by decide +kernel) (z_le rfl) rfl ?_
  refine Ev_iload hq_107 (show decode prog_1_method_53_code 8 = .ok (.iload 4, 2) by decide +kernel) rfl ?_
  refine Ev_if_eq (tgt := 16) hq_107 (show decode prog_1_method_53_code 10 = .ok (.ifCond .eq 6, 3) by decide +kernel) (by decide) (fun c4 => ?_) (fun c4 => ?_)
  · have k := k.1 c4
    refine Ev_iload_n hq_107 (show decode prog_1_method_53_code 16 = .ok (.iload_n 3, 1) by decide +kernel) rfl ?_
    refine Ev_iconst (v := 0) hq_107 (show decode prog_1_method_53_code 17 = .ok (.iconst 0, 1) by decide +kernel) (by decide) ?_
    refine Ev_iconst (v := 1) hq_107 (show decode prog_1_method_53_code 18 = .ok (.iconst 1, 1) by decide +kernel) (by decide) ?_
    refine Ev_stat (as := [.int x3, .int 0, .int 1]) hq_107 (show decode prog_1_method_53_code 19 = .ok (.invokestatic 108, 3) by decide +kernel) rfl (Or.inl rfl) hq_32 rfl (z_le rfl) (c_T_within x3 0 1) ?_
    refine Ev_if_ne (tgt := 28) hq_107 (show decode prog_1_method_53_code 22 = .ok (.ifCond .ne 6, 3) by decide +kernel) (by decide) (fun c5 => ?_) (fun c5 => ?_)
    · have k := k.1 c5
      refine Ev_iload_n hq_107 (show decode prog_1_method_53_code 28 = .ok (.iload_n 3, 1) by decide +kernel) rfl ?_
      refine Ev_if_ne (tgt := 37) hq_107 (show decode prog_1_method_53_code 29 = .ok (.ifCond .ne 8, 3) by decide +kernel) (by decide) (fun c6 => ?_) (fun c6 => ?_)
      · have k := k.1 c6
        refine Ev_bipush (v := 10) hq_107 (show decode prog_1_method_53_code 37 = .ok (.bipush 10, 2) by decide +kernel) (by decide) ?_
        refine Ev_istore (lo2 := [.ref 0, .int x1, .int x2, .int x3, .int r3, .int 10, zU, zU]) hq_107 (show decode prog_1_method_53_code 39 = .ok (.istore 5, 2) by decide +kernel) (z_le rfl) rfl ?_
        refine Ev_aload_n hq_107 (show decode prog_1_method_53_code 41 = .ok (.aload_n 0, 1) by decide +kernel) rfl ?_
        refine Ev_getR hq_107 (show decode prog_1_method_53_code 42 = .ok (.getfield 16, 3) by decide +kernel) rfl (SGn hS (by decide)) (SGk hS rfl) (by decide) rfl (SGr hS rfl) ?_
        refine Ev_aload_n hq_107 (show decode prog_1_method_53_code 45 = .ok (.aload_n 0, 1) by decide +kernel) rfl ?_
        refine Ev_getR hq_107 (show decode prog_1_method_53_code 46 = .ok (.getfield 10, 3) by decide +kernel) rfl (SGn hS (by decide)) (SGk hS rfl) (by decide) rfl (SGr hS rfl) ?_
        obtain ⟨I7, h8, k⟩ := k
        refine Ev_virt (as := [.ref 1]) hq_107 (show decode prog_1_method_53_code 49 = .ok (.invokevirtual 230, 3) by decide +kernel) rfl hq_83 rfl (z_le rfl) ⟨(SGn hS (by decide)), (SGk hS rfl), by decide⟩ h8 ?_
        refine Ev_iconst (v := 0) hq_107 (show decode prog_1_method_53_code 52 = .ok (.iconst 0, 1) by decide +kernel) (by decide) ?_
        refine Ev_istore (lo2 := [.ref 0, .int x1, .int x2, .int x3, .int r3, .int 10, .int 0, zU]) hq_107 (show decode prog_1_method_53_code 53 = .ok (.istore 6, 2) by decide +kernel) (z_le rfl) rfl ?_
        refine Ev_iconst (v := 0) hq_107 (show decode prog_1_method_53_code 55 = .ok (.iconst 0, 1) by decide +kernel) (by decide) ?_
        refine Ev_istore (lo2 := [.ref 0, .int x1, .int x2, .int x3, .int r3, .int 10, .int 0, .int 0]) hq_107 (show decode prog_1_method_53_code 56 = .ok (.istore 7, 2) by decide +kernel) (z_le rfl) rfl ?_
        exact k
      · have k := k.2 (Classical.not_not.mp c6)
        refine Ev_bipush (v := 6) hq_107 (show decode prog_1_method_53_code 32 = .ok (.bipush 6, 2) by decide +kernel) (by decide) ?_
        refine Ev_goto (tgt := 39) hq_107 (show decode prog_1_method_53_code 34 = .ok (.goto 5, 3) by decide +kernel) (by decide) ?_
        refine Ev_istore (lo2 := [.ref 0, .int x1, .int x2, .int x3, .int r3, .int 6, zU, zU]) hq_107 (show decode prog_1_method_53_code 39 = .ok (.istore 5, 2) by decide +kernel) (z_le rfl) rfl ?_
        refine Ev_aload_n hq_107 (show decode prog_1_method_53_code 41 = .ok (.aload_n 0, 1) by decide +kernel) rfl ?_
        refine Ev_getR hq_107 (show decode prog_1_method_53_code 42 = .ok (.getfield 16, 3) by decide +kernel) rfl (SGn hS (by decide)) (SGk hS rfl) (by decide) rfl (SGr hS rfl) ?_
        refine Ev_aload_n hq_107 (show decode prog_1_method_53_code 45 = .ok (.aload_n 0, 1) by decide +kernel) rfl ?_
        refine Ev_getR hq_107 (show decode prog_1_method_53_code 46 = .ok (.getfield 10, 3) by decide +kernel) rfl (SGn hS (by decide)) (SGk hS rfl) (by decide) rfl (SGr hS rfl) ?_
        obtain ⟨I9, h10, k⟩ := k
        refine Ev_virt (as := [.ref 1]) hq_107 (show decode prog_1_method_53_code 49 = .ok (.invokevirtual 230, 3) by decide +kernel) rfl hq_83 rfl (z_le rfl) ⟨(SGn hS (by decide)), (SGk hS rfl), by decide⟩ h10 ?_
        refine Ev_iconst (v := 0) hq_107 (show decode prog_1_method_53_code 52 = .ok (.iconst 0, 1) by decide +kernel) (by decide) ?_
        refine Ev_istore (lo2 := [.ref 0, .int x1, .int x2, .int x3, .int r3, .int 6, .int 0, zU]) hq_107 (show decode prog_1_method_53_code 53 = .ok (.istore 6, 2) by decide +kernel) (z_le rfl) rfl ?_
        refine Ev_iconst (v := 0) hq_107 (show decode prog_1_method_53_code 55 = .ok (.iconst 0, 1) by decide +kernel) (by decide) ?_
        refine Ev_istore (lo2 := [.ref 0, .int x1, .int x2, .int x3, .int r3, .int 6, .int 0, .int 0]) hq_107 (show decode prog_1_method_53_code 56 = .ok (.istore 7, 2) by decide +kernel) (z_le rfl) rfl ?_
        exact k
    · have k := k.2 (Classical.not_not.mp c5)
      refine Ev_bipush (v := (-7)) hq_107 (show decode prog_1_method_53_code 25 = .ok (.bipush (-7), 2) by decide +kernel) (by decide) ?_
      exact Ev_iret hq_107 (show decode prog_1_method_53_code 27 = .ok (.ireturn, 1) by decide +kernel) rfl k
  · have k := k.2 c4
    refine Ev_iload hq_107 (show decode prog_1_method_53_code 13 = .ok (.iload 4, 2) by decide +kernel) rfl ?_
    exact Ev_iret hq_107 (show decode prog_1_method_53_code 15 = .ok (.ireturn, 1) by decide +kernel) rfl k
set_option maxRecDepth 20000 in
theorem wp_T_kinds_58 {X : Nat × (Nat → Int32)} {d : Nat} {G : zG} {I : zI} {res : Option Value × zG × zI} (x1 : Int32) (x2 : Int32) (x3 : Int32) (x4 : Int32) (x5 : Int32) (x6 : Int32) (x7 : Int32) (hS : SG G) 
    (k : (x5 ≤ x7 → res = (some (.int x6), G, I)) ∧ (¬ x5 ≤ x7 → (¬ x3 = 0 → z_inr x2 4 ∧ (∀ I4 : zI, I4 = z_up I 11 x2.toNatClampNeg x7 → ∃ (r7 : Int32) (I5 : zI), Cv X d 106 [.ref 0, .int x1, .int x2, .int x7] G I4 (some (.int r7), G, I5) ∧ (∀ y8 : Int32, y8 = (x6 ||| r7) → ∀ y9 : Int32, y9 = x7 + 1 → Ev X (d + 1) 107 58 [.ref 0, .int x1, .int x2, .int x3, .int x4, .int x5, .int y8, .int y9] [] G I5 res))) ∧ (x3 = 0 → z_inr x2 4 ∧ (∀ I11 : zI, I11 = z_up I 10 x2.toNatClampNeg x7 → ∃ (r14 : Int32) (I12 : zI), Cv X d 106 [.ref 0, .int x1, .int x2, .int x7] G I11 (some (.int r14), G, I12) ∧ (∀ y15 : Int32, y15 = (x6 ||| r14) → ∀ y16 : Int32, y16 = x7 + 1 → Ev X (d + 1) 107 58 [.ref 0, .int x1, .int x2, .int x3, .int x4, .int x5, .int y15, .int y16] [] G I12 res))))) :
    Ev X (d + 1) 107 58 [.ref 0, .int x1, .int x2, .int x3, .int x4, .int x5, .int x6, .int x7] [] G I res := by
  refine Ev_iload hq_107 (show decode prog_1_method_53_code 58 = .ok (.iload 7, 2) by decide +kernel) rfl ?_
  refine Ev_iload hq_107 (show decode prog_1_method_53_code 60 = .ok (.iload 5, 2) by decide +kernel) rfl ?_
  refine Ev_icmp_ge (tgt := 113) hq_107 (show decode prog_1_method_53_code 62 = .ok (.if_icmp .ge 51, 3) by decide +kernel) (by decide) (fun c1 => ?_) (fun c1 => ?_)
  · have k := k.1 c1
    refine Ev_iload hq_107 (show decode prog_1_method_53_code 113 = .ok (.iload 6, 2) by decide +kernel) rfl ?_
    exact Ev_iret hq_107 (show decode prog_1_method_53_code 115 = .ok (.ireturn, 1) by decide +kernel) rfl k
  · have k := k.2 c1
    refine Ev_iload_n hq_107 (show decode prog_1_method_53_code 65 = .ok (.iload_n 3, 1) by decide +kernel) rfl ?_
    refine Ev_if_ne (tgt := 83) hq_107 (show decode prog_1_method_53_code 66 = .ok (.ifCond .ne 17, 3) by decide +kernel) (by decide) (fun c2 => ?_) (fun c2 => ?_)
    · have k := k.1 c2
      refine Ev_aload_n hq_107 (show decode prog_1_method_53_code 83 = .ok (.aload_n 0, 1) by decide +kernel) rfl ?_
      refine Ev_getR hq_107 (show decode prog_1_method_53_code 84 = .ok (.getfield 16, 3) by decide +kernel) rfl (SGn hS (by decide)) (SGk hS rfl) (by decide) rfl (SGr hS rfl) ?_
      refine Ev_getR hq_107 (show decode prog_1_method_53_code 87 = .ok (.getfield 137, 3) by decide +kernel) rfl (SGn hS (by decide)) (SGk hS rfl) (by decide) rfl (SGr hS rfl) ?_
      refine Ev_iload_n hq_107 (show decode prog_1_method_53_code 90 = .ok (.iload_n 2, 1) by decide +kernel) rfl ?_
      refine Ev_iload hq_107 (show decode prog_1_method_53_code 91 = .ok (.iload 7, 2) by decide +kernel) rfl ?_
      obtain ⟨h3, k⟩ := k
      refine Ev_iast hq_107 (show decode prog_1_method_53_code 93 = .ok (.iastore, 1) by decide +kernel) (SGn hS (by decide)) (SGk hS rfl) (SGi hS rfl h3) ?_
      obtain ⟨I4, eI4⟩ : ∃ I4 : zI, I4 = z_up I 11 x2.toNatClampNeg x7 := ⟨_, rfl⟩
      have k := k I4 eI4
      rw [← eI4]
      refine Ev_iload hq_107 (show decode prog_1_method_53_code 94 = .ok (.iload 6, 2) by decide +kernel) rfl ?_
      refine Ev_aload_n hq_107 (show decode prog_1_method_53_code 96 = .ok (.aload_n 0, 1) by decide +kernel) rfl ?_
      refine Ev_iload_n hq_107 (show decode prog_1_method_53_code 97 = .ok (.iload_n 1, 1) by decide +kernel) rfl ?_
      refine Ev_iload_n hq_107 (show decode prog_1_method_53_code 98 = .ok (.iload_n 2, 1) by decide +kernel) rfl ?_
      refine Ev_iload hq_107 (show decode prog_1_method_53_code 99 = .ok (.iload 7, 2) by decide +kernel) rfl ?_
      obtain ⟨r7, I5, h6, k⟩ := k
      refine Ev_virt (as := [.int x1, .int x2, .int x7]) hq_107 (show decode prog_1_method_53_code 101 = .ok (.invokevirtual 275, 3) by decide +kernel) rfl hq_106 rfl (z_le rfl) ⟨(SGn hS (by decide)), (SGk hS rfl), by decide⟩ h6 ?_
      refine Ev_ior hq_107 (show decode prog_1_method_53_code 104 = .ok (.ior, 1) by decide +kernel) ?_
      obtain ⟨y8, ey8⟩ : ∃ y8 : Int32, y8 = (x6 ||| r7) := ⟨_, rfl⟩
      have k := k y8 ey8
      rw [← ey8]
      refine Ev_istore (lo2 := [.ref 0, .int x1, .int x2, .int x3, .int x4, .int x5, .int y8, .int x7]) hq_107 (show decode prog_1_method_53_code 105 = .ok (.istore 6, 2) by decide +kernel) (z_le rfl) rfl ?_
      obtain ⟨y9, ey9⟩ : ∃ y9 : Int32, y9 = x7 + 1 := ⟨_, rfl⟩
      have k := k y9 ey9
      refine Ev_iinc (v := y9) (lo2 := [.ref 0, .int x1, .int x2, .int x3, .int x4, .int x5, .int y8, .int y9]) hq_107 (show decode prog_1_method_53_code 107 = .ok (.iinc 7 1, 3) by decide +kernel) rfl (by rw [ey9]; rfl) rfl ?_
      refine Ev_goto (tgt := 58) hq_107 (show decode prog_1_method_53_code 110 = .ok (.goto (-52), 3) by decide +kernel) (by decide) ?_
      exact k
    · have k := k.2 (Classical.not_not.mp c2)
      refine Ev_aload_n hq_107 (show decode prog_1_method_53_code 69 = .ok (.aload_n 0, 1) by decide +kernel) rfl ?_
      refine Ev_getR hq_107 (show decode prog_1_method_53_code 70 = .ok (.getfield 16, 3) by decide +kernel) rfl (SGn hS (by decide)) (SGk hS rfl) (by decide) rfl (SGr hS rfl) ?_
      refine Ev_getR hq_107 (show decode prog_1_method_53_code 73 = .ok (.getfield 162, 3) by decide +kernel) rfl (SGn hS (by decide)) (SGk hS rfl) (by decide) rfl (SGr hS rfl) ?_
      refine Ev_iload_n hq_107 (show decode prog_1_method_53_code 76 = .ok (.iload_n 2, 1) by decide +kernel) rfl ?_
      refine Ev_iload hq_107 (show decode prog_1_method_53_code 77 = .ok (.iload 7, 2) by decide +kernel) rfl ?_
      obtain ⟨h10, k⟩ := k
      refine Ev_iast hq_107 (show decode prog_1_method_53_code 79 = .ok (.iastore, 1) by decide +kernel) (SGn hS (by decide)) (SGk hS rfl) (SGi hS rfl h10) ?_
      obtain ⟨I11, eI11⟩ : ∃ I11 : zI, I11 = z_up I 10 x2.toNatClampNeg x7 := ⟨_, rfl⟩
      have k := k I11 eI11
      rw [← eI11]
      refine Ev_goto (tgt := 94) hq_107 (show decode prog_1_method_53_code 80 = .ok (.goto 14, 3) by decide +kernel) (by decide) ?_
      refine Ev_iload hq_107 (show decode prog_1_method_53_code 94 = .ok (.iload 6, 2) by decide +kernel) rfl ?_
      refine Ev_aload_n hq_107 (show decode prog_1_method_53_code 96 = .ok (.aload_n 0, 1) by decide +kernel) rfl ?_
      refine Ev_iload_n hq_107 (show decode prog_1_method_53_code 97 = .ok (.iload_n 1, 1) by decide +kernel) rfl ?_
      refine Ev_iload_n hq_107 (show decode prog_1_method_53_code 98 = .ok (.iload_n 2, 1) by decide +kernel) rfl ?_
      refine Ev_iload hq_107 (show decode prog_1_method_53_code 99 = .ok (.iload 7, 2) by decide +kernel) rfl ?_
      obtain ⟨r14, I12, h13, k⟩ := k
      refine Ev_virt (as := [.int x1, .int x2, .int x7]) hq_107 (show decode prog_1_method_53_code 101 = .ok (.invokevirtual 275, 3) by decide +kernel) rfl hq_106 rfl (z_le rfl) ⟨(SGn hS (by decide)), (SGk hS rfl), by decide⟩ h13 ?_
      refine Ev_ior hq_107 (show decode prog_1_method_53_code 104 = .ok (.ior, 1) by decide +kernel) ?_
      obtain ⟨y15, ey15⟩ : ∃ y15 : Int32, y15 = (x6 ||| r14) := ⟨_, rfl⟩
      have k := k y15 ey15
      rw [← ey15]
      refine Ev_istore (lo2 := [.ref 0, .int x1, .int x2, .int x3, .int x4, .int x5, .int y15, .int x7]) hq_107 (show decode prog_1_method_53_code 105 = .ok (.istore 6, 2) by decide +kernel) (z_le rfl) rfl ?_
      obtain ⟨y16, ey16⟩ : ∃ y16 : Int32, y16 = x7 + 1 := ⟨_, rfl⟩
      have k := k y16 ey16
      refine Ev_iinc (v := y16) (lo2 := [.ref 0, .int x1, .int x2, .int x3, .int x4, .int x5, .int y15, .int y16]) hq_107 (show decode prog_1_method_53_code 107 = .ok (.iinc 7 1, 3) by decide +kernel) rfl (by rw [ey16]; rfl) rfl ?_
      refine Ev_goto (tgt := 58) hq_107 (show decode prog_1_method_53_code 110 = .ok (.goto (-52), 3) by decide +kernel) (by decide) ?_
      exact k
set_option maxRecDepth 20000 in
theorem wp_T_laws {X : Nat × (Nat → Int32)} {d : Nat} {G : zG} {I : zI} {res : Option Value × zG × zI} (x1 : Int32) (x2 : Int32) (hS : SG G) 
    (k : ∃ (r3 : Int32) (I1 : zI), Cv X d 100 [.ref 0, .int x1, .int x2] G I (some (.int r3), G, I1) ∧ ((r3 = 0 → ∃ (I5 : zI), Cv X d 83 [.ref 9, .ref 1] G I1 (none, G, I5) ∧ (Ev X (d + 1) 108 30 [.ref 0, .int x1, .int x2, .int r3, .int 0, .int 0] [] G I5 res)) ∧ (¬ r3 = 0 → res = (some (.int r3), G, I1)))) :
    Ev X (d + 1) 108 0 [.ref 0, .int x1, .int x2, zU, zU, zU] [] G I res := by
  refine Ev_aload_n hq_108 (show decode prog_1_method_54_code 0 = .ok (.aload_n 0, 1) by decide +kernel) rfl ?_
  refine Ev_iload_n hq_108 (show decode prog_1_method_54_code 1 = .ok (.iload_n 1, 1) by decide +kernel) rfl ?_
  refine Ev_iload_n hq_108 (show decode prog_1_method_54_code 2 = .ok (.iload_n 2, 1) by decide +kernel) rfl ?_
  obtain ⟨r3, I1, h2, k⟩ := k
  refine Ev_virt (as := [.int x1, .int x2]) hq_108 (show decode prog_1_method_54_code 3 = .ok (.invokevirtual 263, 3) by decide +kernel) rfl hq_100 rfl (z_le rfl) ⟨(SGn hS (by decide)), (SGk hS rfl), by decide⟩ h2 ?_
  refine Ev_istore_n (lo2 := [.ref 0, .int x1, .int x2, .int r3, zU, zU]) hq_108 (show decode prog_1_method_54_code 6 = .ok (.istore_n 3, 1) by decide +kernel) (z_le rfl) rfl ?_
  refine Ev_iload_n hq_108 (show decode prog_1_method_54_code 7 = .ok (.iload_n 3, 1) by decide +kernel) rfl ?_
  refine Ev_if_eq (tgt := 13) hq_108 (show decode prog_1_method_54_code 8 = .ok (.ifCond .eq 5, 3) by decide +kernel) (by decide) (fun c4 => ?_) (fun c4 => ?_)
  · have k := k.1 c4
    refine Ev_aload_n hq_108 (show decode prog_1_method_54_code 13 = .ok (.aload_n 0, 1) by decide +kernel) rfl ?_
    refine Ev_getR hq_108 (show decode prog_1_method_54_code 14 = .ok (.getfield 16, 3) by decide +kernel) rfl (SGn hS (by decide)) (SGk hS rfl) (by decide) rfl (SGr hS rfl) ?_
    refine Ev_aload_n hq_108 (show decode prog_1_method_54_code 17 = .ok (.aload_n 0, 1) by decide +kernel) rfl ?_
    refine Ev_getR hq_108 (show decode prog_1_method_54_code 18 = .ok (.getfield 10, 3) by decide +kernel) rfl (SGn hS (by decide)) (SGk hS rfl) (by decide) rfl (SGr hS rfl) ?_
    obtain ⟨I5, h6, k⟩ := k
    refine Ev_virt (as := [.ref 1]) hq_108 (show decode prog_1_method_54_code 21 = .ok (.invokevirtual 230, 3) by decide +kernel) rfl hq_83 rfl (z_le rfl) ⟨(SGn hS (by decide)), (SGk hS rfl), by decide⟩ h6 ?_
    refine Ev_iconst (v := 0) hq_108 (show decode prog_1_method_54_code 24 = .ok (.iconst 0, 1) by decide +kernel) (by decide) ?_
    refine Ev_istore (lo2 := [.ref 0, .int x1, .int x2, .int r3, .int 0, zU]) hq_108 (show decode prog_1_method_54_code 25 = .ok (.istore 4, 2) by decide +kernel) (z_le rfl) rfl ?_
    refine Ev_iconst (v := 0) hq_108 (show decode prog_1_method_54_code 27 = .ok (.iconst 0, 1) by decide +kernel) (by decide) ?_
    refine Ev_istore (lo2 := [.ref 0, .int x1, .int x2, .int r3, .int 0, .int 0]) hq_108 (show decode prog_1_method_54_code 28 = .ok (.istore 5, 2) by decide +kernel) (z_le rfl) rfl ?_
    exact k
  · have k := k.2 c4
    refine Ev_iload_n hq_108 (show decode prog_1_method_54_code 11 = .ok (.iload_n 3, 1) by decide +kernel) rfl ?_
    exact Ev_iret hq_108 (show decode prog_1_method_54_code 12 = .ok (.ireturn, 1) by decide +kernel) rfl k
set_option maxRecDepth 20000 in
theorem wp_T_laws_30 {X : Nat × (Nat → Int32)} {d : Nat} {G : zG} {I : zI} {res : Option Value × zG × zI} (x1 : Int32) (x2 : Int32) (x3 : Int32) (x4 : Int32) (x5 : Int32) (hS : SG G) 
    (k : ((I 0 7) ≤ x5 → res = (some (.int x4), G, I)) ∧ (¬ (I 0 7) ≤ x5 → (∀ I2 : zI, I2 = z_up I 9 8 x5 → ∃ (r5 : Int32) (I3 : zI), Cv X d 106 [.ref 0, .int x1, .int x2, .int x5] G I2 (some (.int r5), G, I3) ∧ (∀ y6 : Int32, y6 = (x4 ||| r5) → ∀ y7 : Int32, y7 = x5 + 1 → Ev X (d + 1) 108 30 [.ref 0, .int x1, .int x2, .int x3, .int y6, .int y7] [] G I3 res)))) :
    Ev X (d + 1) 108 30 [.ref 0, .int x1, .int x2, .int x3, .int x4, .int x5] [] G I res := by
  refine Ev_iload hq_108 (show decode prog_1_method_54_code 30 = .ok (.iload 5, 2) by decide +kernel) rfl ?_
  refine Ev_aload_n hq_108 (show decode prog_1_method_54_code 32 = .ok (.aload_n 0, 1) by decide +kernel) rfl ?_
  refine Ev_getI hq_108 (show decode prog_1_method_54_code 33 = .ok (.getfield 46, 3) by decide +kernel) rfl (SGn hS (by decide)) (SGk hS rfl) (by decide) rfl ?_
  refine Ev_icmp_ge (tgt := 67) hq_108 (show decode prog_1_method_54_code 36 = .ok (.if_icmp .ge 31, 3) by decide +kernel) (by decide) (fun c1 => ?_) (fun c1 => ?_)
  · have k := k.1 c1
    refine Ev_iload hq_108 (show decode prog_1_method_54_code 67 = .ok (.iload 4, 2) by decide +kernel) rfl ?_
    exact Ev_iret hq_108 (show decode prog_1_method_54_code 69 = .ok (.ireturn, 1) by decide +kernel) rfl k
  · have k := k.2 c1
    refine Ev_aload_n hq_108 (show decode prog_1_method_54_code 39 = .ok (.aload_n 0, 1) by decide +kernel) rfl ?_
    refine Ev_getR hq_108 (show decode prog_1_method_54_code 40 = .ok (.getfield 16, 3) by decide +kernel) rfl (SGn hS (by decide)) (SGk hS rfl) (by decide) rfl (SGr hS rfl) ?_
    refine Ev_iload hq_108 (show decode prog_1_method_54_code 43 = .ok (.iload 5, 2) by decide +kernel) rfl ?_
    refine Ev_putI hq_108 (show decode prog_1_method_54_code 45 = .ok (.putfield 106, 3) by decide +kernel) rfl (SGn hS (by decide)) (SGk hS rfl) (by decide) (by decide) rfl (fun hz => by cases hz) ?_
    obtain ⟨I2, eI2⟩ : ∃ I2 : zI, I2 = z_up I 9 8 x5 := ⟨_, rfl⟩
    have k := k I2 eI2
    rw [← eI2]
    refine Ev_iload hq_108 (show decode prog_1_method_54_code 48 = .ok (.iload 4, 2) by decide +kernel) rfl ?_
    refine Ev_aload_n hq_108 (show decode prog_1_method_54_code 50 = .ok (.aload_n 0, 1) by decide +kernel) rfl ?_
    refine Ev_iload_n hq_108 (show decode prog_1_method_54_code 51 = .ok (.iload_n 1, 1) by decide +kernel) rfl ?_
    refine Ev_iload_n hq_108 (show decode prog_1_method_54_code 52 = .ok (.iload_n 2, 1) by decide +kernel) rfl ?_
    refine Ev_iload hq_108 (show decode prog_1_method_54_code 53 = .ok (.iload 5, 2) by decide +kernel) rfl ?_
    obtain ⟨r5, I3, h4, k⟩ := k
    refine Ev_virt (as := [.int x1, .int x2, .int x5]) hq_108 (show decode prog_1_method_54_code 55 = .ok (.invokevirtual 275, 3) by decide +kernel) rfl hq_106 rfl (z_le rfl) ⟨(SGn hS (by decide)), (SGk hS rfl), by decide⟩ h4 ?_
    refine Ev_ior hq_108 (show decode prog_1_method_54_code 58 = .ok (.ior, 1) by decide +kernel) ?_
    obtain ⟨y6, ey6⟩ : ∃ y6 : Int32, y6 = (x4 ||| r5) := ⟨_, rfl⟩
    have k := k y6 ey6
    rw [← ey6]
    refine Ev_istore (lo2 := [.ref 0, .int x1, .int x2, .int x3, .int y6, .int x5]) hq_108 (show decode prog_1_method_54_code 59 = .ok (.istore 4, 2) by decide +kernel) (z_le rfl) rfl ?_
    obtain ⟨y7, ey7⟩ : ∃ y7 : Int32, y7 = x5 + 1 := ⟨_, rfl⟩
    have k := k y7 ey7
    refine Ev_iinc (v := y7) (lo2 := [.ref 0, .int x1, .int x2, .int x3, .int y6, .int y7]) hq_108 (show decode prog_1_method_54_code 61 = .ok (.iinc 5 1, 3) by decide +kernel) rfl (by rw [ey7]; rfl) rfl ?_
    refine Ev_goto (tgt := 30) hq_108 (show decode prog_1_method_54_code 64 = .ok (.goto (-34), 3) by decide +kernel) (by decide) ?_
    exact k
set_option maxRecDepth 20000 in
theorem wp_T_film {X : Nat × (Nat → Int32)} {d : Nat} {G : zG} {I : zI} {res : Option Value × zG × zI} (x1 : Int32) (x2 : Int32) (x3 : Int32) (hd : 1 ≤ d) (hS : SG G) 
    (k : (¬ (f_T_isSheet x1) = 0 → (¬ (f_T_isShower I x2) = 0 → (¬ (f_T_within x3 0 30) = 0 → ∃ (I4 : zI), Cv X d 62 [.ref 0, .ref 1] G I (none, G, I4) ∧ (z_inr x1 4 ∧ (∀ I7 : zI, I7 = z_up I4 50 x1.toNatClampNeg 2 → z_inr x1 4 ∧ (∀ I9 : zI, I9 = z_up I7 51 x1.toNatClampNeg x3 → z_inr x2 4 ∧ (z_inr x1 4 ∧ ((0 ≤ (0 : Int32) ∧ 0 ≤ (0 : Int32) ∧ 0 ≤ (x3 : Int32) ∧ (0 : Int32).toNatClampNeg + (x3 : Int32).toNatClampNeg ≤ zl G (27 + x2.toNatClampNeg) ∧ (0 : Int32).toNatClampNeg + (x3 : Int32).toNatClampNeg ≤ zl G (46 + x1.toNatClampNeg)) ∧ (∀ I15 : zI, I15 = va_up I9 (46 + x1.toNatClampNeg) (va_cpy (I9 (27 + x2.toNatClampNeg)) (I9 (46 + x1.toNatClampNeg)) (0 : Int32).toNatClampNeg (0 : Int32).toNatClampNeg (x3 : Int32).toNatClampNeg) → res = (some (.int x3), G, I15)))))))) ∧ ((f_T_within x3 0 30) = 0 → res = (some (.int (-7)), G, I))) ∧ ((f_T_isShower I x2) = 0 → res = (some (.int (-5)), G, I))) ∧ ((f_T_isSheet x1) = 0 → res = (some (.int (-2)), G, I))) :
    Ev X (d + 1) 109 0 [.ref 0, .int x1, .int x2, .int x3] [] G I res := by
  refine Ev_iload_n hq_109 (show decode prog_1_method_55_code 0 = .ok (.iload_n 1, 1) by decide +kernel) rfl ?_
  refine Ev_stat (as := [.int x1]) hq_109 (show decode prog_1_method_55_code 1 = .ok (.invokestatic 269, 3) by decide +kernel) rfl (Or.inl rfl) hq_102 rfl (z_le rfl) (c_T_isSheet (by omega) x1) ?_
  refine Ev_if_ne (tgt := 10) hq_109 (show decode prog_1_method_55_code 4 = .ok (.ifCond .ne 6, 3) by decide +kernel) (by decide) (fun c1 => ?_) (fun c1 => ?_)
  · have k := k.1 c1
    refine Ev_aload_n hq_109 (show decode prog_1_method_55_code 10 = .ok (.aload_n 0, 1) by decide +kernel) rfl ?_
    refine Ev_iload_n hq_109 (show decode prog_1_method_55_code 11 = .ok (.iload_n 2, 1) by decide +kernel) rfl ?_
    refine Ev_virt (as := [.int x2]) hq_109 (show decode prog_1_method_55_code 12 = .ok (.invokevirtual 120, 3) by decide +kernel) rfl hq_45 rfl (z_le rfl) ⟨(SGn hS (by decide)), (SGk hS rfl), by decide⟩ (c_T_isShower (by omega) hS x2) ?_
    refine Ev_if_ne (tgt := 21) hq_109 (show decode prog_1_method_55_code 15 = .ok (.ifCond .ne 6, 3) by decide +kernel) (by decide) (fun c2 => ?_) (fun c2 => ?_)
    · have k := k.1 c2
      refine Ev_iload_n hq_109 (show decode prog_1_method_55_code 21 = .ok (.iload_n 3, 1) by decide +kernel) rfl ?_
      refine Ev_iconst (v := 0) hq_109 (show decode prog_1_method_55_code 22 = .ok (.iconst 0, 1) by decide +kernel) (by decide) ?_
      refine Ev_bipush (v := 30) hq_109 (show decode prog_1_method_55_code 23 = .ok (.bipush 30, 2) by decide +kernel) (by decide) ?_
      refine Ev_stat (as := [.int x3, .int 0, .int 30]) hq_109 (show decode prog_1_method_55_code 25 = .ok (.invokestatic 108, 3) by decide +kernel) rfl (Or.inl rfl) hq_32 rfl (z_le rfl) (c_T_within x3 0 30) ?_
      refine Ev_if_ne (tgt := 34) hq_109 (show decode prog_1_method_55_code 28 = .ok (.ifCond .ne 6, 3) by decide +kernel) (by decide) (fun c3 => ?_) (fun c3 => ?_)
      · have k := k.1 c3
        refine Ev_aload_n hq_109 (show decode prog_1_method_55_code 34 = .ok (.aload_n 0, 1) by decide +kernel) rfl ?_
        refine Ev_aload_n hq_109 (show decode prog_1_method_55_code 35 = .ok (.aload_n 0, 1) by decide +kernel) rfl ?_
        refine Ev_getR hq_109 (show decode prog_1_method_55_code 36 = .ok (.getfield 10, 3) by decide +kernel) rfl (SGn hS (by decide)) (SGk hS rfl) (by decide) rfl (SGr hS rfl) ?_
        obtain ⟨I4, h5, k⟩ := k
        refine Ev_virt (as := [.ref 1]) hq_109 (show decode prog_1_method_55_code 39 = .ok (.invokevirtual 187, 3) by decide +kernel) rfl hq_62 rfl (z_le rfl) ⟨(SGn hS (by decide)), (SGk hS rfl), by decide⟩ h5 ?_
        refine Ev_aload_n hq_109 (show decode prog_1_method_55_code 42 = .ok (.aload_n 0, 1) by decide +kernel) rfl ?_
        refine Ev_getR hq_109 (show decode prog_1_method_55_code 43 = .ok (.getfield 62, 3) by decide +kernel) rfl (SGn hS (by decide)) (SGk hS rfl) (by decide) rfl (SGr hS rfl) ?_
        refine Ev_iload_n hq_109 (show decode prog_1_method_55_code 46 = .ok (.iload_n 1, 1) by decide +kernel) rfl ?_
        refine Ev_iconst (v := 2) hq_109 (show decode prog_1_method_55_code 47 = .ok (.iconst 2, 1) by decide +kernel) (by decide) ?_
        obtain ⟨h6, k⟩ := k
        refine Ev_iast hq_109 (show decode prog_1_method_55_code 48 = .ok (.iastore, 1) by decide +kernel) (SGn hS (by decide)) (SGk hS rfl) (SGi hS rfl h6) ?_
        obtain ⟨I7, eI7⟩ : ∃ I7 : zI, I7 = z_up I4 50 x1.toNatClampNeg 2 := ⟨_, rfl⟩
        have k := k I7 eI7
        rw [← eI7]
        refine Ev_aload_n hq_109 (show decode prog_1_method_55_code 49 = .ok (.aload_n 0, 1) by decide +kernel) rfl ?_
        refine Ev_getR hq_109 (show decode prog_1_method_55_code 50 = .ok (.getfield 65, 3) by decide +kernel) rfl (SGn hS (by decide)) (SGk hS rfl) (by decide) rfl (SGr hS rfl) ?_
        refine Ev_iload_n hq_109 (show decode prog_1_method_55_code 53 = .ok (.iload_n 1, 1) by decide +kernel) rfl ?_
        refine Ev_iload_n hq_109 (show decode prog_1_method_55_code 54 = .ok (.iload_n 3, 1) by decide +kernel) rfl ?_
        obtain ⟨h8, k⟩ := k
        refine Ev_iast hq_109 (show decode prog_1_method_55_code 55 = .ok (.iastore, 1) by decide +kernel) (SGn hS (by decide)) (SGk hS rfl) (SGi hS rfl h8) ?_
        obtain ⟨I9, eI9⟩ : ∃ I9 : zI, I9 = z_up I7 51 x1.toNatClampNeg x3 := ⟨_, rfl⟩
        have k := k I9 eI9
        rw [← eI9]
        refine Ev_aload_n hq_109 (show decode prog_1_method_55_code 56 = .ok (.aload_n 0, 1) by decide +kernel) rfl ?_
        refine Ev_getR hq_109 (show decode prog_1_method_55_code 57 = .ok (.getfield 29, 3) by decide +kernel) rfl (SGn hS (by decide)) (SGk hS rfl) (by decide) rfl (SGr hS rfl) ?_
        refine Ev_getR hq_109 (show decode prog_1_method_55_code 60 = .ok (.getfield 191, 3) by decide +kernel) rfl (SGn hS (by decide)) (SGk hS rfl) (by decide) rfl (SGr hS rfl) ?_
        refine Ev_iload_n hq_109 (show decode prog_1_method_55_code 63 = .ok (.iload_n 2, 1) by decide +kernel) rfl ?_
        obtain ⟨h10, k⟩ := k
        have r11 := SGrow hS (a := 26) (b := 27) (n := 30) (Or.inl ⟨rfl, rfl, rfl⟩) h10.2
        refine Ev_aald hq_109 (show decode prog_1_method_55_code 64 = .ok (.aaload, 1) by decide +kernel) (SGn hS (by decide)) (Or.inr (SGk hS rfl)) (SGi hS rfl h10) r11.1 ?_
        refine Ev_iconst (v := 0) hq_109 (show decode prog_1_method_55_code 65 = .ok (.iconst 0, 1) by decide +kernel) (by decide) ?_
        refine Ev_aload_n hq_109 (show decode prog_1_method_55_code 66 = .ok (.aload_n 0, 1) by decide +kernel) rfl ?_
        refine Ev_getR hq_109 (show decode prog_1_method_55_code 67 = .ok (.getfield 59, 3) by decide +kernel) rfl (SGn hS (by decide)) (SGk hS rfl) (by decide) rfl (SGr hS rfl) ?_
        refine Ev_iload_n hq_109 (show decode prog_1_method_55_code 70 = .ok (.iload_n 1, 1) by decide +kernel) rfl ?_
        obtain ⟨h12, k⟩ := k
        have r13 := SGrow hS (a := 45) (b := 46) (n := 40) (Or.inr (Or.inr ⟨rfl, rfl, rfl⟩)) h12.2
        refine Ev_aald hq_109 (show decode prog_1_method_55_code 71 = .ok (.aaload, 1) by decide +kernel) (SGn hS (by decide)) (Or.inr (SGk hS rfl)) (SGi hS rfl h12) r13.1 ?_
        refine Ev_iconst (v := 0) hq_109 (show decode prog_1_method_55_code 72 = .ok (.iconst 0, 1) by decide +kernel) (by decide) ?_
        refine Ev_iload_n hq_109 (show decode prog_1_method_55_code 73 = .ok (.iload_n 3, 1) by decide +kernel) rfl ?_
        obtain ⟨h14, k⟩ := k
        refine Ev_copy hq_109 (show decode prog_1_method_55_code 74 = .ok (.invokestatic 278, 3) by decide +kernel) rfl ⟨z_le rfl, r11.2.1, r13.2.1, r11.2.2.1, r13.2.2.1, h14⟩ ?_
        obtain ⟨I15, eI15⟩ : ∃ I15 : zI, I15 = va_up I9 (46 + x1.toNatClampNeg) (va_cpy (I9 (27 + x2.toNatClampNeg)) (I9 (46 + x1.toNatClampNeg)) (0 : Int32).toNatClampNeg (0 : Int32).toNatClampNeg (x3 : Int32).toNatClampNeg) := ⟨_, rfl⟩
        have k := k I15 eI15
        rw [← eI15]
        refine Ev_iload_n hq_109 (show decode prog_1_method_55_code 77 = .ok (.iload_n 3, 1) by decide +kernel) rfl ?_
        exact Ev_iret hq_109 (show decode prog_1_method_55_code 78 = .ok (.ireturn, 1) by decide +kernel) rfl k
      · have k := k.2 (Classical.not_not.mp c3)
        refine Ev_bipush (v := (-7)) hq_109 (show decode prog_1_method_55_code 31 = .ok (.bipush (-7), 2) by decide +kernel) (by decide) ?_
        exact Ev_iret hq_109 (show decode prog_1_method_55_code 33 = .ok (.ireturn, 1) by decide +kernel) rfl k
    · have k := k.2 (Classical.not_not.mp c2)
      refine Ev_bipush (v := (-5)) hq_109 (show decode prog_1_method_55_code 18 = .ok (.bipush (-5), 2) by decide +kernel) (by decide) ?_
      exact Ev_iret hq_109 (show decode prog_1_method_55_code 20 = .ok (.ireturn, 1) by decide +kernel) rfl k
  · have k := k.2 (Classical.not_not.mp c1)
    refine Ev_bipush (v := (-2)) hq_109 (show decode prog_1_method_55_code 7 = .ok (.bipush (-2), 2) by decide +kernel) (by decide) ?_
    exact Ev_iret hq_109 (show decode prog_1_method_55_code 9 = .ok (.ireturn, 1) by decide +kernel) rfl k
set_option maxRecDepth 20000 in
theorem wp_T_criers {X : Nat × (Nat → Int32)} {d : Nat} {G : zG} {I : zI} {res : Option Value × zG × zI} (x1 : Int32) (hS : SG G) 
    (k : ∃ (r3 : Int32) (I1 : zI), Cv X d 101 [.ref 0, .int x1] G I (some (.int r3), G, I1) ∧ ((r3 = 0 → ∃ (I5 : zI), Cv X d 62 [.ref 0, .ref 1] G I1 (none, G, I5) ∧ (z_inr x1 4 ∧ (∀ y8 : Int32, y8 = (if 40 < (I5 51 x1.toNatClampNeg) then 40 else (I5 51 x1.toNatClampNeg)) → ∀ y9 : Int32, y9 = ((1 <<< ((I5 1 7) &&& 31)) - 1) → Ev X (d + 1) 110 48 [.ref 0, .int x1, .int r3, .int y8, .int y9, .int 0, zU] [] G I5 res))) ∧ (¬ r3 = 0 → res = (some (.int r3), G, I1)))) :
    Ev X (d + 1) 110 0 [.ref 0, .int x1, zU, zU, zU, zU, zU] [] G I res := by
  refine Ev_aload_n hq_110 (show decode prog_1_method_56_code 0 = .ok (.aload_n 0, 1) by decide +kernel) rfl ?_
  refine Ev_iload_n hq_110 (show decode prog_1_method_56_code 1 = .ok (.iload_n 1, 1) by decide +kernel) rfl ?_
  obtain ⟨r3, I1, h2, k⟩ := k
  refine Ev_virt (as := [.int x1]) hq_110 (show decode prog_1_method_56_code 2 = .ok (.invokevirtual 272, 3) by decide +kernel) rfl hq_101 rfl (z_le rfl) ⟨(SGn hS (by decide)), (SGk hS rfl), by decide⟩ h2 ?_
  refine Ev_istore_n (lo2 := [.ref 0, .int x1, .int r3, zU, zU, zU, zU]) hq_110 (show decode prog_1_method_56_code 5 = .ok (.istore_n 2, 1) by decide +kernel) (z_le rfl) rfl ?_
  refine Ev_iload_n hq_110 (show decode prog_1_method_56_code 6 = .ok (.iload_n 2, 1) by decide +kernel) rfl ?_
  refine Ev_if_eq (tgt := 12) hq_110 (show decode prog_1_method_56_code 7 = .ok (.ifCond .eq 5, 3) by decide +kernel) (by decide) (fun c4 => ?_) (fun c4 => ?_)
  · have k := k.1 c4
    refine Ev_aload_n hq_110 (show decode prog_1_method_56_code 12 = .ok (.aload_n 0, 1) by decide +kernel) rfl ?_
    refine Ev_aload_n hq_110 (show decode prog_1_method_56_code 13 = .ok (.aload_n 0, 1) by decide +kernel) rfl ?_
    refine Ev_getR hq_110 (show decode prog_1_method_56_code 14 = .ok (.getfield 10, 3) by decide +kernel) rfl (SGn hS (by decide)) (SGk hS rfl) (by decide) rfl (SGr hS rfl) ?_
    obtain ⟨I5, h6, k⟩ := k
    refine Ev_virt (as := [.ref 1]) hq_110 (show decode prog_1_method_56_code 17 = .ok (.invokevirtual 187, 3) by decide +kernel) rfl hq_62 rfl (z_le rfl) ⟨(SGn hS (by decide)), (SGk hS rfl), by decide⟩ h6 ?_
    refine Ev_aload_n hq_110 (show decode prog_1_method_56_code 20 = .ok (.aload_n 0, 1) by decide +kernel) rfl ?_
    refine Ev_getR hq_110 (show decode prog_1_method_56_code 21 = .ok (.getfield 65, 3) by decide +kernel) rfl (SGn hS (by decide)) (SGk hS rfl) (by decide) rfl (SGr hS rfl) ?_
    refine Ev_iload_n hq_110 (show decode prog_1_method_56_code 24 = .ok (.iload_n 1, 1) by decide +kernel) rfl ?_
    obtain ⟨h7, k⟩ := k
    refine Ev_iald hq_110 (show decode prog_1_method_56_code 25 = .ok (.iaload, 1) by decide +kernel) (SGn hS (by decide)) (SGk hS rfl) (SGi hS rfl h7) ?_
    refine Ev_bipush (v := 40) hq_110 (show decode prog_1_method_56_code 26 = .ok (.bipush 40, 2) by decide +kernel) (by decide) ?_
    refine Ev_min hq_110 (show decode prog_1_method_56_code 28 = .ok (.invokestatic 76, 3) by decide +kernel) rfl (z_le rfl) ?_
    obtain ⟨y8, ey8⟩ : ∃ y8 : Int32, y8 = (if 40 < (I5 51 x1.toNatClampNeg) then 40 else (I5 51 x1.toNatClampNeg)) := ⟨_, rfl⟩
    have k := k y8 ey8
    rw [← ey8]
    refine Ev_istore_n (lo2 := [.ref 0, .int x1, .int r3, .int y8, zU, zU, zU]) hq_110 (show decode prog_1_method_56_code 31 = .ok (.istore_n 3, 1) by decide +kernel) (z_le rfl) rfl ?_
    refine Ev_iconst (v := 1) hq_110 (show decode prog_1_method_56_code 32 = .ok (.iconst 1, 1) by decide +kernel) (by decide) ?_
    refine Ev_aload_n hq_110 (show decode prog_1_method_56_code 33 = .ok (.aload_n 0, 1) by decide +kernel) rfl ?_
    refine Ev_getR hq_110 (show decode prog_1_method_56_code 34 = .ok (.getfield 10, 3) by decide +kernel) rfl (SGn hS (by decide)) (SGk hS rfl) (by decide) rfl (SGr hS rfl) ?_
    refine Ev_getI hq_110 (show decode prog_1_method_56_code 37 = .ok (.getfield 100, 3) by decide +kernel) rfl (SGn hS (by decide)) (SGk hS rfl) (by decide) rfl ?_
    refine Ev_ishl hq_110 (show decode prog_1_method_56_code 40 = .ok (.ishl, 1) by decide +kernel) ?_
    refine Ev_iconst (v := 1) hq_110 (show decode prog_1_method_56_code 41 = .ok (.iconst 1, 1) by decide +kernel) (by decide) ?_
    refine Ev_isub hq_110 (show decode prog_1_method_56_code 42 = .ok (.isub, 1) by decide +kernel) ?_
    obtain ⟨y9, ey9⟩ : ∃ y9 : Int32, y9 = ((1 <<< ((I5 1 7) &&& 31)) - 1) := ⟨_, rfl⟩
    have k := k y9 ey9
    rw [← ey9]
    refine Ev_istore (lo2 := [.ref 0, .int x1, .int r3, .int y8, .int y9, zU, zU]) hq_110 (show decode prog_1_method_56_code 43 = .ok (.istore 4, 2) by decide +kernel) (z_le rfl) rfl ?_
    refine Ev_iconst (v := 0) hq_110 (show decode prog_1_method_56_code 45 = .ok (.iconst 0, 1) by decide +kernel) (by decide) ?_
    refine Ev_istore (lo2 := [.ref 0, .int x1, .int r3, .int y8, .int y9, .int 0, zU]) hq_110 (show decode prog_1_method_56_code 46 = .ok (.istore 5, 2) by decide +kernel) (z_le rfl) rfl ?_
    exact k
  · have k := k.2 c4
    refine Ev_iload_n hq_110 (show decode prog_1_method_56_code 10 = .ok (.iload_n 2, 1) by decide +kernel) rfl ?_
    exact Ev_iret hq_110 (show decode prog_1_method_56_code 11 = .ok (.ireturn, 1) by decide +kernel) rfl k
set_option maxRecDepth 20000 in
theorem wp_T_criers_48 {X : Nat × (Nat → Int32)} {d : Nat} {G : zG} {I : zI} {res : Option Value × zG × zI} (x1 : Int32) (x2 : Int32) (x3 : Int32) (x4 : Int32) (x5 : Int32) (v6 : Value) (cv6 : v6.category = 1) (hd : 1 ≤ d) (hS : SG G) 
    (k : (x3 ≤ x5 → res = (some (.int x4), G, I)) ∧ (¬ x3 ≤ x5 → z_inr x1 4 ∧ (z_inr x5 40 ∧ (∀ y5 : Int32, y5 = (I (46 + x1.toNatClampNeg) x5.toNatClampNeg) → ((f_T_isBeat y5) = 0 → ∀ y7 : Int32, y7 = (x4 &&& 0) → ∀ y8 : Int32, y8 = x5 + 1 → Ev X (d + 1) 110 48 [.ref 0, .int x1, .int x2, .int x3, .int y7, .int y8, .int y5] [] G I res) ∧ (¬ (f_T_isBeat y5) = 0 → ∃ (r11 : Int32) (I9 : zI), Cv X d 79 [.ref 25, .int y5, .int (I 1 7)] G I (some (.int r11), G, I9) ∧ (∀ y12 : Int32, y12 = (x4 &&& r11) → ∀ y13 : Int32, y13 = x5 + 1 → Ev X (d + 1) 110 48 [.ref 0, .int x1, .int x2, .int x3, .int y12, .int y13, .int y5] [] G I9 res)))))) :
    Ev X (d + 1) 110 48 [.ref 0, .int x1, .int x2, .int x3, .int x4, .int x5, v6] [] G I res := by
  refine Ev_iload hq_110 (show decode prog_1_method_56_code 48 = .ok (.iload 5, 2) by decide +kernel) rfl ?_
  refine Ev_iload_n hq_110 (show decode prog_1_method_56_code 50 = .ok (.iload_n 3, 1) by decide +kernel) rfl ?_
  refine Ev_icmp_ge (tgt := 104) hq_110 (show decode prog_1_method_56_code 51 = .ok (.if_icmp .ge 53, 3) by decide +kernel) (by decide) (fun c1 => ?_) (fun c1 => ?_)
  · have k := k.1 c1
    refine Ev_iload hq_110 (show decode prog_1_method_56_code 104 = .ok (.iload 4, 2) by decide +kernel) rfl ?_
    exact Ev_iret hq_110 (show decode prog_1_method_56_code 106 = .ok (.ireturn, 1) by decide +kernel) rfl k
  · have k := k.2 c1
    refine Ev_aload_n hq_110 (show decode prog_1_method_56_code 54 = .ok (.aload_n 0, 1) by decide +kernel) rfl ?_
    refine Ev_getR hq_110 (show decode prog_1_method_56_code 55 = .ok (.getfield 59, 3) by decide +kernel) rfl (SGn hS (by decide)) (SGk hS rfl) (by decide) rfl (SGr hS rfl) ?_
    refine Ev_iload_n hq_110 (show decode prog_1_method_56_code 58 = .ok (.iload_n 1, 1) by decide +kernel) rfl ?_
    obtain ⟨h2, k⟩ := k
    have r3 := SGrow hS (a := 45) (b := 46) (n := 40) (Or.inr (Or.inr ⟨rfl, rfl, rfl⟩)) h2.2
    refine Ev_aald hq_110 (show decode prog_1_method_56_code 59 = .ok (.aaload, 1) by decide +kernel) (SGn hS (by decide)) (Or.inr (SGk hS rfl)) (SGi hS rfl h2) r3.1 ?_
    refine Ev_iload hq_110 (show decode prog_1_method_56_code 60 = .ok (.iload 5, 2) by decide +kernel) rfl ?_
    obtain ⟨h4, k⟩ := k
    refine Ev_iald hq_110 (show decode prog_1_method_56_code 62 = .ok (.iaload, 1) by decide +kernel) r3.2.1 r3.2.2.1 (by rw [r3.2.2.2]; exact h4) ?_
    obtain ⟨y5, ey5⟩ : ∃ y5 : Int32, y5 = (I (46 + x1.toNatClampNeg) x5.toNatClampNeg) := ⟨_, rfl⟩
    have k := k y5 ey5
    rw [← ey5]
    refine Ev_istore (lo2 := [.ref 0, .int x1, .int x2, .int x3, .int x4, .int x5, .int y5]) hq_110 (show decode prog_1_method_56_code 63 = .ok (.istore 6, 2) by decide +kernel) (z_le rfl) rfl ?_
    refine Ev_iload hq_110 (show decode prog_1_method_56_code 65 = .ok (.iload 4, 2) by decide +kernel) rfl ?_
    refine Ev_iload hq_110 (show decode prog_1_method_56_code 67 = .ok (.iload 6, 2) by decide +kernel) rfl ?_
    refine Ev_stat (as := [.int y5]) hq_110 (show decode prog_1_method_56_code 69 = .ok (.invokestatic 127, 3) by decide +kernel) rfl (Or.inl rfl) hq_47 rfl (z_le rfl) (c_T_isBeat (by omega) y5) ?_
    refine Ev_if_eq (tgt := 94) hq_110 (show decode prog_1_method_56_code 72 = .ok (.ifCond .eq 22, 3) by decide +kernel) (by decide) (fun c6 => ?_) (fun c6 => ?_)
    · have k := k.1 c6
      refine Ev_iconst (v := 0) hq_110 (show decode prog_1_method_56_code 94 = .ok (.iconst 0, 1) by decide +kernel) (by decide) ?_
      refine Ev_iand hq_110 (show decode prog_1_method_56_code 95 = .ok (.iand, 1) by decide +kernel) ?_
      obtain ⟨y7, ey7⟩ : ∃ y7 : Int32, y7 = (x4 &&& 0) := ⟨_, rfl⟩
      have k := k y7 ey7
      rw [← ey7]
      refine Ev_istore (lo2 := [.ref 0, .int x1, .int x2, .int x3, .int y7, .int x5, .int y5]) hq_110 (show decode prog_1_method_56_code 96 = .ok (.istore 4, 2) by decide +kernel) (z_le rfl) rfl ?_
      obtain ⟨y8, ey8⟩ : ∃ y8 : Int32, y8 = x5 + 1 := ⟨_, rfl⟩
      have k := k y8 ey8
      refine Ev_iinc (v := y8) (lo2 := [.ref 0, .int x1, .int x2, .int x3, .int y7, .int y8, .int y5]) hq_110 (show decode prog_1_method_56_code 98 = .ok (.iinc 5 1, 3) by decide +kernel) rfl (by rw [ey8]; rfl) rfl ?_
      refine Ev_goto (tgt := 48) hq_110 (show decode prog_1_method_56_code 101 = .ok (.goto (-53), 3) by decide +kernel) (by decide) ?_
      exact k
    · have k := k.2 c6
      refine Ev_aload_n hq_110 (show decode prog_1_method_56_code 75 = .ok (.aload_n 0, 1) by decide +kernel) rfl ?_
      refine Ev_getR hq_110 (show decode prog_1_method_56_code 76 = .ok (.getfield 29, 3) by decide +kernel) rfl (SGn hS (by decide)) (SGk hS rfl) (by decide) rfl (SGr hS rfl) ?_
      refine Ev_iload hq_110 (show decode prog_1_method_56_code 79 = .ok (.iload 6, 2) by decide +kernel) rfl ?_
      refine Ev_aload_n hq_110 (show decode prog_1_method_56_code 81 = .ok (.aload_n 0, 1) by decide +kernel) rfl ?_
      refine Ev_getR hq_110 (show decode prog_1_method_56_code 82 = .ok (.getfield 10, 3) by decide +kernel) rfl (SGn hS (by decide)) (SGk hS rfl) (by decide) rfl (SGr hS rfl) ?_
      refine Ev_getI hq_110 (show decode prog_1_method_56_code 85 = .ok (.getfield 100, 3) by decide +kernel) rfl (SGn hS (by decide)) (SGk hS rfl) (by decide) rfl ?_
      obtain ⟨r11, I9, h10, k⟩ := k
      refine Ev_virt (as := [.int y5, .int (I 1 7)]) hq_110 (show decode prog_1_method_56_code 88 = .ok (.invokevirtual 284, 3) by decide +kernel) rfl hq_79 rfl (z_le rfl) ⟨(SGn hS (by decide)), (SGk hS rfl), by decide⟩ h10 ?_
      refine Ev_goto (tgt := 95) hq_110 (show decode prog_1_method_56_code 91 = .ok (.goto 4, 3) by decide +kernel) (by decide) ?_
      refine Ev_iand hq_110 (show decode prog_1_method_56_code 95 = .ok (.iand, 1) by decide +kernel) ?_
      obtain ⟨y12, ey12⟩ : ∃ y12 : Int32, y12 = (x4 &&& r11) := ⟨_, rfl⟩
      have k := k y12 ey12
      rw [← ey12]
      refine Ev_istore (lo2 := [.ref 0, .int x1, .int x2, .int x3, .int y12, .int x5, .int y5]) hq_110 (show decode prog_1_method_56_code 96 = .ok (.istore 4, 2) by decide +kernel) (z_le rfl) rfl ?_
      obtain ⟨y13, ey13⟩ : ∃ y13 : Int32, y13 = x5 + 1 := ⟨_, rfl⟩
      have k := k y13 ey13
      refine Ev_iinc (v := y13) (lo2 := [.ref 0, .int x1, .int x2, .int x3, .int y12, .int y13, .int y5]) hq_110 (show decode prog_1_method_56_code 98 = .ok (.iinc 5 1, 3) by decide +kernel) rfl (by rw [ey13]; rfl) rfl ?_
      refine Ev_goto (tgt := 48) hq_110 (show decode prog_1_method_56_code 101 = .ok (.goto (-53), 3) by decide +kernel) (by decide) ?_
      exact k
