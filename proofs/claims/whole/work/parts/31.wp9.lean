set_option maxRecDepth 20000 in
theorem wp_Z_best {X : Nat × (Nat → Int32)} {d : Nat} {G : zG} {I : zI} {res : Option Value × zG × zI} (x1 : Int32) (x2 : Int32) (hd : 1 ≤ d) (hS : SG G) 
    (k : (¬ (f_Z_isShower I x1) = 0 → (¬ (f_Z_in x2 0 1) = 0 → ∃ (I3 : zI), Cv X d 178 [.ref 57, .int x1] G I (none, G, I3) ∧ ((¬ x2 = 0 → res = (some (.int (I3 57 36)), G, I3)) ∧ (x2 = 0 → res = (some (.int (I3 57 35)), G, I3)))) ∧ ((f_Z_in x2 0 1) = 0 → res = (some (.int (-7)), G, I))) ∧ ((f_Z_isShower I x1) = 0 → res = (some (.int (-5)), G, I))) :
    Ev X (d + 1) 177 0 [.ref 57, .int x1, .int x2] [] G I res := by
  refine Ev_aload_n hq_177 (show decode prog_7_method_54_code 0 = .ok (.aload_n 0, 1) by decide +kernel) rfl ?_
  refine Ev_iload_n hq_177 (show decode prog_7_method_54_code 1 = .ok (.iload_n 1, 1) by decide +kernel) rfl ?_
  refine Ev_virt (as := [.int x1]) hq_177 (show decode prog_7_method_54_code 2 = .ok (.invokevirtual 176, 3) by decide +kernel) rfl hq_148 rfl (z_le rfl) ⟨(SGn hS (by decide)), (SGk hS rfl), by decide⟩ (c_Z_isShower (by omega) hS x1) ?_
  refine Ev_if_ne (tgt := 11) hq_177 (show decode prog_7_method_54_code 5 = .ok (.ifCond .ne 6, 3) by decide +kernel) (by decide) (fun c1 => ?_) (fun c1 => ?_)
  · have k := k.1 c1
    refine Ev_iload_n hq_177 (show decode prog_7_method_54_code 11 = .ok (.iload_n 2, 1) by decide +kernel) rfl ?_
    refine Ev_iconst (v := 0) hq_177 (show decode prog_7_method_54_code 12 = .ok (.iconst 0, 1) by decide +kernel) (by decide) ?_
    refine Ev_iconst (v := 1) hq_177 (show decode prog_7_method_54_code 13 = .ok (.iconst 1, 1) by decide +kernel) (by decide) ?_
    refine Ev_stat (as := [.int x2, .int 0, .int 1]) hq_177 (show decode prog_7_method_54_code 14 = .ok (.invokestatic 90, 3) by decide +kernel) rfl (Or.inl rfl) hq_131 rfl (z_le rfl) (c_Z_in x2 0 1) ?_
    refine Ev_if_ne (tgt := 23) hq_177 (show decode prog_7_method_54_code 17 = .ok (.ifCond .ne 6, 3) by decide +kernel) (by decide) (fun c2 => ?_) (fun c2 => ?_)
    · have k := k.1 c2
      refine Ev_aload_n hq_177 (show decode prog_7_method_54_code 23 = .ok (.aload_n 0, 1) by decide +kernel) rfl ?_
      refine Ev_iload_n hq_177 (show decode prog_7_method_54_code 24 = .ok (.iload_n 1, 1) by decide +kernel) rfl ?_
      obtain ⟨I3, h4, k⟩ := k
      refine Ev_virt (as := [.int x1]) hq_177 (show decode prog_7_method_54_code 25 = .ok (.invokevirtual 241, 3) by decide +kernel) rfl hq_178 rfl (z_le rfl) ⟨(SGn hS (by decide)), (SGk hS rfl), by decide⟩ h4 ?_
      refine Ev_iload_n hq_177 (show decode prog_7_method_54_code 28 = .ok (.iload_n 2, 1) by decide +kernel) rfl ?_
      refine Ev_if_ne (tgt := 39) hq_177 (show decode prog_7_method_54_code 29 = .ok (.ifCond .ne 10, 3) by decide +kernel) (by decide) (fun c5 => ?_) (fun c5 => ?_)
      · have k := k.1 c5
        refine Ev_aload_n hq_177 (show decode prog_7_method_54_code 39 = .ok (.aload_n 0, 1) by decide +kernel) rfl ?_
        refine Ev_getI hq_177 (show decode prog_7_method_54_code 40 = .ok (.getfield 238, 3) by decide +kernel) rfl (SGn hS (by decide)) (SGk hS rfl) (by decide) rfl ?_
        exact Ev_iret hq_177 (show decode prog_7_method_54_code 43 = .ok (.ireturn, 1) by decide +kernel) rfl k
      · have k := k.2 (Classical.not_not.mp c5)
        refine Ev_aload_n hq_177 (show decode prog_7_method_54_code 32 = .ok (.aload_n 0, 1) by decide +kernel) rfl ?_
        refine Ev_getI hq_177 (show decode prog_7_method_54_code 33 = .ok (.getfield 232, 3) by decide +kernel) rfl (SGn hS (by decide)) (SGk hS rfl) (by decide) rfl ?_
        refine Ev_goto (tgt := 43) hq_177 (show decode prog_7_method_54_code 36 = .ok (.goto 7, 3) by decide +kernel) (by decide) ?_
        exact Ev_iret hq_177 (show decode prog_7_method_54_code 43 = .ok (.ireturn, 1) by decide +kernel) rfl k
    · have k := k.2 (Classical.not_not.mp c2)
      refine Ev_bipush (v := (-7)) hq_177 (show decode prog_7_method_54_code 20 = .ok (.bipush (-7), 2) by decide +kernel) (by decide) ?_
      exact Ev_iret hq_177 (show decode prog_7_method_54_code 22 = .ok (.ireturn, 1) by decide +kernel) rfl k
  · have k := k.2 (Classical.not_not.mp c1)
    refine Ev_bipush (v := (-5)) hq_177 (show decode prog_7_method_54_code 8 = .ok (.bipush (-5), 2) by decide +kernel) (by decide) ?_
    exact Ev_iret hq_177 (show decode prog_7_method_54_code 10 = .ok (.ireturn, 1) by decide +kernel) rfl k
set_option maxRecDepth 20000 in
theorem wp_Z_restsHasty {X : Nat × (Nat → Int32)} {d : Nat} {G : zG} {I : zI} {res : Option Value × zG × zI} (x1 : Int32) (x2 : Int32) (x3 : Int32) (hS : SG G) 
    (k : z_inr ((5 * x1) + 3) 20 ∧ (∀ y2 : Int32, y2 = (I 60 ((5 * x1) + 3).toNatClampNeg) → z_inr ((5 * x1) + 3) 20 ∧ (∀ I4 : zI, I4 = z_up I 60 ((5 * x1) + 3).toNatClampNeg x3 → ∃ (r7 : Int32) (I5 : zI), Cv X d 169 [.ref 57, .int x1, .int x2] G I4 (some (.int r7), G, I5) ∧ (z_inr ((5 * x1) + 3) 20 ∧ (∀ I9 : zI, I9 = z_up I5 60 ((5 * x1) + 3).toNatClampNeg y2 → res = (some (.int r7), G, I9)))))) :
    Ev X (d + 1) 181 0 [.ref 57, .int x1, .int x2, .int x3, zU, zU] [] G I res := by
  refine Ev_aload_n hq_181 (show decode prog_7_method_55_code 0 = .ok (.aload_n 0, 1) by decide +kernel) rfl ?_
  refine Ev_getR hq_181 (show decode prog_7_method_55_code 1 = .ok (.getfield 16, 3) by decide +kernel) rfl (SGn hS (by decide)) (SGk hS rfl) (by decide) rfl (SGr hS rfl) ?_
  refine Ev_iconst (v := 5) hq_181 (show decode prog_7_method_55_code 4 = .ok (.iconst 5, 1) by decide +kernel) (by decide) ?_
  refine Ev_iload_n hq_181 (show decode prog_7_method_55_code 5 = .ok (.iload_n 1, 1) by decide +kernel) rfl ?_
  refine Ev_imul hq_181 (show decode prog_7_method_55_code 6 = .ok (.imul, 1) by decide +kernel) ?_
  refine Ev_iconst (v := 3) hq_181 (show decode prog_7_method_55_code 7 = .ok (.iconst 3, 1) by decide +kernel) (by decide) ?_
  refine Ev_iadd hq_181 (show decode prog_7_method_55_code 8 = .ok (.iadd, 1) by decide +kernel) ?_
  obtain ⟨h1, k⟩ := k
  refine Ev_iald hq_181 (show decode prog_7_method_55_code 9 = .ok (.iaload, 1) by decide +kernel) (SGn hS (by decide)) (SGk hS rfl) (SGi hS rfl h1) ?_
  obtain ⟨y2, ey2⟩ : ∃ y2 : Int32, y2 = (I 60 ((5 * x1) + 3).toNatClampNeg) := ⟨_, rfl⟩
  have k := k y2 ey2
  rw [← ey2]
  refine Ev_istore (lo2 := [.ref 57, .int x1, .int x2, .int x3, .int y2, zU]) hq_181 (show decode prog_7_method_55_code 10 = .ok (.istore 4, 2) by decide +kernel) (z_le rfl) rfl ?_
  refine Ev_aload_n hq_181 (show decode prog_7_method_55_code 12 = .ok (.aload_n 0, 1) by decide +kernel) rfl ?_
  refine Ev_getR hq_181 (show decode prog_7_method_55_code 13 = .ok (.getfield 16, 3) by decide +kernel) rfl (SGn hS (by decide)) (SGk hS rfl) (by decide) rfl (SGr hS rfl) ?_
  refine Ev_iconst (v := 5) hq_181 (show decode prog_7_method_55_code 16 = .ok (.iconst 5, 1) by decide +kernel) (by decide) ?_
  refine Ev_iload_n hq_181 (show decode prog_7_method_55_code 17 = .ok (.iload_n 1, 1) by decide +kernel) rfl ?_
  refine Ev_imul hq_181 (show decode prog_7_method_55_code 18 = .ok (.imul, 1) by decide +kernel) ?_
  refine Ev_iconst (v := 3) hq_181 (show decode prog_7_method_55_code 19 = .ok (.iconst 3, 1) by decide +kernel) (by decide) ?_
  refine Ev_iadd hq_181 (show decode prog_7_method_55_code 20 = .ok (.iadd, 1) by decide +kernel) ?_
  refine Ev_iload_n hq_181 (show decode prog_7_method_55_code 21 = .ok (.iload_n 3, 1) by decide +kernel) rfl ?_
  obtain ⟨h3, k⟩ := k
  refine Ev_iast hq_181 (show decode prog_7_method_55_code 22 = .ok (.iastore, 1) by decide +kernel) (SGn hS (by decide)) (SGk hS rfl) (SGi hS rfl h3) ?_
  obtain ⟨I4, eI4⟩ : ∃ I4 : zI, I4 = z_up I 60 ((5 * x1) + 3).toNatClampNeg x3 := ⟨_, rfl⟩
  have k := k I4 eI4
  rw [← eI4]
  refine Ev_aload_n hq_181 (show decode prog_7_method_55_code 23 = .ok (.aload_n 0, 1) by decide +kernel) rfl ?_
  refine Ev_iload_n hq_181 (show decode prog_7_method_55_code 24 = .ok (.iload_n 1, 1) by decide +kernel) rfl ?_
  refine Ev_iload_n hq_181 (show decode prog_7_method_55_code 25 = .ok (.iload_n 2, 1) by decide +kernel) rfl ?_
  obtain ⟨r7, I5, h6, k⟩ := k
  refine Ev_virt (as := [.int x1, .int x2]) hq_181 (show decode prog_7_method_55_code 26 = .ok (.invokevirtual 223, 3) by decide +kernel) rfl hq_169 rfl (z_le rfl) ⟨(SGn hS (by decide)), (SGk hS rfl), by decide⟩ h6 ?_
  refine Ev_istore (lo2 := [.ref 57, .int x1, .int x2, .int x3, .int y2, .int r7]) hq_181 (show decode prog_7_method_55_code 29 = .ok (.istore 5, 2) by decide +kernel) (z_le rfl) rfl ?_
  refine Ev_aload_n hq_181 (show decode prog_7_method_55_code 31 = .ok (.aload_n 0, 1) by decide +kernel) rfl ?_
  refine Ev_getR hq_181 (show decode prog_7_method_55_code 32 = .ok (.getfield 16, 3) by decide +kernel) rfl (SGn hS (by decide)) (SGk hS rfl) (by decide) rfl (SGr hS rfl) ?_
  refine Ev_iconst (v := 5) hq_181 (show decode prog_7_method_55_code 35 = .ok (.iconst 5, 1) by decide +kernel) (by decide) ?_
  refine Ev_iload_n hq_181 (show decode prog_7_method_55_code 36 = .ok (.iload_n 1, 1) by decide +kernel) rfl ?_
  refine Ev_imul hq_181 (show decode prog_7_method_55_code 37 = .ok (.imul, 1) by decide +kernel) ?_
  refine Ev_iconst (v := 3) hq_181 (show decode prog_7_method_55_code 38 = .ok (.iconst 3, 1) by decide +kernel) (by decide) ?_
  refine Ev_iadd hq_181 (show decode prog_7_method_55_code 39 = .ok (.iadd, 1) by decide +kernel) ?_
  refine Ev_iload hq_181 (show decode prog_7_method_55_code 40 = .ok (.iload 4, 2) by decide +kernel) rfl ?_
  obtain ⟨h8, k⟩ := k
  refine Ev_iast hq_181 (show decode prog_7_method_55_code 42 = .ok (.iastore, 1) by decide +kernel) (SGn hS (by decide)) (SGk hS rfl) (SGi hS rfl h8) ?_
  obtain ⟨I9, eI9⟩ : ∃ I9 : zI, I9 = z_up I5 60 ((5 * x1) + 3).toNatClampNeg y2 := ⟨_, rfl⟩
  have k := k I9 eI9
  rw [← eI9]
  refine Ev_iload hq_181 (show decode prog_7_method_55_code 43 = .ok (.iload 5, 2) by decide +kernel) rfl ?_
  exact Ev_iret hq_181 (show decode prog_7_method_55_code 45 = .ok (.ireturn, 1) by decide +kernel) rfl k
set_option maxRecDepth 20000 in
theorem wp_Z_line {X : Nat × (Nat → Int32)} {d : Nat} {G : zG} {I : zI} {res : Option Value × zG × zI} (x1 : Int32) (x2 : Int32) (hd : 1 ≤ d) (hS : SG G) 
    (k : (¬ (f_Z_isShower I x1) = 0 → (¬ (f_Z_isNear x2) = 0 → Ev X (d + 1) 180 26 [.ref 57, .int x1, .int x2, .int (-1), .int 0] [] G I res) ∧ ((f_Z_isNear x2) = 0 → res = (some (.int (-7)), G, I))) ∧ ((f_Z_isShower I x1) = 0 → res = (some (.int (-5)), G, I))) :
    Ev X (d + 1) 180 0 [.ref 57, .int x1, .int x2, zU, zU] [] G I res := by
  refine Ev_aload_n hq_180 (show decode prog_7_method_56_code 0 = .ok (.aload_n 0, 1) by decide +kernel) rfl ?_
  refine Ev_iload_n hq_180 (show decode prog_7_method_56_code 1 = .ok (.iload_n 1, 1) by decide +kernel) rfl ?_
  refine Ev_virt (as := [.int x1]) hq_180 (show decode prog_7_method_56_code 2 = .ok (.invokevirtual 176, 3) by decide +kernel) rfl hq_148 rfl (z_le rfl) ⟨(SGn hS (by decide)), (SGk hS rfl), by decide⟩ (c_Z_isShower (by omega) hS x1) ?_
  refine Ev_if_ne (tgt := 11) hq_180 (show decode prog_7_method_56_code 5 = .ok (.ifCond .ne 6, 3) by decide +kernel) (by decide) (fun c1 => ?_) (fun c1 => ?_)
  · have k := k.1 c1
    refine Ev_iload_n hq_180 (show decode prog_7_method_56_code 11 = .ok (.iload_n 2, 1) by decide +kernel) rfl ?_
    refine Ev_stat (as := [.int x2]) hq_180 (show decode prog_7_method_56_code 12 = .ok (.invokestatic 220, 3) by decide +kernel) rfl (Or.inl rfl) hq_168 rfl (z_le rfl) (c_Z_isNear (by omega) x2) ?_
    refine Ev_if_ne (tgt := 21) hq_180 (show decode prog_7_method_56_code 15 = .ok (.ifCond .ne 6, 3) by decide +kernel) (by decide) (fun c2 => ?_) (fun c2 => ?_)
    · have k := k.1 c2
      refine Ev_iconst (v := (-1)) hq_180 (show decode prog_7_method_56_code 21 = .ok (.iconst (-1), 1) by decide +kernel) (by decide) ?_
      refine Ev_istore_n (lo2 := [.ref 57, .int x1, .int x2, .int (-1), zU]) hq_180 (show decode prog_7_method_56_code 22 = .ok (.istore_n 3, 1) by decide +kernel) (z_le rfl) rfl ?_
      refine Ev_iconst (v := 0) hq_180 (show decode prog_7_method_56_code 23 = .ok (.iconst 0, 1) by decide +kernel) (by decide) ?_
      refine Ev_istore (lo2 := [.ref 57, .int x1, .int x2, .int (-1), .int 0]) hq_180 (show decode prog_7_method_56_code 24 = .ok (.istore 4, 2) by decide +kernel) (z_le rfl) rfl ?_
      exact k
    · have k := k.2 (Classical.not_not.mp c2)
      refine Ev_bipush (v := (-7)) hq_180 (show decode prog_7_method_56_code 18 = .ok (.bipush (-7), 2) by decide +kernel) (by decide) ?_
      exact Ev_iret hq_180 (show decode prog_7_method_56_code 20 = .ok (.ireturn, 1) by decide +kernel) rfl k
  · have k := k.2 (Classical.not_not.mp c1)
    refine Ev_bipush (v := (-5)) hq_180 (show decode prog_7_method_56_code 8 = .ok (.bipush (-5), 2) by decide +kernel) (by decide) ?_
    exact Ev_iret hq_180 (show decode prog_7_method_56_code 10 = .ok (.ireturn, 1) by decide +kernel) rfl k
set_option maxRecDepth 20000 in
theorem wp_Z_line_26 {X : Nat × (Nat → Int32)} {d : Nat} {G : zG} {I : zI} {res : Option Value × zG × zI} (x1 : Int32) (x2 : Int32) (x3 : Int32) (x4 : Int32) (hS : SG G) 
    (k : (16 < x4 → res = (some (.int x3), G, I)) ∧ (¬ 16 < x4 → ∃ (r4 : Int32) (I2 : zI), Cv X d 181 [.ref 57, .int x1, .int x2, .int x4] G I (some (.int r4), G, I2) ∧ ((r4 = (-1) → ∀ y6 : Int32, y6 = x4 + 1 → Ev X (d + 1) 180 26 [.ref 57, .int x1, .int x2, .int x3, .int y6] [] G I2 res) ∧ (¬ r4 = (-1) → ∀ y7 : Int32, y7 = x4 + 1 → Ev X (d + 1) 180 26 [.ref 57, .int x1, .int x2, .int x4, .int y7] [] G I2 res)))) :
    Ev X (d + 1) 180 26 [.ref 57, .int x1, .int x2, .int x3, .int x4] [] G I res := by
  refine Ev_iload hq_180 (show decode prog_7_method_56_code 26 = .ok (.iload 4, 2) by decide +kernel) rfl ?_
  refine Ev_bipush (v := 16) hq_180 (show decode prog_7_method_56_code 28 = .ok (.bipush 16, 2) by decide +kernel) (by decide) ?_
  refine Ev_icmp_gt (tgt := 58) hq_180 (show decode prog_7_method_56_code 30 = .ok (.if_icmp .gt 28, 3) by decide +kernel) (by decide) (fun c1 => ?_) (fun c1 => ?_)
  · have k := k.1 c1
    refine Ev_iload_n hq_180 (show decode prog_7_method_56_code 58 = .ok (.iload_n 3, 1) by decide +kernel) rfl ?_
    exact Ev_iret hq_180 (show decode prog_7_method_56_code 59 = .ok (.ireturn, 1) by decide +kernel) rfl k
  · have k := k.2 c1
    refine Ev_aload_n hq_180 (show decode prog_7_method_56_code 33 = .ok (.aload_n 0, 1) by decide +kernel) rfl ?_
    refine Ev_iload_n hq_180 (show decode prog_7_method_56_code 34 = .ok (.iload_n 1, 1) by decide +kernel) rfl ?_
    refine Ev_iload_n hq_180 (show decode prog_7_method_56_code 35 = .ok (.iload_n 2, 1) by decide +kernel) rfl ?_
    refine Ev_iload hq_180 (show decode prog_7_method_56_code 36 = .ok (.iload 4, 2) by decide +kernel) rfl ?_
    obtain ⟨r4, I2, h3, k⟩ := k
    refine Ev_virt (as := [.int x1, .int x2, .int x4]) hq_180 (show decode prog_7_method_56_code 38 = .ok (.invokevirtual 244, 3) by decide +kernel) rfl hq_181 rfl (z_le rfl) ⟨(SGn hS (by decide)), (SGk hS rfl), by decide⟩ h3 ?_
    refine Ev_iconst (v := (-1)) hq_180 (show decode prog_7_method_56_code 41 = .ok (.iconst (-1), 1) by decide +kernel) (by decide) ?_
    refine Ev_icmp_eq (tgt := 50) hq_180 (show decode prog_7_method_56_code 42 = .ok (.if_icmp .eq 8, 3) by decide +kernel) (by decide) (fun c5 => ?_) (fun c5 => ?_)
    · have k := k.1 c5
      refine Ev_iload_n hq_180 (show decode prog_7_method_56_code 50 = .ok (.iload_n 3, 1) by decide +kernel) rfl ?_
      refine Ev_istore_n (lo2 := [.ref 57, .int x1, .int x2, .int x3, .int x4]) hq_180 (show decode prog_7_method_56_code 51 = .ok (.istore_n 3, 1) by decide +kernel) (z_le rfl) rfl ?_
      obtain ⟨y6, ey6⟩ : ∃ y6 : Int32, y6 = x4 + 1 := ⟨_, rfl⟩
      have k := k y6 ey6
      refine Ev_iinc (v := y6) (lo2 := [.ref 57, .int x1, .int x2, .int x3, .int y6]) hq_180 (show decode prog_7_method_56_code 52 = .ok (.iinc 4 1, 3) by decide +kernel) rfl (by rw [ey6]; rfl) rfl ?_
      refine Ev_goto (tgt := 26) hq_180 (show decode prog_7_method_56_code 55 = .ok (.goto (-29), 3) by decide +kernel) (by decide) ?_
      exact k
    · have k := k.2 c5
      refine Ev_iload hq_180 (show decode prog_7_method_56_code 45 = .ok (.iload 4, 2) by decide +kernel) rfl ?_
      refine Ev_goto (tgt := 51) hq_180 (show decode prog_7_method_56_code 47 = .ok (.goto 4, 3) by decide +kernel) (by decide) ?_
      refine Ev_istore_n (lo2 := [.ref 57, .int x1, .int x2, .int x4, .int x4]) hq_180 (show decode prog_7_method_56_code 51 = .ok (.istore_n 3, 1) by decide +kernel) (z_le rfl) rfl ?_
      obtain ⟨y7, ey7⟩ : ∃ y7 : Int32, y7 = x4 + 1 := ⟨_, rfl⟩
      have k := k y7 ey7
      refine Ev_iinc (v := y7) (lo2 := [.ref 57, .int x1, .int x2, .int x4, .int y7]) hq_180 (show decode prog_7_method_56_code 52 = .ok (.iinc 4 1, 3) by decide +kernel) rfl (by rw [ey7]; rfl) rfl ?_
      refine Ev_goto (tgt := 26) hq_180 (show decode prog_7_method_56_code 55 = .ok (.goto (-29), 3) by decide +kernel) (by decide) ?_
      exact k
set_option maxRecDepth 20000 in
theorem wp_Z_soon {X : Nat × (Nat → Int32)} {d : Nat} {G : zG} {I : zI} {res : Option Value × zG × zI} (x1 : Int32) (x2 : Int32) (x3 : Int32) (hd : 1 ≤ d) (hS : SG G) 
    (k : (¬ (f_Z_isShower I x1) = 0 → ((f_Z_isNear x2) = 0 → res = (some (.int (-7)), G, I)) ∧ (¬ (f_Z_isNear x2) = 0 → (¬ (f_Z_in x3 0 1) = 0 → Ev X (d + 1) 182 39 [.ref 57, .int x1, .int x2, .int x3, .int (-1), .int (-1), .int 0, zU, zU] [] G I res) ∧ ((f_Z_in x3 0 1) = 0 → res = (some (.int (-7)), G, I)))) ∧ ((f_Z_isShower I x1) = 0 → res = (some (.int (-5)), G, I))) :
    Ev X (d + 1) 182 0 [.ref 57, .int x1, .int x2, .int x3, zU, zU, zU, zU, zU] [] G I res := by
  refine Ev_aload_n hq_182 (show decode prog_7_method_57_code 0 = .ok (.aload_n 0, 1) by decide +kernel) rfl ?_
  refine Ev_iload_n hq_182 (show decode prog_7_method_57_code 1 = .ok (.iload_n 1, 1) by decide +kernel) rfl ?_
  refine Ev_virt (as := [.int x1]) hq_182 (show decode prog_7_method_57_code 2 = .ok (.invokevirtual 176, 3) by decide +kernel) rfl hq_148 rfl (z_le rfl) ⟨(SGn hS (by decide)), (SGk hS rfl), by decide⟩ (c_Z_isShower (by omega) hS x1) ?_
  refine Ev_if_ne (tgt := 11) hq_182 (show decode prog_7_method_57_code 5 = .ok (.ifCond .ne 6, 3) by decide +kernel) (by decide) (fun c1 => ?_) (fun c1 => ?_)
  · have k := k.1 c1
    refine Ev_iload_n hq_182 (show decode prog_7_method_57_code 11 = .ok (.iload_n 2, 1) by decide +kernel) rfl ?_
    refine Ev_stat (as := [.int x2]) hq_182 (show decode prog_7_method_57_code 12 = .ok (.invokestatic 220, 3) by decide +kernel) rfl (Or.inl rfl) hq_168 rfl (z_le rfl) (c_Z_isNear (by omega) x2) ?_
    refine Ev_if_eq (tgt := 27) hq_182 (show decode prog_7_method_57_code 15 = .ok (.ifCond .eq 12, 3) by decide +kernel) (by decide) (fun c2 => ?_) (fun c2 => ?_)
    · have k := k.1 c2
      refine Ev_bipush (v := (-7)) hq_182 (show decode prog_7_method_57_code 27 = .ok (.bipush (-7), 2) by decide +kernel) (by decide) ?_
      exact Ev_iret hq_182 (show decode prog_7_method_57_code 29 = .ok (.ireturn, 1) by decide +kernel) rfl k
    · have k := k.2 c2
      refine Ev_iload_n hq_182 (show decode prog_7_method_57_code 18 = .ok (.iload_n 3, 1) by decide +kernel) rfl ?_
      refine Ev_iconst (v := 0) hq_182 (show decode prog_7_method_57_code 19 = .ok (.iconst 0, 1) by decide +kernel) (by decide) ?_
      refine Ev_iconst (v := 1) hq_182 (show decode prog_7_method_57_code 20 = .ok (.iconst 1, 1) by decide +kernel) (by decide) ?_
      refine Ev_stat (as := [.int x3, .int 0, .int 1]) hq_182 (show decode prog_7_method_57_code 21 = .ok (.invokestatic 90, 3) by decide +kernel) rfl (Or.inl rfl) hq_131 rfl (z_le rfl) (c_Z_in x3 0 1) ?_
      refine Ev_if_ne (tgt := 30) hq_182 (show decode prog_7_method_57_code 24 = .ok (.ifCond .ne 6, 3) by decide +kernel) (by decide) (fun c3 => ?_) (fun c3 => ?_)
      · have k := k.1 c3
        refine Ev_iconst (v := (-1)) hq_182 (show decode prog_7_method_57_code 30 = .ok (.iconst (-1), 1) by decide +kernel) (by decide) ?_
        refine Ev_istore (lo2 := [.ref 57, .int x1, .int x2, .int x3, .int (-1), zU, zU, zU, zU]) hq_182 (show decode prog_7_method_57_code 31 = .ok (.istore 4, 2) by decide +kernel) (z_le rfl) rfl ?_
        refine Ev_iconst (v := (-1)) hq_182 (show decode prog_7_method_57_code 33 = .ok (.iconst (-1), 1) by decide +kernel) (by decide) ?_
        refine Ev_istore (lo2 := [.ref 57, .int x1, .int x2, .int x3, .int (-1), .int (-1), zU, zU, zU]) hq_182 (show decode prog_7_method_57_code 34 = .ok (.istore 5, 2) by decide +kernel) (z_le rfl) rfl ?_
        refine Ev_iconst (v := 0) hq_182 (show decode prog_7_method_57_code 36 = .ok (.iconst 0, 1) by decide +kernel) (by decide) ?_
        refine Ev_istore (lo2 := [.ref 57, .int x1, .int x2, .int x3, .int (-1), .int (-1), .int 0, zU, zU]) hq_182 (show decode prog_7_method_57_code 37 = .ok (.istore 6, 2) by decide +kernel) (z_le rfl) rfl ?_
        exact k
      · have k := k.2 (Classical.not_not.mp c3)
        refine Ev_bipush (v := (-7)) hq_182 (show decode prog_7_method_57_code 27 = .ok (.bipush (-7), 2) by decide +kernel) (by decide) ?_
        exact Ev_iret hq_182 (show decode prog_7_method_57_code 29 = .ok (.ireturn, 1) by decide +kernel) rfl k
  · have k := k.2 (Classical.not_not.mp c1)
    refine Ev_bipush (v := (-5)) hq_182 (show decode prog_7_method_57_code 8 = .ok (.bipush (-5), 2) by decide +kernel) (by decide) ?_
    exact Ev_iret hq_182 (show decode prog_7_method_57_code 10 = .ok (.ireturn, 1) by decide +kernel) rfl k
set_option maxRecDepth 20000 in
theorem wp_Z_soon_39 {X : Nat × (Nat → Int32)} {d : Nat} {G : zG} {I : zI} {res : Option Value × zG × zI} (x1 : Int32) (x2 : Int32) (x3 : Int32) (x4 : Int32) (x5 : Int32) (x6 : Int32) (v7 : Value) (cv7 : v7.category = 1) (v8 : Value) (cv8 : v8.category = 1) (hS : SG G) 
    (k : (16 < x6 → (¬ x3 = 0 → res = (some (.int x5), G, I)) ∧ (x3 = 0 → res = (some (.int x4), G, I))) ∧ (¬ 16 < x6 → ∃ (r5 : Int32) (I3 : zI), Cv X d 181 [.ref 57, .int x1, .int x2, .int x6] G I (some (.int r5), G, I3) ∧ ((r5 = (-1) → ∀ y7 : Int32, y7 = x6 + 1 → Ev X (d + 1) 182 39 [.ref 57, .int x1, .int x2, .int x3, .int x4, .int x5, .int y7, .int r5, .int 0] [] G I3 res) ∧ (¬ r5 = (-1) → (x4 = (-1) → ∀ y9 : Int32, y9 = x6 + 1 → Ev X (d + 1) 182 39 [.ref 57, .int x1, .int x2, .int x3, .int x6, .int r5, .int y9, .int r5, .int 1] [] G I3 res) ∧ (¬ x4 = (-1) → (x5 ≤ r5 → ∀ y11 : Int32, y11 = x6 + 1 → Ev X (d + 1) 182 39 [.ref 57, .int x1, .int x2, .int x3, .int x4, .int x5, .int y11, .int r5, .int 0] [] G I3 res) ∧ (¬ x5 ≤ r5 → ∀ y12 : Int32, y12 = x6 + 1 → Ev X (d + 1) 182 39 [.ref 57, .int x1, .int x2, .int x3, .int x6, .int r5, .int y12, .int r5, .int 1] [] G I3 res)))))) :
    Ev X (d + 1) 182 39 [.ref 57, .int x1, .int x2, .int x3, .int x4, .int x5, .int x6, v7, v8] [] G I res := by
  refine Ev_iload hq_182 (show decode prog_7_method_57_code 39 = .ok (.iload 6, 2) by decide +kernel) rfl ?_
  refine Ev_bipush (v := 16) hq_182 (show decode prog_7_method_57_code 41 = .ok (.bipush 16, 2) by decide +kernel) (by decide) ?_
  refine Ev_icmp_gt (tgt := 116) hq_182 (show decode prog_7_method_57_code 43 = .ok (.if_icmp .gt 73, 3) by decide +kernel) (by decide) (fun c1 => ?_) (fun c1 => ?_)
  · have k := k.1 c1
    refine Ev_iload_n hq_182 (show decode prog_7_method_57_code 116 = .ok (.iload_n 3, 1) by decide +kernel) rfl ?_
    refine Ev_if_ne (tgt := 125) hq_182 (show decode prog_7_method_57_code 117 = .ok (.ifCond .ne 8, 3) by decide +kernel) (by decide) (fun c2 => ?_) (fun c2 => ?_)
    · have k := k.1 c2
      refine Ev_iload hq_182 (show decode prog_7_method_57_code 125 = .ok (.iload 5, 2) by decide +kernel) rfl ?_
      exact Ev_iret hq_182 (show decode prog_7_method_57_code 127 = .ok (.ireturn, 1) by decide +kernel) rfl k
    · have k := k.2 (Classical.not_not.mp c2)
      refine Ev_iload hq_182 (show decode prog_7_method_57_code 120 = .ok (.iload 4, 2) by decide +kernel) rfl ?_
      refine Ev_goto (tgt := 127) hq_182 (show decode prog_7_method_57_code 122 = .ok (.goto 5, 3) by decide +kernel) (by decide) ?_
      exact Ev_iret hq_182 (show decode prog_7_method_57_code 127 = .ok (.ireturn, 1) by decide +kernel) rfl k
  · have k := k.2 c1
    refine Ev_aload_n hq_182 (show decode prog_7_method_57_code 46 = .ok (.aload_n 0, 1) by decide +kernel) rfl ?_
    refine Ev_iload_n hq_182 (show decode prog_7_method_57_code 47 = .ok (.iload_n 1, 1) by decide +kernel) rfl ?_
    refine Ev_iload_n hq_182 (show decode prog_7_method_57_code 48 = .ok (.iload_n 2, 1) by decide +kernel) rfl ?_
    refine Ev_iload hq_182 (show decode prog_7_method_57_code 49 = .ok (.iload 6, 2) by decide +kernel) rfl ?_
    obtain ⟨r5, I3, h4, k⟩ := k
    refine Ev_virt (as := [.int x1, .int x2, .int x6]) hq_182 (show decode prog_7_method_57_code 51 = .ok (.invokevirtual 244, 3) by decide +kernel) rfl hq_181 rfl (z_le rfl) ⟨(SGn hS (by decide)), (SGk hS rfl), by decide⟩ h4 ?_
    refine Ev_istore (lo2 := [.ref 57, .int x1, .int x2, .int x3, .int x4, .int x5, .int x6, .int r5, v8]) hq_182 (show decode prog_7_method_57_code 54 = .ok (.istore 7, 2) by decide +kernel) (z_le rfl) rfl ?_
    refine Ev_iload hq_182 (show decode prog_7_method_57_code 56 = .ok (.iload 7, 2) by decide +kernel) rfl ?_
    refine Ev_iconst (v := (-1)) hq_182 (show decode prog_7_method_57_code 58 = .ok (.iconst (-1), 1) by decide +kernel) (by decide) ?_
    refine Ev_icmp_eq (tgt := 79) hq_182 (show decode prog_7_method_57_code 59 = .ok (.if_icmp .eq 20, 3) by decide +kernel) (by decide) (fun c6 => ?_) (fun c6 => ?_)
    · have k := k.1 c6
      refine Ev_iconst (v := 0) hq_182 (show decode prog_7_method_57_code 79 = .ok (.iconst 0, 1) by decide +kernel) (by decide) ?_
      refine Ev_istore (lo2 := [.ref 57, .int x1, .int x2, .int x3, .int x4, .int x5, .int x6, .int r5, .int 0]) hq_182 (show decode prog_7_method_57_code 80 = .ok (.istore 8, 2) by decide +kernel) (z_le rfl) rfl ?_
      refine Ev_iload hq_182 (show decode prog_7_method_57_code 82 = .ok (.iload 8, 2) by decide +kernel) rfl ?_
      refine Ev_if_eq (tgt := 92) hq_182 (show decode prog_7_method_57_code 84 = .ok (.ifCond .eq 8, 3) by decide +kernel) (by decide) (fun _ => ?_) (fun hz => absurd (by decide) hz)
      refine Ev_iload hq_182 (show decode prog_7_method_57_code 92 = .ok (.iload 4, 2) by decide +kernel) rfl ?_
      refine Ev_istore (lo2 := [.ref 57, .int x1, .int x2, .int x3, .int x4, .int x5, .int x6, .int r5, .int 0]) hq_182 (show decode prog_7_method_57_code 94 = .ok (.istore 4, 2) by decide +kernel) (z_le rfl) rfl ?_
      refine Ev_iload hq_182 (show decode prog_7_method_57_code 96 = .ok (.iload 8, 2) by decide +kernel) rfl ?_
      refine Ev_if_eq (tgt := 106) hq_182 (show decode prog_7_method_57_code 98 = .ok (.ifCond .eq 8, 3) by decide +kernel) (by decide) (fun _ => ?_) (fun hz => absurd (by decide) hz)
      refine Ev_iload hq_182 (show decode prog_7_method_57_code 106 = .ok (.iload 5, 2) by decide +kernel) rfl ?_
      refine Ev_istore (lo2 := [.ref 57, .int x1, .int x2, .int x3, .int x4, .int x5, .int x6, .int r5, .int 0]) hq_182 (show decode prog_7_method_57_code 108 = .ok (.istore 5, 2) by decide +kernel) (z_le rfl) rfl ?_
      obtain ⟨y7, ey7⟩ : ∃ y7 : Int32, y7 = x6 + 1 := ⟨_, rfl⟩
      have k := k y7 ey7
      refine Ev_iinc (v := y7) (lo2 := [.ref 57, .int x1, .int x2, .int x3, .int x4, .int x5, .int y7, .int r5, .int 0]) hq_182 (show decode prog_7_method_57_code 110 = .ok (.iinc 6 1, 3) by decide +kernel) rfl (by rw [ey7]; rfl) rfl ?_
      refine Ev_goto (tgt := 39) hq_182 (show decode prog_7_method_57_code 113 = .ok (.goto (-74), 3) by decide +kernel) (by decide) ?_
      exact k
    · have k := k.2 c6
      refine Ev_iload hq_182 (show decode prog_7_method_57_code 62 = .ok (.iload 4, 2) by decide +kernel) rfl ?_
      refine Ev_iconst (v := (-1)) hq_182 (show decode prog_7_method_57_code 64 = .ok (.iconst (-1), 1) by decide +kernel) (by decide) ?_
      refine Ev_icmp_eq (tgt := 75) hq_182 (show decode prog_7_method_57_code 65 = .ok (.if_icmp .eq 10, 3) by decide +kernel) (by decide) (fun c8 => ?_) (fun c8 => ?_)
      · have k := k.1 c8
        refine Ev_iconst (v := 1) hq_182 (show decode prog_7_method_57_code 75 = .ok (.iconst 1, 1) by decide +kernel) (by decide) ?_
        refine Ev_goto (tgt := 80) hq_182 (show decode prog_7_method_57_code 76 = .ok (.goto 4, 3) by decide +kernel) (by decide) ?_
        refine Ev_istore (lo2 := [.ref 57, .int x1, .int x2, .int x3, .int x4, .int x5, .int x6, .int r5, .int 1]) hq_182 (show decode prog_7_method_57_code 80 = .ok (.istore 8, 2) by decide +kernel) (z_le rfl) rfl ?_
        refine Ev_iload hq_182 (show decode prog_7_method_57_code 82 = .ok (.iload 8, 2) by decide +kernel) rfl ?_
        refine Ev_if_eq (tgt := 92) hq_182 (show decode prog_7_method_57_code 84 = .ok (.ifCond .eq 8, 3) by decide +kernel) (by decide) (fun hz => absurd hz (by decide)) (fun _ => ?_)
        refine Ev_iload hq_182 (show decode prog_7_method_57_code 87 = .ok (.iload 6, 2) by decide +kernel) rfl ?_
        refine Ev_goto (tgt := 94) hq_182 (show decode prog_7_method_57_code 89 = .ok (.goto 5, 3) by decide +kernel) (by decide) ?_
        refine Ev_istore (lo2 := [.ref 57, .int x1, .int x2, .int x3, .int x6, .int x5, .int x6, .int r5, .int 1]) hq_182 (show decode prog_7_method_57_code 94 = .ok (.istore 4, 2) by decide +kernel) (z_le rfl) rfl ?_
        refine Ev_iload hq_182 (show decode prog_7_method_57_code 96 = .ok (.iload 8, 2) by decide +kernel) rfl ?_
        refine Ev_if_eq (tgt := 106) hq_182 (show decode prog_7_method_57_code 98 = .ok (.ifCond .eq 8, 3) by decide +kernel) (by decide) (fun hz => absurd hz (by decide)) (fun _ => ?_)
        refine Ev_iload hq_182 (show decode prog_7_method_57_code 101 = .ok (.iload 7, 2) by decide +kernel) rfl ?_
        refine Ev_goto (tgt := 108) hq_182 (show decode prog_7_method_57_code 103 = .ok (.goto 5, 3) by decide +kernel) (by decide) ?_
        refine Ev_istore (lo2 := [.ref 57, .int x1, .int x2, .int x3, .int x6, .int r5, .int x6, .int r5, .int 1]) hq_182 (show decode prog_7_method_57_code 108 = .ok (.istore 5, 2) by decide +kernel) (z_le rfl) rfl ?_
        obtain ⟨y9, ey9⟩ : ∃ y9 : Int32, y9 = x6 + 1 := ⟨_, rfl⟩
        have k := k y9 ey9
        refine Ev_iinc (v := y9) (lo2 := [.ref 57, .int x1, .int x2, .int x3, .int x6, .int r5, .int y9, .int r5, .int 1]) hq_182 (show decode prog_7_method_57_code 110 = .ok (.iinc 6 1, 3) by decide +kernel) rfl (by rw [ey9]; rfl) rfl ?_
        refine Ev_goto (tgt := 39) hq_182 (show decode prog_7_method_57_code 113 = .ok (.goto (-74), 3) by decide +kernel) (by decide) ?_
        exact k
      · have k := k.2 c8
        refine Ev_iload hq_182 (show decode prog_7_method_57_code 68 = .ok (.iload 7, 2) by decide +kernel) rfl ?_
        refine Ev_iload hq_182 (show decode prog_7_method_57_code 70 = .ok (.iload 5, 2) by decide +kernel) rfl ?_
        refine Ev_icmp_ge (tgt := 79) hq_182 (show decode prog_7_method_57_code 72 = .ok (.if_icmp .ge 7, 3) by decide +kernel) (by decide) (fun c10 => ?_) (fun c10 => ?_)
        · have k := k.1 c10
          refine Ev_iconst (v := 0) hq_182 (show decode prog_7_method_57_code 79 = .ok (.iconst 0, 1) by decide +kernel) (by decide) ?_
          refine Ev_istore (lo2 := [.ref 57, .int x1, .int x2, .int x3, .int x4, .int x5, .int x6, .int r5, .int 0]) hq_182 (show decode prog_7_method_57_code 80 = .ok (.istore 8, 2) by decide +kernel) (z_le rfl) rfl ?_
          refine Ev_iload hq_182 (show decode prog_7_method_57_code 82 = .ok (.iload 8, 2) by decide +kernel) rfl ?_
          refine Ev_if_eq (tgt := 92) hq_182 (show decode prog_7_method_57_code 84 = .ok (.ifCond .eq 8, 3) by decide +kernel) (by decide) (fun _ => ?_) (fun hz => absurd (by decide) hz)
          refine Ev_iload hq_182 (show decode prog_7_method_57_code 92 = .ok (.iload 4, 2) by decide +kernel) rfl ?_
          refine Ev_istore (lo2 := [.ref 57, .int x1, .int x2, .int x3, .int x4, .int x5, .int x6, .int r5, .int 0]) hq_182 (show decode prog_7_method_57_code 94 = .ok (.istore 4, 2) by decide +kernel) (z_le rfl) rfl ?_
          refine Ev_iload hq_182 (show decode prog_7_method_57_code 96 = .ok (.iload 8, 2) by decide +kernel) rfl ?_
          refine Ev_if_eq (tgt := 106) hq_182 (show decode prog_7_method_57_code 98 = .ok (.ifCond .eq 8, 3) by decide +kernel) (by decide) (fun _ => ?_) (fun hz => absurd (by decide) hz)
          refine Ev_iload hq_182 (show decode prog_7_method_57_code 106 = .ok (.iload 5, 2) by decide +kernel) rfl ?_
          refine Ev_istore (lo2 := [.ref 57, .int x1, .int x2, .int x3, .int x4, .int x5, .int x6, .int r5, .int 0]) hq_182 (show decode prog_7_method_57_code 108 = .ok (.istore 5, 2) by decide +kernel) (z_le rfl) rfl ?_
          obtain ⟨y11, ey11⟩ : ∃ y11 : Int32, y11 = x6 + 1 := ⟨_, rfl⟩
          have k := k y11 ey11
          refine Ev_iinc (v := y11) (lo2 := [.ref 57, .int x1, .int x2, .int x3, .int x4, .int x5, .int y11, .int r5, .int 0]) hq_182 (show decode prog_7_method_57_code 110 = .ok (.iinc 6 1, 3) by decide +kernel) rfl (by rw [ey11]; rfl) rfl ?_
          refine Ev_goto (tgt := 39) hq_182 (show decode prog_7_method_57_code 113 = .ok (.goto (-74), 3) by decide +kernel) (by decide) ?_
          exact k
        · have k := k.2 c10
          refine Ev_iconst (v := 1) hq_182 (show decode prog_7_method_57_code 75 = .ok (.iconst 1, 1) by decide +kernel) (by decide) ?_
          refine Ev_goto (tgt := 80) hq_182 (show decode prog_7_method_57_code 76 = .ok (.goto 4, 3) by decide +kernel) (by decide) ?_
          refine Ev_istore (lo2 := [.ref 57, .int x1, .int x2, .int x3, .int x4, .int x5, .int x6, .int r5, .int 1]) hq_182 (show decode prog_7_method_57_code 80 = .ok (.istore 8, 2) by decide +kernel) (z_le rfl) rfl ?_
          refine Ev_iload hq_182 (show decode prog_7_method_57_code 82 = .ok (.iload 8, 2) by decide +kernel) rfl ?_
          refine Ev_if_eq (tgt := 92) hq_182 (show decode prog_7_method_57_code 84 = .ok (.ifCond .eq 8, 3) by decide +kernel) (by decide) (fun hz => absurd hz (by decide)) (fun _ => ?_)
          refine Ev_iload hq_182 (show decode prog_7_method_57_code 87 = .ok (.iload 6, 2) by decide +kernel) rfl ?_
          refine Ev_goto (tgt := 94) hq_182 (show decode prog_7_method_57_code 89 = .ok (.goto 5, 3) by decide +kernel) (by decide) ?_
          refine Ev_istore (lo2 := [.ref 57, .int x1, .int x2, .int x3, .int x6, .int x5, .int x6, .int r5, .int 1]) hq_182 (show decode prog_7_method_57_code 94 = .ok (.istore 4, 2) by decide +kernel) (z_le rfl) rfl ?_
          refine Ev_iload hq_182 (show decode prog_7_method_57_code 96 = .ok (.iload 8, 2) by decide +kernel) rfl ?_
          refine Ev_if_eq (tgt := 106) hq_182 (show decode prog_7_method_57_code 98 = .ok (.ifCond .eq 8, 3) by decide +kernel) (by decide) (fun hz => absurd hz (by decide)) (fun _ => ?_)
          refine Ev_iload hq_182 (show decode prog_7_method_57_code 101 = .ok (.iload 7, 2) by decide +kernel) rfl ?_
          refine Ev_goto (tgt := 108) hq_182 (show decode prog_7_method_57_code 103 = .ok (.goto 5, 3) by decide +kernel) (by decide) ?_
          refine Ev_istore (lo2 := [.ref 57, .int x1, .int x2, .int x3, .int x6, .int r5, .int x6, .int r5, .int 1]) hq_182 (show decode prog_7_method_57_code 108 = .ok (.istore 5, 2) by decide +kernel) (z_le rfl) rfl ?_
          obtain ⟨y12, ey12⟩ : ∃ y12 : Int32, y12 = x6 + 1 := ⟨_, rfl⟩
          have k := k y12 ey12
          refine Ev_iinc (v := y12) (lo2 := [.ref 57, .int x1, .int x2, .int x3, .int x6, .int r5, .int y12, .int r5, .int 1]) hq_182 (show decode prog_7_method_57_code 110 = .ok (.iinc 6 1, 3) by decide +kernel) rfl (by rw [ey12]; rfl) rfl ?_
          refine Ev_goto (tgt := 39) hq_182 (show decode prog_7_method_57_code 113 = .ok (.goto (-74), 3) by decide +kernel) (by decide) ?_
          exact k
set_option maxRecDepth 20000 in
theorem wp_Z_costOfAll {X : Nat × (Nat → Int32)} {d : Nat} {G : zG} {I : zI} {res : Option Value × zG × zI}  (hS : SG G) 
    (k : ∃ (I1 : zI), Cv X d 159 [.ref 57, .int 30] G I (none, G, I1) ∧ (∃ (r5 : Int32) (I3 : zI), Cv X d 173 [.ref 57] G I1 (some (.int r5), G, I3) ∧ (res = (some (.int r5), G, I3)))) :
    Ev X (d + 1) 184 0 [.ref 57] [] G I res := by
  refine Ev_aload_n hq_184 (show decode prog_7_method_41_code 0 = .ok (.aload_n 0, 1) by decide +kernel) rfl ?_
  refine Ev_bipush (v := 30) hq_184 (show decode prog_7_method_41_code 1 = .ok (.bipush 30, 2) by decide +kernel) (by decide) ?_
  obtain ⟨I1, h2, k⟩ := k
  refine Ev_virt (as := [.int 30]) hq_184 (show decode prog_7_method_41_code 3 = .ok (.invokevirtual 205, 3) by decide +kernel) rfl hq_159 rfl (z_le rfl) ⟨(SGn hS (by decide)), (SGk hS rfl), by decide⟩ h2 ?_
  refine Ev_aload_n hq_184 (show decode prog_7_method_41_code 6 = .ok (.aload_n 0, 1) by decide +kernel) rfl ?_
  obtain ⟨r5, I3, h4, k⟩ := k
  refine Ev_virt (as := []) hq_184 (show decode prog_7_method_41_code 7 = .ok (.invokevirtual 208, 3) by decide +kernel) rfl hq_173 rfl (z_le rfl) ⟨(SGn hS (by decide)), (SGk hS rfl), by decide⟩ h4 ?_
  exact Ev_iret hq_184 (show decode prog_7_method_41_code 10 = .ok (.ireturn, 1) by decide +kernel) rfl k
set_option maxRecDepth 20000 in
theorem wp_Z_card {X : Nat × (Nat → Int32)} {d : Nat} {G : zG} {I : zI} {res : Option Value × zG × zI} (x1 : Int32) 
    (k : (¬ (f_Z_in x1 0 1) = 0 → Ev X (d + 1) 183 14 [.ref 57, .int x1, .int 0, zU, zU, zU, zU] [] G I res) ∧ ((f_Z_in x1 0 1) = 0 → res = (some (.int (-2)), G, I))) :
    Ev X (d + 1) 183 0 [.ref 57, .int x1, zU, zU, zU, zU, zU] [] G I res := by
  refine Ev_iload_n hq_183 (show decode prog_7_method_58_code 0 = .ok (.iload_n 1, 1) by decide +kernel) rfl ?_
  refine Ev_iconst (v := 0) hq_183 (show decode prog_7_method_58_code 1 = .ok (.iconst 0, 1) by decide +kernel) (by decide) ?_
  refine Ev_iconst (v := 1) hq_183 (show decode prog_7_method_58_code 2 = .ok (.iconst 1, 1) by decide +kernel) (by decide) ?_
  refine Ev_stat (as := [.int x1, .int 0, .int 1]) hq_183 (show decode prog_7_method_58_code 3 = .ok (.invokestatic 90, 3) by decide +kernel) rfl (Or.inl rfl) hq_131 rfl (z_le rfl) (c_Z_in x1 0 1) ?_
  refine Ev_if_ne (tgt := 12) hq_183 (show decode prog_7_method_58_code 6 = .ok (.ifCond .ne 6, 3) by decide +kernel) (by decide) (fun c1 => ?_) (fun c1 => ?_)
  · have k := k.1 c1
    refine Ev_iconst (v := 0) hq_183 (show decode prog_7_method_58_code 12 = .ok (.iconst 0, 1) by decide +kernel) (by decide) ?_
    refine Ev_istore_n (lo2 := [.ref 57, .int x1, .int 0, zU, zU, zU, zU]) hq_183 (show decode prog_7_method_58_code 13 = .ok (.istore_n 2, 1) by decide +kernel) (z_le rfl) rfl ?_
    exact k
  · have k := k.2 (Classical.not_not.mp c1)
    refine Ev_bipush (v := (-2)) hq_183 (show decode prog_7_method_58_code 9 = .ok (.bipush (-2), 2) by decide +kernel) (by decide) ?_
    exact Ev_iret hq_183 (show decode prog_7_method_58_code 11 = .ok (.ireturn, 1) by decide +kernel) rfl k
set_option maxRecDepth 20000 in
theorem wp_Z_card_14 {X : Nat × (Nat → Int32)} {d : Nat} {G : zG} {I : zI} {res : Option Value × zG × zI} (x1 : Int32) (x2 : Int32) (hS : SG G) 
    (k : ((I 57 0) ≤ x2 → Ev X d 183 51 [.ref 57, .int x1, .int (-1), .int 0, .int 0, zU, zU] [] G I res) ∧ (¬ (I 57 0) ≤ x2 → z_inr ((5 * x2) + 3) 20 ∧ (z_inr x2 4 ∧ (∀ I4 : zI, I4 = z_up I 78 x2.toNatClampNeg (I 60 ((5 * x2) + 3).toNatClampNeg) → ∀ y5 : Int32, y5 = x2 + 1 → Ev X d 183 14 [.ref 57, .int x1, .int y5, zU, zU, zU, zU] [] G I4 res)))) :
    Ev X d 183 14 [.ref 57, .int x1, .int x2, zU, zU, zU, zU] [] G I res := by
  refine Ev_iload_n hq_183 (show decode prog_7_method_58_code 14 = .ok (.iload_n 2, 1) by decide +kernel) rfl ?_
  refine Ev_aload_n hq_183 (show decode prog_7_method_58_code 15 = .ok (.aload_n 0, 1) by decide +kernel) rfl ?_
  refine Ev_getI hq_183 (show decode prog_7_method_58_code 16 = .ok (.getfield 87, 3) by decide +kernel) rfl (SGn hS (by decide)) (SGk hS rfl) (by decide) rfl ?_
  refine Ev_icmp_ge (tgt := 44) hq_183 (show decode prog_7_method_58_code 19 = .ok (.if_icmp .ge 25, 3) by decide +kernel) (by decide) (fun c1 => ?_) (fun c1 => ?_)
  · have k := k.1 c1
    refine Ev_iconst (v := (-1)) hq_183 (show decode prog_7_method_58_code 44 = .ok (.iconst (-1), 1) by decide +kernel) (by decide) ?_
    refine Ev_istore_n (lo2 := [.ref 57, .int x1, .int (-1), zU, zU, zU, zU]) hq_183 (show decode prog_7_method_58_code 45 = .ok (.istore_n 2, 1) by decide +kernel) (z_le rfl) rfl ?_
    refine Ev_iconst (v := 0) hq_183 (show decode prog_7_method_58_code 46 = .ok (.iconst 0, 1) by decide +kernel) (by decide) ?_
    refine Ev_istore_n (lo2 := [.ref 57, .int x1, .int (-1), .int 0, zU, zU, zU]) hq_183 (show decode prog_7_method_58_code 47 = .ok (.istore_n 3, 1) by decide +kernel) (z_le rfl) rfl ?_
    refine Ev_iconst (v := 0) hq_183 (show decode prog_7_method_58_code 48 = .ok (.iconst 0, 1) by decide +kernel) (by decide) ?_
    refine Ev_istore (lo2 := [.ref 57, .int x1, .int (-1), .int 0, .int 0, zU, zU]) hq_183 (show decode prog_7_method_58_code 49 = .ok (.istore 4, 2) by decide +kernel) (z_le rfl) rfl ?_
    exact k
  · have k := k.2 c1
    refine Ev_aload_n hq_183 (show decode prog_7_method_58_code 22 = .ok (.aload_n 0, 1) by decide +kernel) rfl ?_
    refine Ev_getR hq_183 (show decode prog_7_method_58_code 23 = .ok (.getfield 74, 3) by decide +kernel) rfl (SGn hS (by decide)) (SGk hS rfl) (by decide) rfl (SGr hS rfl) ?_
    refine Ev_iload_n hq_183 (show decode prog_7_method_58_code 26 = .ok (.iload_n 2, 1) by decide +kernel) rfl ?_
    refine Ev_aload_n hq_183 (show decode prog_7_method_58_code 27 = .ok (.aload_n 0, 1) by decide +kernel) rfl ?_
    refine Ev_getR hq_183 (show decode prog_7_method_58_code 28 = .ok (.getfield 16, 3) by decide +kernel) rfl (SGn hS (by decide)) (SGk hS rfl) (by decide) rfl (SGr hS rfl) ?_
    refine Ev_iconst (v := 5) hq_183 (show decode prog_7_method_58_code 31 = .ok (.iconst 5, 1) by decide +kernel) (by decide) ?_
    refine Ev_iload_n hq_183 (show decode prog_7_method_58_code 32 = .ok (.iload_n 2, 1) by decide +kernel) rfl ?_
    refine Ev_imul hq_183 (show decode prog_7_method_58_code 33 = .ok (.imul, 1) by decide +kernel) ?_
    refine Ev_iconst (v := 3) hq_183 (show decode prog_7_method_58_code 34 = .ok (.iconst 3, 1) by decide +kernel) (by decide) ?_
    refine Ev_iadd hq_183 (show decode prog_7_method_58_code 35 = .ok (.iadd, 1) by decide +kernel) ?_
    obtain ⟨h2, k⟩ := k
    refine Ev_iald hq_183 (show decode prog_7_method_58_code 36 = .ok (.iaload, 1) by decide +kernel) (SGn hS (by decide)) (SGk hS rfl) (SGi hS rfl h2) ?_
    obtain ⟨h3, k⟩ := k
    refine Ev_iast hq_183 (show decode prog_7_method_58_code 37 = .ok (.iastore, 1) by decide +kernel) (SGn hS (by decide)) (SGk hS rfl) (SGi hS rfl h3) ?_
    obtain ⟨I4, eI4⟩ : ∃ I4 : zI, I4 = z_up I 78 x2.toNatClampNeg (I 60 ((5 * x2) + 3).toNatClampNeg) := ⟨_, rfl⟩
    have k := k I4 eI4
    rw [← eI4]
    obtain ⟨y5, ey5⟩ : ∃ y5 : Int32, y5 = x2 + 1 := ⟨_, rfl⟩
    have k := k y5 ey5
    refine Ev_iinc (v := y5) (lo2 := [.ref 57, .int x1, .int y5, zU, zU, zU, zU]) hq_183 (show decode prog_7_method_58_code 38 = .ok (.iinc 2 1, 3) by decide +kernel) rfl (by rw [ey5]; rfl) rfl ?_
    refine Ev_goto (tgt := 14) hq_183 (show decode prog_7_method_58_code 41 = .ok (.goto (-27), 3) by decide +kernel) (by decide) ?_
    exact k
set_option maxRecDepth 20000 in
theorem wp_Z_card_51 {X : Nat × (Nat → Int32)} {d : Nat} {G : zG} {I : zI} {res : Option Value × zG × zI} (x1 : Int32) (x2 : Int32) (x3 : Int32) (x4 : Int32) (v5 : Value) (cv5 : v5.category = 1) (v6 : Value) (cv6 : v6.category = 1) 
    (k : (16 < x4 → Ev X d 183 146 [.ref 57, .int x1, .int x2, .int x3, .int 0, v5, v6] [] G I res) ∧ (¬ 16 < x4 → Ev X d 183 61 [.ref 57, .int x1, .int x2, .int x3, .int x4, .int 0, v6] [] G I res)) :
    Ev X d 183 51 [.ref 57, .int x1, .int x2, .int x3, .int x4, v5, v6] [] G I res := by
  refine Ev_iload hq_183 (show decode prog_7_method_58_code 51 = .ok (.iload 4, 2) by decide +kernel) rfl ?_
  refine Ev_bipush (v := 16) hq_183 (show decode prog_7_method_58_code 53 = .ok (.bipush 16, 2) by decide +kernel) (by decide) ?_
  refine Ev_icmp_gt (tgt := 143) hq_183 (show decode prog_7_method_58_code 55 = .ok (.if_icmp .gt 88, 3) by decide +kernel) (by decide) (fun c1 => ?_) (fun c1 => ?_)
  · have k := k.1 c1
    refine Ev_iconst (v := 0) hq_183 (show decode prog_7_method_58_code 143 = .ok (.iconst 0, 1) by decide +kernel) (by decide) ?_
    refine Ev_istore (lo2 := [.ref 57, .int x1, .int x2, .int x3, .int 0, v5, v6]) hq_183 (show decode prog_7_method_58_code 144 = .ok (.istore 4, 2) by decide +kernel) (z_le rfl) rfl ?_
    exact k
  · have k := k.2 c1
    refine Ev_iconst (v := 0) hq_183 (show decode prog_7_method_58_code 58 = .ok (.iconst 0, 1) by decide +kernel) (by decide) ?_
    refine Ev_istore (lo2 := [.ref 57, .int x1, .int x2, .int x3, .int x4, .int 0, v6]) hq_183 (show decode prog_7_method_58_code 59 = .ok (.istore 5, 2) by decide +kernel) (z_le rfl) rfl ?_
    exact k
set_option maxRecDepth 20000 in
theorem wp_Z_card_61 {X : Nat × (Nat → Int32)} {d : Nat} {G : zG} {I : zI} {res : Option Value × zG × zI} (x1 : Int32) (x2 : Int32) (x3 : Int32) (x4 : Int32) (x5 : Int32) (v6 : Value) (cv6 : v6.category = 1) (hS : SG G) 
    (k : ((I 57 0) ≤ x5 → ∃ (r4 : Int32) (I2 : zI), Cv X d 184 [.ref 57] G I (some (.int r4), G, I2) ∧ ((x2 = (-1) → ∀ y6 : Int32, y6 = x4 + 1 → Ev X (d + 1) 183 51 [.ref 57, .int x1, .int x4, .int r4, .int y6, .int r4, .int 1] [] G I2 res) ∧ (¬ x2 = (-1) → (x3 ≤ r4 → ∀ y8 : Int32, y8 = x4 + 1 → Ev X (d + 1) 183 51 [.ref 57, .int x1, .int x2, .int x3, .int y8, .int r4, .int 0] [] G I2 res) ∧ (¬ x3 ≤ r4 → ∀ y9 : Int32, y9 = x4 + 1 → Ev X (d + 1) 183 51 [.ref 57, .int x1, .int x4, .int r4, .int y9, .int r4, .int 1] [] G I2 res)))) ∧ (¬ (I 57 0) ≤ x5 → z_inr ((5 * x5) + 3) 20 ∧ (∀ I11 : zI, I11 = z_up I 60 ((5 * x5) + 3).toNatClampNeg x4 → ∀ y12 : Int32, y12 = x5 + 1 → Ev X (d + 1) 183 61 [.ref 57, .int x1, .int x2, .int x3, .int x4, .int y12, v6] [] G I11 res))) :
    Ev X (d + 1) 183 61 [.ref 57, .int x1, .int x2, .int x3, .int x4, .int x5, v6] [] G I res := by
  refine Ev_iload hq_183 (show decode prog_7_method_58_code 61 = .ok (.iload 5, 2) by decide +kernel) rfl ?_
  refine Ev_aload_n hq_183 (show decode prog_7_method_58_code 63 = .ok (.aload_n 0, 1) by decide +kernel) rfl ?_
  refine Ev_getI hq_183 (show decode prog_7_method_58_code 64 = .ok (.getfield 87, 3) by decide +kernel) rfl (SGn hS (by decide)) (SGk hS rfl) (by decide) rfl ?_
  refine Ev_icmp_ge (tgt := 89) hq_183 (show decode prog_7_method_58_code 67 = .ok (.if_icmp .ge 22, 3) by decide +kernel) (by decide) (fun c1 => ?_) (fun c1 => ?_)
  · have k := k.1 c1
    refine Ev_aload_n hq_183 (show decode prog_7_method_58_code 89 = .ok (.aload_n 0, 1) by decide +kernel) rfl ?_
    obtain ⟨r4, I2, h3, k⟩ := k
    refine Ev_virt (as := []) hq_183 (show decode prog_7_method_58_code 90 = .ok (.invokevirtual 247, 3) by decide +kernel) rfl hq_184 rfl (z_le rfl) ⟨(SGn hS (by decide)), (SGk hS rfl), by decide⟩ h3 ?_
    refine Ev_istore (lo2 := [.ref 57, .int x1, .int x2, .int x3, .int x4, .int r4, v6]) hq_183 (show decode prog_7_method_58_code 93 = .ok (.istore 5, 2) by decide +kernel) (z_le rfl) rfl ?_
    refine Ev_iload_n hq_183 (show decode prog_7_method_58_code 95 = .ok (.iload_n 2, 1) by decide +kernel) rfl ?_
    refine Ev_iconst (v := (-1)) hq_183 (show decode prog_7_method_58_code 96 = .ok (.iconst (-1), 1) by decide +kernel) (by decide) ?_
    refine Ev_icmp_eq (tgt := 106) hq_183 (show decode prog_7_method_58_code 97 = .ok (.if_icmp .eq 9, 3) by decide +kernel) (by decide) (fun c5 => ?_) (fun c5 => ?_)
    · have k := k.1 c5
      refine Ev_iconst (v := 1) hq_183 (show decode prog_7_method_58_code 106 = .ok (.iconst 1, 1) by decide +kernel) (by decide) ?_
      refine Ev_goto (tgt := 111) hq_183 (show decode prog_7_method_58_code 107 = .ok (.goto 4, 3) by decide +kernel) (by decide) ?_
      refine Ev_istore (lo2 := [.ref 57, .int x1, .int x2, .int x3, .int x4, .int r4, .int 1]) hq_183 (show decode prog_7_method_58_code 111 = .ok (.istore 6, 2) by decide +kernel) (z_le rfl) rfl ?_
      refine Ev_iload hq_183 (show decode prog_7_method_58_code 113 = .ok (.iload 6, 2) by decide +kernel) rfl ?_
      refine Ev_if_eq (tgt := 123) hq_183 (show decode prog_7_method_58_code 115 = .ok (.ifCond .eq 8, 3) by decide +kernel) (by decide) (fun hz => absurd hz (by decide)) (fun _ => ?_)
      refine Ev_iload hq_183 (show decode prog_7_method_58_code 118 = .ok (.iload 4, 2) by decide +kernel) rfl ?_
      refine Ev_goto (tgt := 124) hq_183 (show decode prog_7_method_58_code 120 = .ok (.goto 4, 3) by decide +kernel) (by decide) ?_
      refine Ev_istore_n (lo2 := [.ref 57, .int x1, .int x4, .int x3, .int x4, .int r4, .int 1]) hq_183 (show decode prog_7_method_58_code 124 = .ok (.istore_n 2, 1) by decide +kernel) (z_le rfl) rfl ?_
      refine Ev_iload hq_183 (show decode prog_7_method_58_code 125 = .ok (.iload 6, 2) by decide +kernel) rfl ?_
      refine Ev_if_eq (tgt := 135) hq_183 (show decode prog_7_method_58_code 127 = .ok (.ifCond .eq 8, 3) by decide +kernel) (by decide) (fun hz => absurd hz (by decide)) (fun _ => ?_)
      refine Ev_iload hq_183 (show decode prog_7_method_58_code 130 = .ok (.iload 5, 2) by decide +kernel) rfl ?_
      refine Ev_goto (tgt := 136) hq_183 (show decode prog_7_method_58_code 132 = .ok (.goto 4, 3) by decide +kernel) (by decide) ?_
      refine Ev_istore_n (lo2 := [.ref 57, .int x1, .int x4, .int r4, .int x4, .int r4, .int 1]) hq_183 (show decode prog_7_method_58_code 136 = .ok (.istore_n 3, 1) by decide +kernel) (z_le rfl) rfl ?_
      obtain ⟨y6, ey6⟩ : ∃ y6 : Int32, y6 = x4 + 1 := ⟨_, rfl⟩
      have k := k y6 ey6
      refine Ev_iinc (v := y6) (lo2 := [.ref 57, .int x1, .int x4, .int r4, .int y6, .int r4, .int 1]) hq_183 (show decode prog_7_method_58_code 137 = .ok (.iinc 4 1, 3) by decide +kernel) rfl (by rw [ey6]; rfl) rfl ?_
      refine Ev_goto (tgt := 51) hq_183 (show decode prog_7_method_58_code 140 = .ok (.goto (-89), 3) by decide +kernel) (by decide) ?_
      exact k
    · have k := k.2 c5
      refine Ev_iload hq_183 (show decode prog_7_method_58_code 100 = .ok (.iload 5, 2) by decide +kernel) rfl ?_
      refine Ev_iload_n hq_183 (show decode prog_7_method_58_code 102 = .ok (.iload_n 3, 1) by decide +kernel) rfl ?_
      refine Ev_icmp_ge (tgt := 110) hq_183 (show decode prog_7_method_58_code 103 = .ok (.if_icmp .ge 7, 3) by decide +kernel) (by decide) (fun c7 => ?_) (fun c7 => ?_)
      · have k := k.1 c7
        refine Ev_iconst (v := 0) hq_183 (show decode prog_7_method_58_code 110 = .ok (.iconst 0, 1) by decide +kernel) (by decide) ?_
        refine Ev_istore (lo2 := [.ref 57, .int x1, .int x2, .int x3, .int x4, .int r4, .int 0]) hq_183 (show decode prog_7_method_58_code 111 = .ok (.istore 6, 2) by decide +kernel) (z_le rfl) rfl ?_
        refine Ev_iload hq_183 (show decode prog_7_method_58_code 113 = .ok (.iload 6, 2) by decide +kernel) rfl ?_
        refine Ev_if_eq (tgt := 123) hq_183 (show decode prog_7_method_58_code 115 = .ok (.ifCond .eq 8, 3) by decide +kernel) (by decide) (fun _ => ?_) (fun hz => absurd (by decide) hz)
        refine Ev_iload_n hq_183 (show decode prog_7_method_58_code 123 = .ok (.iload_n 2, 1) by decide +kernel) rfl ?_
        refine Ev_istore_n (lo2 := [.ref 57, .int x1, .int x2, .int x3, .int x4, .int r4, .int 0]) hq_183 (show decode prog_7_method_58_code 124 = .ok (.istore_n 2, 1) by decide +kernel) (z_le rfl) rfl ?_
        refine Ev_iload hq_183 (show decode prog_7_method_58_code 125 = .ok (.iload 6, 2) by decide +kernel) rfl ?_
        refine Ev_if_eq (tgt := 135) hq_183 (show decode prog_7_method_58_code 127 = .ok (.ifCond .eq 8, 3) by decide +kernel) (by decide) (fun _ => ?_) (fun hz => absurd (by decide) hz)
        refine Ev_iload_n hq_183 (show decode prog_7_method_58_code 135 = .ok (.iload_n 3, 1) by decide +kernel) rfl ?_
        refine Ev_istore_n (lo2 := [.ref 57, .int x1, .int x2, .int x3, .int x4, .int r4, .int 0]) hq_183 (show decode prog_7_method_58_code 136 = .ok (.istore_n 3, 1) by decide +kernel) (z_le rfl) rfl ?_
        obtain ⟨y8, ey8⟩ : ∃ y8 : Int32, y8 = x4 + 1 := ⟨_, rfl⟩
        have k := k y8 ey8
        refine Ev_iinc (v := y8) (lo2 := [.ref 57, .int x1, .int x2, .int x3, .int y8, .int r4, .int 0]) hq_183 (show decode prog_7_method_58_code 137 = .ok (.iinc 4 1, 3) by decide +kernel) rfl (by rw [ey8]; rfl) rfl ?_
        refine Ev_goto (tgt := 51) hq_183 (show decode prog_7_method_58_code 140 = .ok (.goto (-89), 3) by decide +kernel) (by decide) ?_
        exact k
      · have k := k.2 c7
        refine Ev_iconst (v := 1) hq_183 (show decode prog_7_method_58_code 106 = .ok (.iconst 1, 1) by decide +kernel) (by decide) ?_
        refine Ev_goto (tgt := 111) hq_183 (show decode prog_7_method_58_code 107 = .ok (.goto 4, 3) by decide +kernel) (by decide) ?_
        refine Ev_istore (lo2 := [.ref 57, .int x1, .int x2, .int x3, .int x4, .int r4, .int 1]) hq_183 (show decode prog_7_method_58_code 111 = .ok (.istore 6, 2) by decide +kernel) (z_le rfl) rfl ?_
        refine Ev_iload hq_183 (show decode prog_7_method_58_code 113 = .ok (.iload 6, 2) by decide +kernel) rfl ?_
        refine Ev_if_eq (tgt := 123) hq_183 (show decode prog_7_method_58_code 115 = .ok (.ifCond .eq 8, 3) by decide +kernel) (by decide) (fun hz => absurd hz (by decide)) (fun _ => ?_)
        refine Ev_iload hq_183 (show decode prog_7_method_58_code 118 = .ok (.iload 4, 2) by decide +kernel) rfl ?_
        refine Ev_goto (tgt := 124) hq_183 (show decode prog_7_method_58_code 120 = .ok (.goto 4, 3) by decide +kernel) (by decide) ?_
        refine Ev_istore_n (lo2 := [.ref 57, .int x1, .int x4, .int x3, .int x4, .int r4, .int 1]) hq_183 (show decode prog_7_method_58_code 124 = .ok (.istore_n 2, 1) by decide +kernel) (z_le rfl) rfl ?_
        refine Ev_iload hq_183 (show decode prog_7_method_58_code 125 = .ok (.iload 6, 2) by decide +kernel) rfl ?_
        refine Ev_if_eq (tgt := 135) hq_183 (show decode prog_7_method_58_code 127 = .ok (.ifCond .eq 8, 3) by decide +kernel) (by decide) (fun hz => absurd hz (by decide)) (fun _ => ?_)
        refine Ev_iload hq_183 (show decode prog_7_method_58_code 130 = .ok (.iload 5, 2) by decide +kernel) rfl ?_
        refine Ev_goto (tgt := 136) hq_183 (show decode prog_7_method_58_code 132 = .ok (.goto 4, 3) by decide +kernel) (by decide) ?_
        refine Ev_istore_n (lo2 := [.ref 57, .int x1, .int x4, .int r4, .int x4, .int r4, .int 1]) hq_183 (show decode prog_7_method_58_code 136 = .ok (.istore_n 3, 1) by decide +kernel) (z_le rfl) rfl ?_
        obtain ⟨y9, ey9⟩ : ∃ y9 : Int32, y9 = x4 + 1 := ⟨_, rfl⟩
        have k := k y9 ey9
        refine Ev_iinc (v := y9) (lo2 := [.ref 57, .int x1, .int x4, .int r4, .int y9, .int r4, .int 1]) hq_183 (show decode prog_7_method_58_code 137 = .ok (.iinc 4 1, 3) by decide +kernel) rfl (by rw [ey9]; rfl) rfl ?_
        refine Ev_goto (tgt := 51) hq_183 (show decode prog_7_method_58_code 140 = .ok (.goto (-89), 3) by decide +kernel) (by decide) ?_
        exact k
  · have k := k.2 c1
    refine Ev_aload_n hq_183 (show decode prog_7_method_58_code 70 = .ok (.aload_n 0, 1) by decide +kernel) rfl ?_
    refine Ev_getR hq_183 (show decode prog_7_method_58_code 71 = .ok (.getfield 16, 3) by decide +kernel) rfl (SGn hS (by decide)) (SGk hS rfl) (by decide) rfl (SGr hS rfl) ?_
    refine Ev_iconst (v := 5) hq_183 (show decode prog_7_method_58_code 74 = .ok (.iconst 5, 1) by decide +kernel) (by decide) ?_
    refine Ev_iload hq_183 (show decode prog_7_method_58_code 75 = .ok (.iload 5, 2) by decide +kernel) rfl ?_
    refine Ev_imul hq_183 (show decode prog_7_method_58_code 77 = .ok (.imul, 1) by decide +kernel) ?_
    refine Ev_iconst (v := 3) hq_183 (show decode prog_7_method_58_code 78 = .ok (.iconst 3, 1) by decide +kernel) (by decide) ?_
    refine Ev_iadd hq_183 (show decode prog_7_method_58_code 79 = .ok (.iadd, 1) by decide +kernel) ?_
    refine Ev_iload hq_183 (show decode prog_7_method_58_code 80 = .ok (.iload 4, 2) by decide +kernel) rfl ?_
    obtain ⟨h10, k⟩ := k
    refine Ev_iast hq_183 (show decode prog_7_method_58_code 82 = .ok (.iastore, 1) by decide +kernel) (SGn hS (by decide)) (SGk hS rfl) (SGi hS rfl h10) ?_
    obtain ⟨I11, eI11⟩ : ∃ I11 : zI, I11 = z_up I 60 ((5 * x5) + 3).toNatClampNeg x4 := ⟨_, rfl⟩
    have k := k I11 eI11
    rw [← eI11]
    obtain ⟨y12, ey12⟩ : ∃ y12 : Int32, y12 = x5 + 1 := ⟨_, rfl⟩
    have k := k y12 ey12
    refine Ev_iinc (v := y12) (lo2 := [.ref 57, .int x1, .int x2, .int x3, .int x4, .int y12, v6]) hq_183 (show decode prog_7_method_58_code 83 = .ok (.iinc 5 1, 3) by decide +kernel) rfl (by rw [ey12]; rfl) rfl ?_
    refine Ev_goto (tgt := 61) hq_183 (show decode prog_7_method_58_code 86 = .ok (.goto (-25), 3) by decide +kernel) (by decide) ?_
    exact k
set_option maxRecDepth 20000 in
theorem wp_Z_card_146 {X : Nat × (Nat → Int32)} {d : Nat} {G : zG} {I : zI} {res : Option Value × zG × zI} (x1 : Int32) (x2 : Int32) (x3 : Int32) (x4 : Int32) (v5 : Value) (cv5 : v5.category = 1) (v6 : Value) (cv6 : v6.category = 1) (hS : SG G) 
    (k : ((I 57 0) ≤ x4 → (¬ x1 = 0 → res = (some (.int x3), G, I)) ∧ (x1 = 0 → res = (some (.int x2), G, I))) ∧ (¬ (I 57 0) ≤ x4 → z_inr x4 4 ∧ (z_inr ((5 * x4) + 3) 20 ∧ (∀ I5 : zI, I5 = z_up I 60 ((5 * x4) + 3).toNatClampNeg (I 78 x4.toNatClampNeg) → ∀ y6 : Int32, y6 = x4 + 1 → Ev X d 183 146 [.ref 57, .int x1, .int x2, .int x3, .int y6, v5, v6] [] G I5 res)))) :
    Ev X d 183 146 [.ref 57, .int x1, .int x2, .int x3, .int x4, v5, v6] [] G I res := by
  refine Ev_iload hq_183 (show decode prog_7_method_58_code 146 = .ok (.iload 4, 2) by decide +kernel) rfl ?_
  refine Ev_aload_n hq_183 (show decode prog_7_method_58_code 148 = .ok (.aload_n 0, 1) by decide +kernel) rfl ?_
  refine Ev_getI hq_183 (show decode prog_7_method_58_code 149 = .ok (.getfield 87, 3) by decide +kernel) rfl (SGn hS (by decide)) (SGk hS rfl) (by decide) rfl ?_
  refine Ev_icmp_ge (tgt := 179) hq_183 (show decode prog_7_method_58_code 152 = .ok (.if_icmp .ge 27, 3) by decide +kernel) (by decide) (fun c1 => ?_) (fun c1 => ?_)
  · have k := k.1 c1
    refine Ev_iload_n hq_183 (show decode prog_7_method_58_code 179 = .ok (.iload_n 1, 1) by decide +kernel) rfl ?_
    refine Ev_if_ne (tgt := 187) hq_183 (show decode prog_7_method_58_code 180 = .ok (.ifCond .ne 7, 3) by decide +kernel) (by decide) (fun c2 => ?_) (fun c2 => ?_)
    · have k := k.1 c2
      refine Ev_iload_n hq_183 (show decode prog_7_method_58_code 187 = .ok (.iload_n 3, 1) by decide +kernel) rfl ?_
      exact Ev_iret hq_183 (show decode prog_7_method_58_code 188 = .ok (.ireturn, 1) by decide +kernel) rfl k
    · have k := k.2 (Classical.not_not.mp c2)
      refine Ev_iload_n hq_183 (show decode prog_7_method_58_code 183 = .ok (.iload_n 2, 1) by decide +kernel) rfl ?_
      refine Ev_goto (tgt := 188) hq_183 (show decode prog_7_method_58_code 184 = .ok (.goto 4, 3) by decide +kernel) (by decide) ?_
      exact Ev_iret hq_183 (show decode prog_7_method_58_code 188 = .ok (.ireturn, 1) by decide +kernel) rfl k
  · have k := k.2 c1
    refine Ev_aload_n hq_183 (show decode prog_7_method_58_code 155 = .ok (.aload_n 0, 1) by decide +kernel) rfl ?_
    refine Ev_getR hq_183 (show decode prog_7_method_58_code 156 = .ok (.getfield 16, 3) by decide +kernel) rfl (SGn hS (by decide)) (SGk hS rfl) (by decide) rfl (SGr hS rfl) ?_
    refine Ev_iconst (v := 5) hq_183 (show decode prog_7_method_58_code 159 = .ok (.iconst 5, 1) by decide +kernel) (by decide) ?_
    refine Ev_iload hq_183 (show decode prog_7_method_58_code 160 = .ok (.iload 4, 2) by decide +kernel) rfl ?_
    refine Ev_imul hq_183 (show decode prog_7_method_58_code 162 = .ok (.imul, 1) by decide +kernel) ?_
    refine Ev_iconst (v := 3) hq_183 (show decode prog_7_method_58_code 163 = .ok (.iconst 3, 1) by decide +kernel) (by decide) ?_
    refine Ev_iadd hq_183 (show decode prog_7_method_58_code 164 = .ok (.iadd, 1) by decide +kernel) ?_
    refine Ev_aload_n hq_183 (show decode prog_7_method_58_code 165 = .ok (.aload_n 0, 1) by decide +kernel) rfl ?_
    refine Ev_getR hq_183 (show decode prog_7_method_58_code 166 = .ok (.getfield 74, 3) by decide +kernel) rfl (SGn hS (by decide)) (SGk hS rfl) (by decide) rfl (SGr hS rfl) ?_
    refine Ev_iload hq_183 (show decode prog_7_method_58_code 169 = .ok (.iload 4, 2) by decide +kernel) rfl ?_
    obtain ⟨h3, k⟩ := k
    refine Ev_iald hq_183 (show decode prog_7_method_58_code 171 = .ok (.iaload, 1) by decide +kernel) (SGn hS (by decide)) (SGk hS rfl) (SGi hS rfl h3) ?_
    obtain ⟨h4, k⟩ := k
    refine Ev_iast hq_183 (show decode prog_7_method_58_code 172 = .ok (.iastore, 1) by decide +kernel) (SGn hS (by decide)) (SGk hS rfl) (SGi hS rfl h4) ?_
    obtain ⟨I5, eI5⟩ : ∃ I5 : zI, I5 = z_up I 60 ((5 * x4) + 3).toNatClampNeg (I 78 x4.toNatClampNeg) := ⟨_, rfl⟩
    have k := k I5 eI5
    rw [← eI5]
    obtain ⟨y6, ey6⟩ : ∃ y6 : Int32, y6 = x4 + 1 := ⟨_, rfl⟩
    have k := k y6 ey6
    refine Ev_iinc (v := y6) (lo2 := [.ref 57, .int x1, .int x2, .int x3, .int y6, v5, v6]) hq_183 (show decode prog_7_method_58_code 173 = .ok (.iinc 4 1, 3) by decide +kernel) rfl (by rw [ey6]; rfl) rfl ?_
    refine Ev_goto (tgt := 146) hq_183 (show decode prog_7_method_58_code 176 = .ok (.goto (-30), 3) by decide +kernel) (by decide) ?_
    exact k
set_option maxRecDepth 20000 in
theorem wp_Z_areTwo {X : Nat × (Nat → Int32)} {d : Nat} {G : zG} {I : zI} {res : Option Value × zG × zI} (x1 : Int32) (x2 : Int32) (hd : 1 ≤ d) (hS : SG G) 
    (k : ((f_Z_isShower I x1) = 0 → res = (some (.int 0), G, I)) ∧ (¬ (f_Z_isShower I x1) = 0 → ((f_Z_isShower I x2) = 0 → res = (some (.int 0), G, I)) ∧ (¬ (f_Z_isShower I x2) = 0 → (x1 = x2 → res = (some (.int 0), G, I)) ∧ (¬ x1 = x2 → res = (some (.int 1), G, I))))) :
    Ev X (d + 1) 186 0 [.ref 57, .int x1, .int x2] [] G I res := by
  refine Ev_aload_n hq_186 (show decode prog_7_method_59_code 0 = .ok (.aload_n 0, 1) by decide +kernel) rfl ?_
  refine Ev_iload_n hq_186 (show decode prog_7_method_59_code 1 = .ok (.iload_n 1, 1) by decide +kernel) rfl ?_
  refine Ev_virt (as := [.int x1]) hq_186 (show decode prog_7_method_59_code 2 = .ok (.invokevirtual 176, 3) by decide +kernel) rfl hq_148 rfl (z_le rfl) ⟨(SGn hS (by decide)), (SGk hS rfl), by decide⟩ (c_Z_isShower (by omega) hS x1) ?_
  refine Ev_if_eq (tgt := 25) hq_186 (show decode prog_7_method_59_code 5 = .ok (.ifCond .eq 20, 3) by decide +kernel) (by decide) (fun c1 => ?_) (fun c1 => ?_)
  · have k := k.1 c1
    refine Ev_iconst (v := 0) hq_186 (show decode prog_7_method_59_code 25 = .ok (.iconst 0, 1) by decide +kernel) (by decide) ?_
    exact Ev_iret hq_186 (show decode prog_7_method_59_code 26 = .ok (.ireturn, 1) by decide +kernel) rfl k
  · have k := k.2 c1
    refine Ev_aload_n hq_186 (show decode prog_7_method_59_code 8 = .ok (.aload_n 0, 1) by decide +kernel) rfl ?_
    refine Ev_iload_n hq_186 (show decode prog_7_method_59_code 9 = .ok (.iload_n 2, 1) by decide +kernel) rfl ?_
    refine Ev_virt (as := [.int x2]) hq_186 (show decode prog_7_method_59_code 10 = .ok (.invokevirtual 176, 3) by decide +kernel) rfl hq_148 rfl (z_le rfl) ⟨(SGn hS (by decide)), (SGk hS rfl), by decide⟩ (c_Z_isShower (by omega) hS x2) ?_
    refine Ev_if_eq (tgt := 25) hq_186 (show decode prog_7_method_59_code 13 = .ok (.ifCond .eq 12, 3) by decide +kernel) (by decide) (fun c2 => ?_) (fun c2 => ?_)
    · have k := k.1 c2
      refine Ev_iconst (v := 0) hq_186 (show decode prog_7_method_59_code 25 = .ok (.iconst 0, 1) by decide +kernel) (by decide) ?_
      exact Ev_iret hq_186 (show decode prog_7_method_59_code 26 = .ok (.ireturn, 1) by decide +kernel) rfl k
    · have k := k.2 c2
      refine Ev_iload_n hq_186 (show decode prog_7_method_59_code 16 = .ok (.iload_n 1, 1) by decide +kernel) rfl ?_
      refine Ev_iload_n hq_186 (show decode prog_7_method_59_code 17 = .ok (.iload_n 2, 1) by decide +kernel) rfl ?_
      refine Ev_icmp_eq (tgt := 25) hq_186 (show decode prog_7_method_59_code 18 = .ok (.if_icmp .eq 7, 3) by decide +kernel) (by decide) (fun c3 => ?_) (fun c3 => ?_)
      · have k := k.1 c3
        refine Ev_iconst (v := 0) hq_186 (show decode prog_7_method_59_code 25 = .ok (.iconst 0, 1) by decide +kernel) (by decide) ?_
        exact Ev_iret hq_186 (show decode prog_7_method_59_code 26 = .ok (.ireturn, 1) by decide +kernel) rfl k
      · have k := k.2 c3
        refine Ev_iconst (v := 1) hq_186 (show decode prog_7_method_59_code 21 = .ok (.iconst 1, 1) by decide +kernel) (by decide) ?_
        refine Ev_goto (tgt := 26) hq_186 (show decode prog_7_method_59_code 22 = .ok (.goto 4, 3) by decide +kernel) (by decide) ?_
        exact Ev_iret hq_186 (show decode prog_7_method_59_code 26 = .ok (.ireturn, 1) by decide +kernel) rfl k
def f_Z_areTwo (I : zI) (x1 x2 : Int32) : Int32 := (if (f_Z_isShower I x1) = 0 then 0 else (if (f_Z_isShower I x2) = 0 then 0 else (if x1 = x2 then 0 else 1)))
theorem c_Z_areTwo {X : Nat × (Nat → Int32)} {d : Nat} {G : zG} {I : zI} (hd : 2 ≤ d) (hS : SG G) (x1 x2 : Int32) : Cv X d 186 [.ref 57, .int x1, .int x2] G I (some (.int (f_Z_areTwo I x1 x2)), G, I) := by
  obtain ⟨d, rfl⟩ : ∃ e, d = e + 1 := ⟨d - 1, by omega⟩
  exact Cv.of hq_186 (z_le rfl) rfl (wp_Z_areTwo x1 x2 (by omega) hS ⟨fun h0 => (by simp only [f_Z_areTwo]; rw [if_pos h0]), fun h0 => ⟨fun h1 => (by simp only [f_Z_areTwo]; rw [if_neg h0]; rw [if_pos h1]), fun h1 => ⟨fun h2 => (by simp only [f_Z_areTwo]; rw [if_neg h0]; rw [if_neg h1]; rw [if_pos h2]), fun h2 => (by simp only [f_Z_areTwo]; rw [if_neg h0]; rw [if_neg h1]; rw [if_neg h2])⟩⟩⟩)
theorem b_Z_areTwo (I : zI) (x1 x2 : Int32) : f_Z_areTwo I x1 x2 = 0 ∨ f_Z_areTwo I x1 x2 = 1 := by
  unfold f_Z_areTwo
  repeat (any_goals split)
  all_goals first | exact Or.inl rfl | exact Or.inr rfl | exact b_Z_isShower ..
set_option maxRecDepth 20000 in
theorem wp_Z_even {X : Nat × (Nat → Int32)} {d : Nat} {G : zG} {I : zI} {res : Option Value × zG × zI} (x1 : Int32) (x2 : Int32) (x3 : Int32) (hd : 2 ≤ d) (hS : SG G) 
    (k : (¬ (f_Z_areTwo I x1 x2) = 0 → (¬ (f_Z_in x3 0 1) = 0 → z_inr ((5 * x1) + 3) 20 ∧ (∀ y4 : Int32, y4 = (I 60 ((5 * x1) + 3).toNatClampNeg) → z_inr ((5 * x2) + 3) 20 ∧ (∀ y6 : Int32, y6 = (I 60 ((5 * x2) + 3).toNatClampNeg) → Ev X (d + 1) 185 57 [.ref 57, .int x1, .int x2, .int x3, .int y4, .int y6, .int 0, .int 0, .int 0, zU, zU] [] G I res))) ∧ ((f_Z_in x3 0 1) = 0 → res = (some (.int (-7)), G, I))) ∧ ((f_Z_areTwo I x1 x2) = 0 → res = (some (.int (-5)), G, I))) :
    Ev X (d + 1) 185 0 [.ref 57, .int x1, .int x2, .int x3, zU, zU, zU, zU, zU, zU, zU] [] G I res := by
  refine Ev_aload_n hq_185 (show decode prog_7_method_60_code 0 = .ok (.aload_n 0, 1) by decide +kernel) rfl ?_
  refine Ev_iload_n hq_185 (show decode prog_7_method_60_code 1 = .ok (.iload_n 1, 1) by decide +kernel) rfl ?_
  refine Ev_iload_n hq_185 (show decode prog_7_method_60_code 2 = .ok (.iload_n 2, 1) by decide +kernel) rfl ?_
  refine Ev_virt (as := [.int x1, .int x2]) hq_185 (show decode prog_7_method_60_code 3 = .ok (.invokevirtual 250, 3) by decide +kernel) rfl hq_186 rfl (z_le rfl) ⟨(SGn hS (by decide)), (SGk hS rfl), by decide⟩ (c_Z_areTwo (by omega) hS x1 x2) ?_
  refine Ev_if_ne (tgt := 12) hq_185 (show decode prog_7_method_60_code 6 = .ok (.ifCond .ne 6, 3) by decide +kernel) (by decide) (fun c1 => ?_) (fun c1 => ?_)
  · have k := k.1 c1
    refine Ev_iload_n hq_185 (show decode prog_7_method_60_code 12 = .ok (.iload_n 3, 1) by decide +kernel) rfl ?_
    refine Ev_iconst (v := 0) hq_185 (show decode prog_7_method_60_code 13 = .ok (.iconst 0, 1) by decide +kernel) (by decide) ?_
    refine Ev_iconst (v := 1) hq_185 (show decode prog_7_method_60_code 14 = .ok (.iconst 1, 1) by decide +kernel) (by decide) ?_
    refine Ev_stat (as := [.int x3, .int 0, .int 1]) hq_185 (show decode prog_7_method_60_code 15 = .ok (.invokestatic 90, 3) by decide +kernel) rfl (Or.inl rfl) hq_131 rfl (z_le rfl) (c_Z_in x3 0 1) ?_
    refine Ev_if_ne (tgt := 24) hq_185 (show decode prog_7_method_60_code 18 = .ok (.ifCond .ne 6, 3) by decide +kernel) (by decide) (fun c2 => ?_) (fun c2 => ?_)
    · have k := k.1 c2
      refine Ev_aload_n hq_185 (show decode prog_7_method_60_code 24 = .ok (.aload_n 0, 1) by decide +kernel) rfl ?_
      refine Ev_getR hq_185 (show decode prog_7_method_60_code 25 = .ok (.getfield 16, 3) by decide +kernel) rfl (SGn hS (by decide)) (SGk hS rfl) (by decide) rfl (SGr hS rfl) ?_
      refine Ev_iconst (v := 5) hq_185 (show decode prog_7_method_60_code 28 = .ok (.iconst 5, 1) by decide +kernel) (by decide) ?_
      refine Ev_iload_n hq_185 (show decode prog_7_method_60_code 29 = .ok (.iload_n 1, 1) by decide +kernel) rfl ?_
      refine Ev_imul hq_185 (show decode prog_7_method_60_code 30 = .ok (.imul, 1) by decide +kernel) ?_
      refine Ev_iconst (v := 3) hq_185 (show decode prog_7_method_60_code 31 = .ok (.iconst 3, 1) by decide +kernel) (by decide) ?_
      refine Ev_iadd hq_185 (show decode prog_7_method_60_code 32 = .ok (.iadd, 1) by decide +kernel) ?_
      obtain ⟨h3, k⟩ := k
      refine Ev_iald hq_185 (show decode prog_7_method_60_code 33 = .ok (.iaload, 1) by decide +kernel) (SGn hS (by decide)) (SGk hS rfl) (SGi hS rfl h3) ?_
      obtain ⟨y4, ey4⟩ : ∃ y4 : Int32, y4 = (I 60 ((5 * x1) + 3).toNatClampNeg) := ⟨_, rfl⟩
      have k := k y4 ey4
      rw [← ey4]
      refine Ev_istore (lo2 := [.ref 57, .int x1, .int x2, .int x3, .int y4, zU, zU, zU, zU, zU, zU]) hq_185 (show decode prog_7_method_60_code 34 = .ok (.istore 4, 2) by decide +kernel) (z_le rfl) rfl ?_
      refine Ev_aload_n hq_185 (show decode prog_7_method_60_code 36 = .ok (.aload_n 0, 1) by decide +kernel) rfl ?_
      refine Ev_getR hq_185 (show decode prog_7_method_60_code 37 = .ok (.getfield 16, 3) by decide +kernel) rfl (SGn hS (by decide)) (SGk hS rfl) (by decide) rfl (SGr hS rfl) ?_
      refine Ev_iconst (v := 5) hq_185 (show decode prog_7_method_60_code 40 = .ok (.iconst 5, 1) by decide +kernel) (by decide) ?_
      refine Ev_iload_n hq_185 (show decode prog_7_method_60_code 41 = .ok (.iload_n 2, 1) by decide +kernel) rfl ?_
      refine Ev_imul hq_185 (show decode prog_7_method_60_code 42 = .ok (.imul, 1) by decide +kernel) ?_
      refine Ev_iconst (v := 3) hq_185 (show decode prog_7_method_60_code 43 = .ok (.iconst 3, 1) by decide +kernel) (by decide) ?_
      refine Ev_iadd hq_185 (show decode prog_7_method_60_code 44 = .ok (.iadd, 1) by decide +kernel) ?_
      obtain ⟨h5, k⟩ := k
      refine Ev_iald hq_185 (show decode prog_7_method_60_code 45 = .ok (.iaload, 1) by decide +kernel) (SGn hS (by decide)) (SGk hS rfl) (SGi hS rfl h5) ?_
      obtain ⟨y6, ey6⟩ : ∃ y6 : Int32, y6 = (I 60 ((5 * x2) + 3).toNatClampNeg) := ⟨_, rfl⟩
      have k := k y6 ey6
      rw [← ey6]
      refine Ev_istore (lo2 := [.ref 57, .int x1, .int x2, .int x3, .int y4, .int y6, zU, zU, zU, zU, zU]) hq_185 (show decode prog_7_method_60_code 46 = .ok (.istore 5, 2) by decide +kernel) (z_le rfl) rfl ?_
      refine Ev_iconst (v := 0) hq_185 (show decode prog_7_method_60_code 48 = .ok (.iconst 0, 1) by decide +kernel) (by decide) ?_
      refine Ev_istore (lo2 := [.ref 57, .int x1, .int x2, .int x3, .int y4, .int y6, .int 0, zU, zU, zU, zU]) hq_185 (show decode prog_7_method_60_code 49 = .ok (.istore 6, 2) by decide +kernel) (z_le rfl) rfl ?_
      refine Ev_iconst (v := 0) hq_185 (show decode prog_7_method_60_code 51 = .ok (.iconst 0, 1) by decide +kernel) (by decide) ?_
      refine Ev_istore (lo2 := [.ref 57, .int x1, .int x2, .int x3, .int y4, .int y6, .int 0, .int 0, zU, zU, zU]) hq_185 (show decode prog_7_method_60_code 52 = .ok (.istore 7, 2) by decide +kernel) (z_le rfl) rfl ?_
      refine Ev_iconst (v := 0) hq_185 (show decode prog_7_method_60_code 54 = .ok (.iconst 0, 1) by decide +kernel) (by decide) ?_
      refine Ev_istore (lo2 := [.ref 57, .int x1, .int x2, .int x3, .int y4, .int y6, .int 0, .int 0, .int 0, zU, zU]) hq_185 (show decode prog_7_method_60_code 55 = .ok (.istore 8, 2) by decide +kernel) (z_le rfl) rfl ?_
      exact k
    · have k := k.2 (Classical.not_not.mp c2)
      refine Ev_bipush (v := (-7)) hq_185 (show decode prog_7_method_60_code 21 = .ok (.bipush (-7), 2) by decide +kernel) (by decide) ?_
      exact Ev_iret hq_185 (show decode prog_7_method_60_code 23 = .ok (.ireturn, 1) by decide +kernel) rfl k
  · have k := k.2 (Classical.not_not.mp c1)
    refine Ev_bipush (v := (-5)) hq_185 (show decode prog_7_method_60_code 9 = .ok (.bipush (-5), 2) by decide +kernel) (by decide) ?_
    exact Ev_iret hq_185 (show decode prog_7_method_60_code 11 = .ok (.ireturn, 1) by decide +kernel) rfl k
set_option maxRecDepth 20000 in
theorem wp_Z_even_57 {X : Nat × (Nat → Int32)} {d : Nat} {G : zG} {I : zI} {res : Option Value × zG × zI} (x1 : Int32) (x2 : Int32) (x3 : Int32) (x4 : Int32) (x5 : Int32) (x6 : Int32) (x7 : Int32) (x8 : Int32) (v9 : Value) (cv9 : v9.category = 1) (v10 : Value) (cv10 : v10.category = 1) (hS : SG G) 
    (k : (20 ≤ x8 → z_inr ((5 * x1) + 3) 20 ∧ (z_inr ((5 * x2) + 3) 20 ∧ (∀ y4 : Int32, y4 = ((100 * (I 60 ((5 * x1) + 3).toNatClampNeg)) + (I 60 ((5 * x2) + 3).toNatClampNeg)) → z_inr ((5 * x1) + 3) 20 ∧ (∀ I6 : zI, I6 = z_up I 60 ((5 * x1) + 3).toNatClampNeg x4 → z_inr ((5 * x2) + 3) 20 ∧ (∀ I8 : zI, I8 = z_up I6 60 ((5 * x2) + 3).toNatClampNeg x5 → (2 ≤ x6 → (¬ x3 = 0 → res = (some (.int y4), G, I8)) ∧ (x3 = 0 → res = (some (.int x7), G, I8))) ∧ (¬ 2 ≤ x6 → res = (some (.int (-1)), G, I8))))))) ∧ (¬ 20 ≤ x8 → (2 ≤ x6 → z_inr ((5 * x1) + 3) 20 ∧ (z_inr ((5 * x2) + 3) 20 ∧ (∀ y14 : Int32, y14 = ((100 * (I 60 ((5 * x1) + 3).toNatClampNeg)) + (I 60 ((5 * x2) + 3).toNatClampNeg)) → z_inr ((5 * x1) + 3) 20 ∧ (∀ I16 : zI, I16 = z_up I 60 ((5 * x1) + 3).toNatClampNeg x4 → z_inr ((5 * x2) + 3) 20 ∧ (∀ I18 : zI, I18 = z_up I16 60 ((5 * x2) + 3).toNatClampNeg x5 → (2 ≤ x6 → (¬ x3 = 0 → res = (some (.int y14), G, I18)) ∧ (x3 = 0 → res = (some (.int x7), G, I18))) ∧ (¬ 2 ≤ x6 → res = (some (.int (-1)), G, I18))))))) ∧ (¬ 2 ≤ x6 → (¬ (x8 - x8 / 2 * 2) = 0 → ∃ (I22 : zI), Cv X d 178 [.ref 57, .int x2] G I (none, G, I22) ∧ (z_inr ((5 * x2) + 3) 20 ∧ ((¬ (I22 57 35) = (I22 60 ((5 * x2) + 3).toNatClampNeg) → ∀ y26 : Int32, y26 = (x7 + 1) → z_inr ((5 * x2) + 3) 20 ∧ (∀ I28 : zI, I28 = z_up I22 60 ((5 * x2) + 3).toNatClampNeg (I22 57 35) → ∀ y29 : Int32, y29 = x8 + 1 → Ev X (d + 1) 185 57 [.ref 57, .int x1, .int x2, .int x3, .int x4, .int x5, .int 0, .int y26, .int y29, .int x2, .int 0] [] G I28 res)) ∧ ((I22 57 35) = (I22 60 ((5 * x2) + 3).toNatClampNeg) → ∀ y30 : Int32, y30 = (x6 + 1) → ∀ y31 : Int32, y31 = (x7 + 0) → z_inr ((5 * x2) + 3) 20 ∧ (∀ I33 : zI, I33 = z_up I22 60 ((5 * x2) + 3).toNatClampNeg (I22 57 35) → ∀ y34 : Int32, y34 = x8 + 1 → Ev X (d + 1) 185 57 [.ref 57, .int x1, .int x2, .int x3, .int x4, .int x5, .int y30, .int y31, .int y34, .int x2, .int 1] [] G I33 res))))) ∧ ((x8 - x8 / 2 * 2) = 0 → ∃ (I35 : zI), Cv X d 178 [.ref 57, .int x1] G I (none, G, I35) ∧ (z_inr ((5 * x1) + 3) 20 ∧ ((¬ (I35 57 35) = (I35 60 ((5 * x1) + 3).toNatClampNeg) → ∀ y39 : Int32, y39 = (x7 + 1) → z_inr ((5 * x1) + 3) 20 ∧ (∀ I41 : zI, I41 = z_up I35 60 ((5 * x1) + 3).toNatClampNeg (I35 57 35) → ∀ y42 : Int32, y42 = x8 + 1 → Ev X (d + 1) 185 57 [.ref 57, .int x1, .int x2, .int x3, .int x4, .int x5, .int 0, .int y39, .int y42, .int x1, .int 0] [] G I41 res)) ∧ ((I35 57 35) = (I35 60 ((5 * x1) + 3).toNatClampNeg) → ∀ y43 : Int32, y43 = (x6 + 1) → ∀ y44 : Int32, y44 = (x7 + 0) → z_inr ((5 * x1) + 3) 20 ∧ (∀ I46 : zI, I46 = z_up I35 60 ((5 * x1) + 3).toNatClampNeg (I35 57 35) → ∀ y47 : Int32, y47 = x8 + 1 → Ev X (d + 1) 185 57 [.ref 57, .int x1, .int x2, .int x3, .int x4, .int x5, .int y43, .int y44, .int y47, .int x1, .int 1] [] G I46 res)))))))) :
    Ev X (d + 1) 185 57 [.ref 57, .int x1, .int x2, .int x3, .int x4, .int x5, .int x6, .int x7, .int x8, v9, v10] [] G I res := by
  refine Ev_iload hq_185 (show decode prog_7_method_60_code 57 = .ok (.iload 8, 2) by decide +kernel) rfl ?_
  refine Ev_bipush (v := 20) hq_185 (show decode prog_7_method_60_code 59 = .ok (.bipush 20, 2) by decide +kernel) (by decide) ?_
  refine Ev_icmp_ge (tgt := 166) hq_185 (show decode prog_7_method_60_code 61 = .ok (.if_icmp .ge 105, 3) by decide +kernel) (by decide) (fun c1 => ?_) (fun c1 => ?_)
  · have k := k.1 c1
    refine Ev_bipush (v := 100) hq_185 (show decode prog_7_method_60_code 166 = .ok (.bipush 100, 2) by decide +kernel) (by decide) ?_
    refine Ev_aload_n hq_185 (show decode prog_7_method_60_code 168 = .ok (.aload_n 0, 1) by decide +kernel) rfl ?_
    refine Ev_getR hq_185 (show decode prog_7_method_60_code 169 = .ok (.getfield 16, 3) by decide +kernel) rfl (SGn hS (by decide)) (SGk hS rfl) (by decide) rfl (SGr hS rfl) ?_
    refine Ev_iconst (v := 5) hq_185 (show decode prog_7_method_60_code 172 = .ok (.iconst 5, 1) by decide +kernel) (by decide) ?_
    refine Ev_iload_n hq_185 (show decode prog_7_method_60_code 173 = .ok (.iload_n 1, 1) by decide +kernel) rfl ?_
    refine Ev_imul hq_185 (show decode prog_7_method_60_code 174 = .ok (.imul, 1) by decide +kernel) ?_
    refine Ev_iconst (v := 3) hq_185 (show decode prog_7_method_60_code 175 = .ok (.iconst 3, 1) by decide +kernel) (by decide) ?_
    refine Ev_iadd hq_185 (show decode prog_7_method_60_code 176 = .ok (.iadd, 1) by decide +kernel) ?_
    obtain ⟨h2, k⟩ := k
    refine Ev_iald hq_185 (show decode prog_7_method_60_code 177 = .ok (.iaload, 1) by decide +kernel) (SGn hS (by decide)) (SGk hS rfl) (SGi hS rfl h2) ?_
    refine Ev_imul hq_185 (show decode prog_7_method_60_code 178 = .ok (.imul, 1) by decide +kernel) ?_
    refine Ev_aload_n hq_185 (show decode prog_7_method_60_code 179 = .ok (.aload_n 0, 1) by decide +kernel) rfl ?_
    refine Ev_getR hq_185 (show decode prog_7_method_60_code 180 = .ok (.getfield 16, 3) by decide +kernel) rfl (SGn hS (by decide)) (SGk hS rfl) (by decide) rfl (SGr hS rfl) ?_
    refine Ev_iconst (v := 5) hq_185 (show decode prog_7_method_60_code 183 = .ok (.iconst 5, 1) by decide +kernel) (by decide) ?_
    refine Ev_iload_n hq_185 (show decode prog_7_method_60_code 184 = .ok (.iload_n 2, 1) by decide +kernel) rfl ?_
    refine Ev_imul hq_185 (show decode prog_7_method_60_code 185 = .ok (.imul, 1) by decide +kernel) ?_
    refine Ev_iconst (v := 3) hq_185 (show decode prog_7_method_60_code 186 = .ok (.iconst 3, 1) by decide +kernel) (by decide) ?_
    refine Ev_iadd hq_185 (show decode prog_7_method_60_code 187 = .ok (.iadd, 1) by decide +kernel) ?_
    obtain ⟨h3, k⟩ := k
    refine Ev_iald hq_185 (show decode prog_7_method_60_code 188 = .ok (.iaload, 1) by decide +kernel) (SGn hS (by decide)) (SGk hS rfl) (SGi hS rfl h3) ?_
    refine Ev_iadd hq_185 (show decode prog_7_method_60_code 189 = .ok (.iadd, 1) by decide +kernel) ?_
    obtain ⟨y4, ey4⟩ : ∃ y4 : Int32, y4 = ((100 * (I 60 ((5 * x1) + 3).toNatClampNeg)) + (I 60 ((5 * x2) + 3).toNatClampNeg)) := ⟨_, rfl⟩
    have k := k y4 ey4
    rw [← ey4]
    refine Ev_istore (lo2 := [.ref 57, .int x1, .int x2, .int x3, .int x4, .int x5, .int x6, .int x7, .int y4, v9, v10]) hq_185 (show decode prog_7_method_60_code 190 = .ok (.istore 8, 2) by decide +kernel) (z_le rfl) rfl ?_
    refine Ev_aload_n hq_185 (show decode prog_7_method_60_code 192 = .ok (.aload_n 0, 1) by decide +kernel) rfl ?_
    refine Ev_getR hq_185 (show decode prog_7_method_60_code 193 = .ok (.getfield 16, 3) by decide +kernel) rfl (SGn hS (by decide)) (SGk hS rfl) (by decide) rfl (SGr hS rfl) ?_
    refine Ev_iconst (v := 5) hq_185 (show decode prog_7_method_60_code 196 = .ok (.iconst 5, 1) by decide +kernel) (by decide) ?_
    refine Ev_iload_n hq_185 (show decode prog_7_method_60_code 197 = .ok (.iload_n 1, 1) by decide +kernel) rfl ?_
    refine Ev_imul hq_185 (show decode prog_7_method_60_code 198 = .ok (.imul, 1) by decide +kernel) ?_
    refine Ev_iconst (v := 3) hq_185 (show decode prog_7_method_60_code 199 = .ok (.iconst 3, 1) by decide +kernel) (by decide) ?_
    refine Ev_iadd hq_185 (show decode prog_7_method_60_code 200 = .ok (.iadd, 1) by decide +kernel) ?_
    refine Ev_iload hq_185 (show decode prog_7_method_60_code 201 = .ok (.iload 4, 2) by decide +kernel) rfl ?_
    obtain ⟨h5, k⟩ := k
    refine Ev_iast hq_185 (show decode prog_7_method_60_code 203 = .ok (.iastore, 1) by decide +kernel) (SGn hS (by decide)) (SGk hS rfl) (SGi hS rfl h5) ?_
    obtain ⟨I6, eI6⟩ : ∃ I6 : zI, I6 = z_up I 60 ((5 * x1) + 3).toNatClampNeg x4 := ⟨_, rfl⟩
    have k := k I6 eI6
    rw [← eI6]
    refine Ev_aload_n hq_185 (show decode prog_7_method_60_code 204 = .ok (.aload_n 0, 1) by decide +kernel) rfl ?_
    refine Ev_getR hq_185 (show decode prog_7_method_60_code 205 = .ok (.getfield 16, 3) by decide +kernel) rfl (SGn hS (by decide)) (SGk hS rfl) (by decide) rfl (SGr hS rfl) ?_
    refine Ev_iconst (v := 5) hq_185 (show decode prog_7_method_60_code 208 = .ok (.iconst 5, 1) by decide +kernel) (by decide) ?_
    refine Ev_iload_n hq_185 (show decode prog_7_method_60_code 209 = .ok (.iload_n 2, 1) by decide +kernel) rfl ?_
    refine Ev_imul hq_185 (show decode prog_7_method_60_code 210 = .ok (.imul, 1) by decide +kernel) ?_
    refine Ev_iconst (v := 3) hq_185 (show decode prog_7_method_60_code 211 = .ok (.iconst 3, 1) by decide +kernel) (by decide) ?_
    refine Ev_iadd hq_185 (show decode prog_7_method_60_code 212 = .ok (.iadd, 1) by decide +kernel) ?_
    refine Ev_iload hq_185 (show decode prog_7_method_60_code 213 = .ok (.iload 5, 2) by decide +kernel) rfl ?_
    obtain ⟨h7, k⟩ := k
    refine Ev_iast hq_185 (show decode prog_7_method_60_code 215 = .ok (.iastore, 1) by decide +kernel) (SGn hS (by decide)) (SGk hS rfl) (SGi hS rfl h7) ?_
    obtain ⟨I8, eI8⟩ : ∃ I8 : zI, I8 = z_up I6 60 ((5 * x2) + 3).toNatClampNeg x5 := ⟨_, rfl⟩
    have k := k I8 eI8
    rw [← eI8]
    refine Ev_iload hq_185 (show decode prog_7_method_60_code 216 = .ok (.iload 6, 2) by decide +kernel) rfl ?_
    refine Ev_iconst (v := 2) hq_185 (show decode prog_7_method_60_code 218 = .ok (.iconst 2, 1) by decide +kernel) (by decide) ?_
    refine Ev_icmp_ge (tgt := 226) hq_185 (show decode prog_7_method_60_code 219 = .ok (.if_icmp .ge 7, 3) by decide +kernel) (by decide) (fun c9 => ?_) (fun c9 => ?_)
    · have k := k.1 c9
      refine Ev_iload_n hq_185 (show decode prog_7_method_60_code 226 = .ok (.iload_n 3, 1) by decide +kernel) rfl ?_
      refine Ev_if_ne (tgt := 235) hq_185 (show decode prog_7_method_60_code 227 = .ok (.ifCond .ne 8, 3) by decide +kernel) (by decide) (fun c10 => ?_) (fun c10 => ?_)
      · have k := k.1 c10
        refine Ev_iload hq_185 (show decode prog_7_method_60_code 235 = .ok (.iload 8, 2) by decide +kernel) rfl ?_
        exact Ev_iret hq_185 (show decode prog_7_method_60_code 237 = .ok (.ireturn, 1) by decide +kernel) rfl k
      · have k := k.2 (Classical.not_not.mp c10)
        refine Ev_iload hq_185 (show decode prog_7_method_60_code 230 = .ok (.iload 7, 2) by decide +kernel) rfl ?_
        refine Ev_goto (tgt := 237) hq_185 (show decode prog_7_method_60_code 232 = .ok (.goto 5, 3) by decide +kernel) (by decide) ?_
        exact Ev_iret hq_185 (show decode prog_7_method_60_code 237 = .ok (.ireturn, 1) by decide +kernel) rfl k
    · have k := k.2 c9
      refine Ev_iconst (v := (-1)) hq_185 (show decode prog_7_method_60_code 222 = .ok (.iconst (-1), 1) by decide +kernel) (by decide) ?_
      refine Ev_goto (tgt := 237) hq_185 (show decode prog_7_method_60_code 223 = .ok (.goto 14, 3) by decide +kernel) (by decide) ?_
      exact Ev_iret hq_185 (show decode prog_7_method_60_code 237 = .ok (.ireturn, 1) by decide +kernel) rfl k
  · have k := k.2 c1
    refine Ev_iload hq_185 (show decode prog_7_method_60_code 64 = .ok (.iload 6, 2) by decide +kernel) rfl ?_
    refine Ev_iconst (v := 2) hq_185 (show decode prog_7_method_60_code 66 = .ok (.iconst 2, 1) by decide +kernel) (by decide) ?_
    refine Ev_icmp_ge (tgt := 166) hq_185 (show decode prog_7_method_60_code 67 = .ok (.if_icmp .ge 99, 3) by decide +kernel) (by decide) (fun c11 => ?_) (fun c11 => ?_)
    · have k := k.1 c11
      refine Ev_bipush (v := 100) hq_185 (show decode prog_7_method_60_code 166 = .ok (.bipush 100, 2) by decide +kernel) (by decide) ?_
      refine Ev_aload_n hq_185 (show decode prog_7_method_60_code 168 = .ok (.aload_n 0, 1) by decide +kernel) rfl ?_
      refine Ev_getR hq_185 (show decode prog_7_method_60_code 169 = .ok (.getfield 16, 3) by decide +kernel) rfl (SGn hS (by decide)) (SGk hS rfl) (by decide) rfl (SGr hS rfl) ?_
      refine Ev_iconst (v := 5) hq_185 (show decode prog_7_method_60_code 172 = .ok (.iconst 5, 1) by decide +kernel) (by decide) ?_
      refine Ev_iload_n hq_185 (show decode prog_7_method_60_code 173 = .ok (.iload_n 1, 1) by decide +kernel) rfl ?_
      refine Ev_imul hq_185 (show decode prog_7_method_60_code 174 = .ok (.imul, 1) by decide +kernel) ?_
      refine Ev_iconst (v := 3) hq_185 (show decode prog_7_method_60_code 175 = .ok (.iconst 3, 1) by decide +kernel) (by decide) ?_
      refine Ev_iadd hq_185 (show decode prog_7_method_60_code 176 = .ok (.iadd, 1) by decide +kernel) ?_
      obtain ⟨h12, k⟩ := k
      refine Ev_iald hq_185 (show decode prog_7_method_60_code 177 = .ok (.iaload, 1) by decide +kernel) (SGn hS (by decide)) (SGk hS rfl) (SGi hS rfl h12) ?_
      refine Ev_imul hq_185 (show decode prog_7_method_60_code 178 = .ok (.imul, 1) by decide +kernel) ?_
      refine Ev_aload_n hq_185 (show decode prog_7_method_60_code 179 = .ok (.aload_n 0, 1) by decide +kernel) rfl ?_
      refine Ev_getR hq_185 (show decode prog_7_method_60_code 180 = .ok (.getfield 16, 3) by decide +kernel) rfl (SGn hS (by decide)) (SGk hS rfl) (by decide) rfl (SGr hS rfl) ?_
      refine Ev_iconst (v := 5) hq_185 (show decode prog_7_method_60_code 183 = .ok (.iconst 5, 1) by decide +kernel) (by decide) ?_
      refine Ev_iload_n hq_185 (show decode prog_7_method_60_code 184 = .ok (.iload_n 2, 1) by decide +kernel) rfl ?_
      refine Ev_imul hq_185 (show decode prog_7_method_60_code 185 = .ok (.imul, 1) by decide +kernel) ?_
      refine Ev_iconst (v := 3) hq_185 (show decode prog_7_method_60_code 186 = .ok (.iconst 3, 1) by decide +kernel) (by decide) ?_
      refine Ev_iadd hq_185 (show decode prog_7_method_60_code 187 = .ok (.iadd, 1) by decide +kernel) ?_
      obtain ⟨h13, k⟩ := k
      refine Ev_iald hq_185 (show decode prog_7_method_60_code 188 = .ok (.iaload, 1) by decide +kernel) (SGn hS (by decide)) (SGk hS rfl) (SGi hS rfl h13) ?_
      refine Ev_iadd hq_185 (show decode prog_7_method_60_code 189 = .ok (.iadd, 1) by decide +kernel) ?_
      obtain ⟨y14, ey14⟩ : ∃ y14 : Int32, y14 = ((100 * (I 60 ((5 * x1) + 3).toNatClampNeg)) + (I 60 ((5 * x2) + 3).toNatClampNeg)) := ⟨_, rfl⟩
      have k := k y14 ey14
      rw [← ey14]
      refine Ev_istore (lo2 := [.ref 57, .int x1, .int x2, .int x3, .int x4, .int x5, .int x6, .int x7, .int y14, v9, v10]) hq_185 (show decode prog_7_method_60_code 190 = .ok (.istore 8, 2) by decide +kernel) (z_le rfl) rfl ?_
      refine Ev_aload_n hq_185 (show decode prog_7_method_60_code 192 = .ok (.aload_n 0, 1) by decide +kernel) rfl ?_
      refine Ev_getR hq_185 (show decode prog_7_method_60_code 193 = .ok (.getfield 16, 3) by decide +kernel) rfl (SGn hS (by decide)) (SGk hS rfl) (by decide) rfl (SGr hS rfl) ?_
      refine Ev_iconst (v := 5) hq_185 (show decode prog_7_method_60_code 196 = .ok (.iconst 5, 1) by decide +kernel) (by decide) ?_
      refine Ev_iload_n hq_185 (show decode prog_7_method_60_code 197 = .ok (.iload_n 1, 1) by decide +kernel) rfl ?_
      refine Ev_imul hq_185 (show decode prog_7_method_60_code 198 = .ok (.imul, 1) by decide +kernel) ?_
      refine Ev_iconst (v := 3) hq_185 (show decode prog_7_method_60_code 199 = .ok (.iconst 3, 1) by decide +kernel) (by decide) ?_
      refine Ev_iadd hq_185 (show decode prog_7_method_60_code 200 = .ok (.iadd, 1) by decide +kernel) ?_
      refine Ev_iload hq_185 (show decode prog_7_method_60_code 201 = .ok (.iload 4, 2) by decide +kernel) rfl ?_
      obtain ⟨h15, k⟩ := k
      refine Ev_iast hq_185 (show decode prog_7_method_60_code 203 = .ok (.iastore, 1) by decide +kernel) (SGn hS (by decide)) (SGk hS rfl) (SGi hS rfl h15) ?_
      obtain ⟨I16, eI16⟩ : ∃ I16 : zI, I16 = z_up I 60 ((5 * x1) + 3).toNatClampNeg x4 := ⟨_, rfl⟩
      have k := k I16 eI16
      rw [← eI16]
      refine Ev_aload_n hq_185 (show decode prog_7_method_60_code 204 = .ok (.aload_n 0, 1) by decide +kernel) rfl ?_
      refine Ev_getR hq_185 (show decode prog_7_method_60_code 205 = .ok (.getfield 16, 3) by decide +kernel) rfl (SGn hS (by decide)) (SGk hS rfl) (by decide) rfl (SGr hS rfl) ?_
      refine Ev_iconst (v := 5) hq_185 (show decode prog_7_method_60_code 208 = .ok (.iconst 5, 1) by decide +kernel) (by decide) ?_
      refine Ev_iload_n hq_185 (show decode prog_7_method_60_code 209 = .ok (.iload_n 2, 1) by decide +kernel) rfl ?_
      refine Ev_imul hq_185 (show decode prog_7_method_60_code 210 = .ok (.imul, 1) by decide +kernel) ?_
      refine Ev_iconst (v := 3) hq_185 (show decode prog_7_method_60_code 211 = .ok (.iconst 3, 1) by decide +kernel) (by decide) ?_
      refine Ev_iadd hq_185 (show decode prog_7_method_60_code 212 = .ok (.iadd, 1) by decide +kernel) ?_
      refine Ev_iload hq_185 (show decode prog_7_method_60_code 213 = .ok (.iload 5, 2) by decide +kernel) rfl ?_
      obtain ⟨h17, k⟩ := k
      refine Ev_iast hq_185 (show decode prog_7_method_60_code 215 = .ok (.iastore, 1) by decide +kernel) (SGn hS (by decide)) (SGk hS rfl) (SGi hS rfl h17) ?_
      obtain ⟨I18, eI18⟩ : ∃ I18 : zI, I18 = z_up I16 60 ((5 * x2) + 3).toNatClampNeg x5 := ⟨_, rfl⟩
      have k := k I18 eI18
      rw [← eI18]
      refine Ev_iload hq_185 (show decode prog_7_method_60_code 216 = .ok (.iload 6, 2) by decide +kernel) rfl ?_
      refine Ev_iconst (v := 2) hq_185 (show decode prog_7_method_60_code 218 = .ok (.iconst 2, 1) by decide +kernel) (by decide) ?_
      refine Ev_icmp_ge (tgt := 226) hq_185 (show decode prog_7_method_60_code 219 = .ok (.if_icmp .ge 7, 3) by decide +kernel) (by decide) (fun c19 => ?_) (fun c19 => ?_)
      · have k := k.1 c19
        refine Ev_iload_n hq_185 (show decode prog_7_method_60_code 226 = .ok (.iload_n 3, 1) by decide +kernel) rfl ?_
        refine Ev_if_ne (tgt := 235) hq_185 (show decode prog_7_method_60_code 227 = .ok (.ifCond .ne 8, 3) by decide +kernel) (by decide) (fun c20 => ?_) (fun c20 => ?_)
        · have k := k.1 c20
          refine Ev_iload hq_185 (show decode prog_7_method_60_code 235 = .ok (.iload 8, 2) by decide +kernel) rfl ?_
          exact Ev_iret hq_185 (show decode prog_7_method_60_code 237 = .ok (.ireturn, 1) by decide +kernel) rfl k
        · have k := k.2 (Classical.not_not.mp c20)
          refine Ev_iload hq_185 (show decode prog_7_method_60_code 230 = .ok (.iload 7, 2) by decide +kernel) rfl ?_
          refine Ev_goto (tgt := 237) hq_185 (show decode prog_7_method_60_code 232 = .ok (.goto 5, 3) by decide +kernel) (by decide) ?_
          exact Ev_iret hq_185 (show decode prog_7_method_60_code 237 = .ok (.ireturn, 1) by decide +kernel) rfl k
      · have k := k.2 c19
        refine Ev_iconst (v := (-1)) hq_185 (show decode prog_7_method_60_code 222 = .ok (.iconst (-1), 1) by decide +kernel) (by decide) ?_
        refine Ev_goto (tgt := 237) hq_185 (show decode prog_7_method_60_code 223 = .ok (.goto 14, 3) by decide +kernel) (by decide) ?_
        exact Ev_iret hq_185 (show decode prog_7_method_60_code 237 = .ok (.ireturn, 1) by decide +kernel) rfl k
    · have k := k.2 c11
      refine Ev_iload hq_185 (show decode prog_7_method_60_code 70 = .ok (.iload 8, 2) by decide +kernel) rfl ?_
      refine Ev_iconst (v := 2) hq_185 (show decode prog_7_method_60_code 72 = .ok (.iconst 2, 1) by decide +kernel) (by decide) ?_
      refine Ev_irem hq_185 (show decode prog_7_method_60_code 73 = .ok (.irem, 1) by decide +kernel) (by decide) ?_
      refine Ev_if_ne (tgt := 81) hq_185 (show decode prog_7_method_60_code 74 = .ok (.ifCond .ne 7, 3) by decide +kernel) (by decide) (fun c21 => ?_) (fun c21 => ?_)
      · have k := k.1 c21
        refine Ev_iload_n hq_185 (show decode prog_7_method_60_code 81 = .ok (.iload_n 2, 1) by decide +kernel) rfl ?_
        refine Ev_istore (lo2 := [.ref 57, .int x1, .int x2, .int x3, .int x4, .int x5, .int x6, .int x7, .int x8, .int x2, v10]) hq_185 (show decode prog_7_method_60_code 82 = .ok (.istore 9, 2) by decide +kernel) (z_le rfl) rfl ?_
        refine Ev_aload_n hq_185 (show decode prog_7_method_60_code 84 = .ok (.aload_n 0, 1) by decide +kernel) rfl ?_
        refine Ev_iload hq_185 (show decode prog_7_method_60_code 85 = .ok (.iload 9, 2) by decide +kernel) rfl ?_
        obtain ⟨I22, h23, k⟩ := k
        refine Ev_virt (as := [.int x2]) hq_185 (show decode prog_7_method_60_code 87 = .ok (.invokevirtual 241, 3) by decide +kernel) rfl hq_178 rfl (z_le rfl) ⟨(SGn hS (by decide)), (SGk hS rfl), by decide⟩ h23 ?_
        refine Ev_aload_n hq_185 (show decode prog_7_method_60_code 90 = .ok (.aload_n 0, 1) by decide +kernel) rfl ?_
        refine Ev_getI hq_185 (show decode prog_7_method_60_code 91 = .ok (.getfield 232, 3) by decide +kernel) rfl (SGn hS (by decide)) (SGk hS rfl) (by decide) rfl ?_
        refine Ev_aload_n hq_185 (show decode prog_7_method_60_code 94 = .ok (.aload_n 0, 1) by decide +kernel) rfl ?_
        refine Ev_getR hq_185 (show decode prog_7_method_60_code 95 = .ok (.getfield 16, 3) by decide +kernel) rfl (SGn hS (by decide)) (SGk hS rfl) (by decide) rfl (SGr hS rfl) ?_
        refine Ev_iconst (v := 5) hq_185 (show decode prog_7_method_60_code 98 = .ok (.iconst 5, 1) by decide +kernel) (by decide) ?_
        refine Ev_iload hq_185 (show decode prog_7_method_60_code 99 = .ok (.iload 9, 2) by decide +kernel) rfl ?_
        refine Ev_imul hq_185 (show decode prog_7_method_60_code 101 = .ok (.imul, 1) by decide +kernel) ?_
        refine Ev_iconst (v := 3) hq_185 (show decode prog_7_method_60_code 102 = .ok (.iconst 3, 1) by decide +kernel) (by decide) ?_
        refine Ev_iadd hq_185 (show decode prog_7_method_60_code 103 = .ok (.iadd, 1) by decide +kernel) ?_
        obtain ⟨h24, k⟩ := k
        refine Ev_iald hq_185 (show decode prog_7_method_60_code 104 = .ok (.iaload, 1) by decide +kernel) (SGn hS (by decide)) (SGk hS rfl) (SGi hS rfl h24) ?_
        refine Ev_icmp_ne (tgt := 112) hq_185 (show decode prog_7_method_60_code 105 = .ok (.if_icmp .ne 7, 3) by decide +kernel) (by decide) (fun c25 => ?_) (fun c25 => ?_)
        · have k := k.1 c25
          refine Ev_iconst (v := 0) hq_185 (show decode prog_7_method_60_code 112 = .ok (.iconst 0, 1) by decide +kernel) (by decide) ?_
          refine Ev_istore (lo2 := [.ref 57, .int x1, .int x2, .int x3, .int x4, .int x5, .int x6, .int x7, .int x8, .int x2, .int 0]) hq_185 (show decode prog_7_method_60_code 113 = .ok (.istore 10, 2) by decide +kernel) (z_le rfl) rfl ?_
          refine Ev_iload hq_185 (show decode prog_7_method_60_code 115 = .ok (.iload 10, 2) by decide +kernel) rfl ?_
          refine Ev_if_eq (tgt := 127) hq_185 (show decode prog_7_method_60_code 117 = .ok (.ifCond .eq 10, 3) by decide +kernel) (by decide) (fun _ => ?_) (fun hz => absurd (by decide) hz)
          refine Ev_iconst (v := 0) hq_185 (show decode prog_7_method_60_code 127 = .ok (.iconst 0, 1) by decide +kernel) (by decide) ?_
          refine Ev_istore (lo2 := [.ref 57, .int x1, .int x2, .int x3, .int x4, .int x5, .int 0, .int x7, .int x8, .int x2, .int 0]) hq_185 (show decode prog_7_method_60_code 128 = .ok (.istore 6, 2) by decide +kernel) (z_le rfl) rfl ?_
          refine Ev_iload hq_185 (show decode prog_7_method_60_code 130 = .ok (.iload 7, 2) by decide +kernel) rfl ?_
          refine Ev_iload hq_185 (show decode prog_7_method_60_code 132 = .ok (.iload 10, 2) by decide +kernel) rfl ?_
          refine Ev_if_eq (tgt := 141) hq_185 (show decode prog_7_method_60_code 134 = .ok (.ifCond .eq 7, 3) by decide +kernel) (by decide) (fun _ => ?_) (fun hz => absurd (by decide) hz)
          refine Ev_iconst (v := 1) hq_185 (show decode prog_7_method_60_code 141 = .ok (.iconst 1, 1) by decide +kernel) (by decide) ?_
          refine Ev_iadd hq_185 (show decode prog_7_method_60_code 142 = .ok (.iadd, 1) by decide +kernel) ?_
          obtain ⟨y26, ey26⟩ : ∃ y26 : Int32, y26 = (x7 + 1) := ⟨_, rfl⟩
          have k := k y26 ey26
          rw [← ey26]
          refine Ev_istore (lo2 := [.ref 57, .int x1, .int x2, .int x3, .int x4, .int x5, .int 0, .int y26, .int x8, .int x2, .int 0]) hq_185 (show decode prog_7_method_60_code 143 = .ok (.istore 7, 2) by decide +kernel) (z_le rfl) rfl ?_
          refine Ev_aload_n hq_185 (show decode prog_7_method_60_code 145 = .ok (.aload_n 0, 1) by decide +kernel) rfl ?_
          refine Ev_getR hq_185 (show decode prog_7_method_60_code 146 = .ok (.getfield 16, 3) by decide +kernel) rfl (SGn hS (by decide)) (SGk hS rfl) (by decide) rfl (SGr hS rfl) ?_
          refine Ev_iconst (v := 5) hq_185 (show decode prog_7_method_60_code 149 = .ok (.iconst 5, 1) by decide +kernel) (by decide) ?_
          refine Ev_iload hq_185 (show decode prog_7_method_60_code 150 = .ok (.iload 9, 2) by decide +kernel) rfl ?_
          refine Ev_imul hq_185 (show decode prog_7_method_60_code 152 = .ok (.imul, 1) by decide +kernel) ?_
          refine Ev_iconst (v := 3) hq_185 (show decode prog_7_method_60_code 153 = .ok (.iconst 3, 1) by decide +kernel) (by decide) ?_
          refine Ev_iadd hq_185 (show decode prog_7_method_60_code 154 = .ok (.iadd, 1) by decide +kernel) ?_
          refine Ev_aload_n hq_185 (show decode prog_7_method_60_code 155 = .ok (.aload_n 0, 1) by decide +kernel) rfl ?_
          refine Ev_getI hq_185 (show decode prog_7_method_60_code 156 = .ok (.getfield 232, 3) by decide +kernel) rfl (SGn hS (by decide)) (SGk hS rfl) (by decide) rfl ?_
          obtain ⟨h27, k⟩ := k
          refine Ev_iast hq_185 (show decode prog_7_method_60_code 159 = .ok (.iastore, 1) by decide +kernel) (SGn hS (by decide)) (SGk hS rfl) (SGi hS rfl h27) ?_
          obtain ⟨I28, eI28⟩ : ∃ I28 : zI, I28 = z_up I22 60 ((5 * x2) + 3).toNatClampNeg (I22 57 35) := ⟨_, rfl⟩
          have k := k I28 eI28
          rw [← eI28]
          obtain ⟨y29, ey29⟩ : ∃ y29 : Int32, y29 = x8 + 1 := ⟨_, rfl⟩
          have k := k y29 ey29
          refine Ev_iinc (v := y29) (lo2 := [.ref 57, .int x1, .int x2, .int x3, .int x4, .int x5, .int 0, .int y26, .int y29, .int x2, .int 0]) hq_185 (show decode prog_7_method_60_code 160 = .ok (.iinc 8 1, 3) by decide +kernel) rfl (by rw [ey29]; rfl) rfl ?_
          refine Ev_goto (tgt := 57) hq_185 (show decode prog_7_method_60_code 163 = .ok (.goto (-106), 3) by decide +kernel) (by decide) ?_
          exact k
        · have k := k.2 (Classical.not_not.mp c25)
          refine Ev_iconst (v := 1) hq_185 (show decode prog_7_method_60_code 108 = .ok (.iconst 1, 1) by decide +kernel) (by decide) ?_
          refine Ev_goto (tgt := 113) hq_185 (show decode prog_7_method_60_code 109 = .ok (.goto 4, 3) by decide +kernel) (by decide) ?_
          refine Ev_istore (lo2 := [.ref 57, .int x1, .int x2, .int x3, .int x4, .int x5, .int x6, .int x7, .int x8, .int x2, .int 1]) hq_185 (show decode prog_7_method_60_code 113 = .ok (.istore 10, 2) by decide +kernel) (z_le rfl) rfl ?_
          refine Ev_iload hq_185 (show decode prog_7_method_60_code 115 = .ok (.iload 10, 2) by decide +kernel) rfl ?_
          refine Ev_if_eq (tgt := 127) hq_185 (show decode prog_7_method_60_code 117 = .ok (.ifCond .eq 10, 3) by decide +kernel) (by decide) (fun hz => absurd hz (by decide)) (fun _ => ?_)
          refine Ev_iload hq_185 (show decode prog_7_method_60_code 120 = .ok (.iload 6, 2) by decide +kernel) rfl ?_
          refine Ev_iconst (v := 1) hq_185 (show decode prog_7_method_60_code 122 = .ok (.iconst 1, 1) by decide +kernel) (by decide) ?_
          refine Ev_iadd hq_185 (show decode prog_7_method_60_code 123 = .ok (.iadd, 1) by decide +kernel) ?_
          refine Ev_goto (tgt := 128) hq_185 (show decode prog_7_method_60_code 124 = .ok (.goto 4, 3) by decide +kernel) (by decide) ?_
          obtain ⟨y30, ey30⟩ : ∃ y30 : Int32, y30 = (x6 + 1) := ⟨_, rfl⟩
          have k := k y30 ey30
          rw [← ey30]
          refine Ev_istore (lo2 := [.ref 57, .int x1, .int x2, .int x3, .int x4, .int x5, .int y30, .int x7, .int x8, .int x2, .int 1]) hq_185 (show decode prog_7_method_60_code 128 = .ok (.istore 6, 2) by decide +kernel) (z_le rfl) rfl ?_
          refine Ev_iload hq_185 (show decode prog_7_method_60_code 130 = .ok (.iload 7, 2) by decide +kernel) rfl ?_
          refine Ev_iload hq_185 (show decode prog_7_method_60_code 132 = .ok (.iload 10, 2) by decide +kernel) rfl ?_
          refine Ev_if_eq (tgt := 141) hq_185 (show decode prog_7_method_60_code 134 = .ok (.ifCond .eq 7, 3) by decide +kernel) (by decide) (fun hz => absurd hz (by decide)) (fun _ => ?_)
          refine Ev_iconst (v := 0) hq_185 (show decode prog_7_method_60_code 137 = .ok (.iconst 0, 1) by decide +kernel) (by decide) ?_
          refine Ev_goto (tgt := 142) hq_185 (show decode prog_7_method_60_code 138 = .ok (.goto 4, 3) by decide +kernel) (by decide) ?_
          refine Ev_iadd hq_185 (show decode prog_7_method_60_code 142 = .ok (.iadd, 1) by decide +kernel) ?_
          obtain ⟨y31, ey31⟩ : ∃ y31 : Int32, y31 = (x7 + 0) := ⟨_, rfl⟩
          have k := k y31 ey31
          rw [← ey31]
          refine Ev_istore (lo2 := [.ref 57, .int x1, .int x2, .int x3, .int x4, .int x5, .int y30, .int y31, .int x8, .int x2, .int 1]) hq_185 (show decode prog_7_method_60_code 143 = .ok (.istore 7, 2) by decide +kernel) (z_le rfl) rfl ?_
          refine Ev_aload_n hq_185 (show decode prog_7_method_60_code 145 = .ok (.aload_n 0, 1) by decide +kernel) rfl ?_
          refine Ev_getR hq_185 (show decode prog_7_method_60_code 146 = .ok (.getfield 16, 3) by decide +kernel) rfl (SGn hS (by decide)) (SGk hS rfl) (by decide) rfl (SGr hS rfl) ?_
          refine Ev_iconst (v := 5) hq_185 (show decode prog_7_method_60_code 149 = .ok (.iconst 5, 1) by decide +kernel) (by decide) ?_
          refine Ev_iload hq_185 (show decode prog_7_method_60_code 150 = .ok (.iload 9, 2) by decide +kernel) rfl ?_
          refine Ev_imul hq_185 (show decode prog_7_method_60_code 152 = .ok (.imul, 1) by decide +kernel) ?_
          refine Ev_iconst (v := 3) hq_185 (show decode prog_7_method_60_code 153 = .ok (.iconst 3, 1) by decide +kernel) (by decide) ?_
          refine Ev_iadd hq_185 (show decode prog_7_method_60_code 154 = .ok (.iadd, 1) by decide +kernel) ?_
          refine Ev_aload_n hq_185 (show decode prog_7_method_60_code 155 = .ok (.aload_n 0, 1) by decide +kernel) rfl ?_
          refine Ev_getI hq_185 (show decode prog_7_method_60_code 156 = .ok (.getfield 232, 3) by decide +kernel) rfl (SGn hS (by decide)) (SGk hS rfl) (by decide) rfl ?_
          obtain ⟨h32, k⟩ := k
          refine Ev_iast hq_185 (show decode prog_7_method_60_code 159 = .ok (.iastore, 1) by decide +kernel) (SGn hS (by decide)) (SGk hS rfl) (SGi hS rfl h32) ?_
          obtain ⟨I33, eI33⟩ : ∃ I33 : zI, I33 = z_up I22 60 ((5 * x2) + 3).toNatClampNeg (I22 57 35) := ⟨_, rfl⟩
          have k := k I33 eI33
          rw [← eI33]
          obtain ⟨y34, ey34⟩ : ∃ y34 : Int32, y34 = x8 + 1 := ⟨_, rfl⟩
          have k := k y34 ey34
          refine Ev_iinc (v := y34) (lo2 := [.ref 57, .int x1, .int x2, .int x3, .int x4, .int x5, .int y30, .int y31, .int y34, .int x2, .int 1]) hq_185 (show decode prog_7_method_60_code 160 = .ok (.iinc 8 1, 3) by decide +kernel) rfl (by rw [ey34]; rfl) rfl ?_
          refine Ev_goto (tgt := 57) hq_185 (show decode prog_7_method_60_code 163 = .ok (.goto (-106), 3) by decide +kernel) (by decide) ?_
          exact k
      · have k := k.2 (Classical.not_not.mp c21)
        refine Ev_iload_n hq_185 (show decode prog_7_method_60_code 77 = .ok (.iload_n 1, 1) by decide +kernel) rfl ?_
        refine Ev_goto (tgt := 82) hq_185 (show decode prog_7_method_60_code 78 = .ok (.goto 4, 3) by decide +kernel) (by decide) ?_
        refine Ev_istore (lo2 := [.ref 57, .int x1, .int x2, .int x3, .int x4, .int x5, .int x6, .int x7, .int x8, .int x1, v10]) hq_185 (show decode prog_7_method_60_code 82 = .ok (.istore 9, 2) by decide +kernel) (z_le rfl) rfl ?_
        refine Ev_aload_n hq_185 (show decode prog_7_method_60_code 84 = .ok (.aload_n 0, 1) by decide +kernel) rfl ?_
        refine Ev_iload hq_185 (show decode prog_7_method_60_code 85 = .ok (.iload 9, 2) by decide +kernel) rfl ?_
        obtain ⟨I35, h36, k⟩ := k
        refine Ev_virt (as := [.int x1]) hq_185 (show decode prog_7_method_60_code 87 = .ok (.invokevirtual 241, 3) by decide +kernel) rfl hq_178 rfl (z_le rfl) ⟨(SGn hS (by decide)), (SGk hS rfl), by decide⟩ h36 ?_
        refine Ev_aload_n hq_185 (show decode prog_7_method_60_code 90 = .ok (.aload_n 0, 1) by decide +kernel) rfl ?_
        refine Ev_getI hq_185 (show decode prog_7_method_60_code 91 = .ok (.getfield 232, 3) by decide +kernel) rfl (SGn hS (by decide)) (SGk hS rfl) (by decide) rfl ?_
        refine Ev_aload_n hq_185 (show decode prog_7_method_60_code 94 = .ok (.aload_n 0, 1) by decide +kernel) rfl ?_
        refine Ev_getR hq_185 (show decode prog_7_method_60_code 95 = .ok (.getfield 16, 3) by decide +kernel) rfl (SGn hS (by decide)) (SGk hS rfl) (by decide) rfl (SGr hS rfl) ?_
        refine Ev_iconst (v := 5) hq_185 (show decode prog_7_method_60_code 98 = .ok (.iconst 5, 1) by decide +kernel) (by decide) ?_
        refine Ev_iload hq_185 (show decode prog_7_method_60_code 99 = .ok (.iload 9, 2) by decide +kernel) rfl ?_
        refine Ev_imul hq_185 (show decode prog_7_method_60_code 101 = .ok (.imul, 1) by decide +kernel) ?_
        refine Ev_iconst (v := 3) hq_185 (show decode prog_7_method_60_code 102 = .ok (.iconst 3, 1) by decide +kernel) (by decide) ?_
        refine Ev_iadd hq_185 (show decode prog_7_method_60_code 103 = .ok (.iadd, 1) by decide +kernel) ?_
        obtain ⟨h37, k⟩ := k
        refine Ev_iald hq_185 (show decode prog_7_method_60_code 104 = .ok (.iaload, 1) by decide +kernel) (SGn hS (by decide)) (SGk hS rfl) (SGi hS rfl h37) ?_
        refine Ev_icmp_ne (tgt := 112) hq_185 (show decode prog_7_method_60_code 105 = .ok (.if_icmp .ne 7, 3) by decide +kernel) (by decide) (fun c38 => ?_) (fun c38 => ?_)
        · have k := k.1 c38
          refine Ev_iconst (v := 0) hq_185 (show decode prog_7_method_60_code 112 = .ok (.iconst 0, 1) by decide +kernel) (by decide) ?_
          refine Ev_istore (lo2 := [.ref 57, .int x1, .int x2, .int x3, .int x4, .int x5, .int x6, .int x7, .int x8, .int x1, .int 0]) hq_185 (show decode prog_7_method_60_code 113 = .ok (.istore 10, 2) by decide +kernel) (z_le rfl) rfl ?_
          refine Ev_iload hq_185 (show decode prog_7_method_60_code 115 = .ok (.iload 10, 2) by decide +kernel) rfl ?_
          refine Ev_if_eq (tgt := 127) hq_185 (show decode prog_7_method_60_code 117 = .ok (.ifCond .eq 10, 3) by decide +kernel) (by decide) (fun _ => ?_) (fun hz => absurd (by decide) hz)
          refine Ev_iconst (v := 0) hq_185 (show decode prog_7_method_60_code 127 = .ok (.iconst 0, 1) by decide +kernel) (by decide) ?_
          refine Ev_istore (lo2 := [.ref 57, .int x1, .int x2, .int x3, .int x4, .int x5, .int 0, .int x7, .int x8, .int x1, .int 0]) hq_185 (show decode prog_7_method_60_code 128 = .ok (.istore 6, 2) by decide +kernel) (z_le rfl) rfl ?_
          refine Ev_iload hq_185 (show decode prog_7_method_60_code 130 = .ok (.iload 7, 2) by decide +kernel) rfl ?_
          refine Ev_iload hq_185 (show decode prog_7_method_60_code 132 = .ok (.iload 10, 2) by decide +kernel) rfl ?_
          refine Ev_if_eq (tgt := 141) hq_185 (show decode prog_7_method_60_code 134 = .ok (.ifCond .eq 7, 3) by decide +kernel) (by decide) (fun _ => ?_) (fun hz => absurd (by decide) hz)
          refine Ev_iconst (v := 1) hq_185 (show decode prog_7_method_60_code 141 = .ok (.iconst 1, 1) by decide +kernel) (by decide) ?_
          refine Ev_iadd hq_185 (show decode prog_7_method_60_code 142 = .ok (.iadd, 1) by decide +kernel) ?_
          obtain ⟨y39, ey39⟩ : ∃ y39 : Int32, y39 = (x7 + 1) := ⟨_, rfl⟩
          have k := k y39 ey39
          rw [← ey39]
          refine Ev_istore (lo2 := [.ref 57, .int x1, .int x2, .int x3, .int x4, .int x5, .int 0, .int y39, .int x8, .int x1, .int 0]) hq_185 (show decode prog_7_method_60_code 143 = .ok (.istore 7, 2) by decide +kernel) (z_le rfl) rfl ?_
          refine Ev_aload_n hq_185 (show decode prog_7_method_60_code 145 = .ok (.aload_n 0, 1) by decide +kernel) rfl ?_
          refine Ev_getR hq_185 (show decode prog_7_method_60_code 146 = .ok (.getfield 16, 3) by decide +kernel) rfl (SGn hS (by decide)) (SGk hS rfl) (by decide) rfl (SGr hS rfl) ?_
          refine Ev_iconst (v := 5) hq_185 (show decode prog_7_method_60_code 149 = .ok (.iconst 5, 1) by decide +kernel) (by decide) ?_
          refine Ev_iload hq_185 (show decode prog_7_method_60_code 150 = .ok (.iload 9, 2) by decide +kernel) rfl ?_
          refine Ev_imul hq_185 (show decode prog_7_method_60_code 152 = .ok (.imul, 1) by decide +kernel) ?_
          refine Ev_iconst (v := 3) hq_185 (show decode prog_7_method_60_code 153 = .ok (.iconst 3, 1) by decide +kernel) (by decide) ?_
          refine Ev_iadd hq_185 (show decode prog_7_method_60_code 154 = .ok (.iadd, 1) by decide +kernel) ?_
          refine Ev_aload_n hq_185 (show decode prog_7_method_60_code 155 = .ok (.aload_n 0, 1) by decide +kernel) rfl ?_
          refine Ev_getI hq_185 (show decode prog_7_method_60_code 156 = .ok (.getfield 232, 3) by decide +kernel) rfl (SGn hS (by decide)) (SGk hS rfl) (by decide) rfl ?_
          obtain ⟨h40, k⟩ := k
          refine Ev_iast hq_185 (show decode prog_7_method_60_code 159 = .ok (.iastore, 1) by decide +kernel) (SGn hS (by decide)) (SGk hS rfl) (SGi hS rfl h40) ?_
          obtain ⟨I41, eI41⟩ : ∃ I41 : zI, I41 = z_up I35 60 ((5 * x1) + 3).toNatClampNeg (I35 57 35) := ⟨_, rfl⟩
          have k := k I41 eI41
          rw [← eI41]
          obtain ⟨y42, ey42⟩ : ∃ y42 : Int32, y42 = x8 + 1 := ⟨_, rfl⟩
          have k := k y42 ey42
          refine Ev_iinc (v := y42) (lo2 := [.ref 57, .int x1, .int x2, .int x3, .int x4, .int x5, .int 0, .int y39, .int y42, .int x1, .int 0]) hq_185 (show decode prog_7_method_60_code 160 = .ok (.iinc 8 1, 3) by decide +kernel) rfl (by rw [ey42]; rfl) rfl ?_
          refine Ev_goto (tgt := 57) hq_185 (show decode prog_7_method_60_code 163 = .ok (.goto (-106), 3) by decide +kernel) (by decide) ?_
          exact k
        · have k := k.2 (Classical.not_not.mp c38)
          refine Ev_iconst (v := 1) hq_185 (show decode prog_7_method_60_code 108 = .ok (.iconst 1, 1) by decide +kernel) (by decide) ?_
          refine Ev_goto (tgt := 113) hq_185 (show decode prog_7_method_60_code 109 = .ok (.goto 4, 3) by decide +kernel) (by decide) ?_
          refine Ev_istore (lo2 := [.ref 57, .int x1, .int x2, .int x3, .int x4, .int x5, .int x6, .int x7, .int x8, .int x1, .int 1]) hq_185 (show decode prog_7_method_60_code 113 = .ok (.istore 10, 2) by decide +kernel) (z_le rfl) rfl ?_
          refine Ev_iload hq_185 (show decode prog_7_method_60_code 115 = .ok (.iload 10, 2) by decide +kernel) rfl ?_
          refine Ev_if_eq (tgt := 127) hq_185 (show decode prog_7_method_60_code 117 = .ok (.ifCond .eq 10, 3) by decide +kernel) (by decide) (fun hz => absurd hz (by decide)) (fun _ => ?_)
          refine Ev_iload hq_185 (show decode prog_7_method_60_code 120 = .ok (.iload 6, 2) by decide +kernel) rfl ?_
          refine Ev_iconst (v := 1) hq_185 (show decode prog_7_method_60_code 122 = .ok (.iconst 1, 1) by decide +kernel) (by decide) ?_
          refine Ev_iadd hq_185 (show decode prog_7_method_60_code 123 = .ok (.iadd, 1) by decide +kernel) ?_
          refine Ev_goto (tgt := 128) hq_185 (show decode prog_7_method_60_code 124 = .ok (.goto 4, 3) by decide +kernel) (by decide) ?_
          obtain ⟨y43, ey43⟩ : ∃ y43 : Int32, y43 = (x6 + 1) := ⟨_, rfl⟩
          have k := k y43 ey43
          rw [← ey43]
          refine Ev_istore (lo2 := [.ref 57, .int x1, .int x2, .int x3, .int x4, .int x5, .int y43, .int x7, .int x8, .int x1, .int 1]) hq_185 (show decode prog_7_method_60_code 128 = .ok (.istore 6, 2) by decide +kernel) (z_le rfl) rfl ?_
          refine Ev_iload hq_185 (show decode prog_7_method_60_code 130 = .ok (.iload 7, 2) by decide +kernel) rfl ?_
          refine Ev_iload hq_185 (show decode prog_7_method_60_code 132 = .ok (.iload 10, 2) by decide +kernel) rfl ?_
          refine Ev_if_eq (tgt := 141) hq_185 (show decode prog_7_method_60_code 134 = .ok (.ifCond .eq 7, 3) by decide +kernel) (by decide) (fun hz => absurd hz (by decide)) (fun _ => ?_)
          refine Ev_iconst (v := 0) hq_185 (show decode prog_7_method_60_code 137 = .ok (.iconst 0, 1) by decide +kernel) (by decide) ?_
          refine Ev_goto (tgt := 142) hq_185 (show decode prog_7_method_60_code 138 = .ok (.goto 4, 3) by decide +kernel) (by decide) ?_
          refine Ev_iadd hq_185 (show decode prog_7_method_60_code 142 = .ok (.iadd, 1) by decide +kernel) ?_
          obtain ⟨y44, ey44⟩ : ∃ y44 : Int32, y44 = (x7 + 0) := ⟨_, rfl⟩
          have k := k y44 ey44
          rw [← ey44]
          refine Ev_istore (lo2 := [.ref 57, .int x1, .int x2, .int x3, .int x4, .int x5, .int y43, .int y44, .int x8, .int x1, .int 1]) hq_185 (show decode prog_7_method_60_code 143 = .ok (.istore 7, 2) by decide +kernel) (z_le rfl) rfl ?_
          refine Ev_aload_n hq_185 (show decode prog_7_method_60_code 145 = .ok (.aload_n 0, 1) by decide +kernel) rfl ?_
          refine Ev_getR hq_185 (show decode prog_7_method_60_code 146 = .ok (.getfield 16, 3) by decide +kernel) rfl (SGn hS (by decide)) (SGk hS rfl) (by decide) rfl (SGr hS rfl) ?_
          refine Ev_iconst (v := 5) hq_185 (show decode prog_7_method_60_code 149 = .ok (.iconst 5, 1) by decide +kernel) (by decide) ?_
          refine Ev_iload hq_185 (show decode prog_7_method_60_code 150 = .ok (.iload 9, 2) by decide +kernel) rfl ?_
          refine Ev_imul hq_185 (show decode prog_7_method_60_code 152 = .ok (.imul, 1) by decide +kernel) ?_
          refine Ev_iconst (v := 3) hq_185 (show decode prog_7_method_60_code 153 = .ok (.iconst 3, 1) by decide +kernel) (by decide) ?_
          refine Ev_iadd hq_185 (show decode prog_7_method_60_code 154 = .ok (.iadd, 1) by decide +kernel) ?_
          refine Ev_aload_n hq_185 (show decode prog_7_method_60_code 155 = .ok (.aload_n 0, 1) by decide +kernel) rfl ?_
          refine Ev_getI hq_185 (show decode prog_7_method_60_code 156 = .ok (.getfield 232, 3) by decide +kernel) rfl (SGn hS (by decide)) (SGk hS rfl) (by decide) rfl ?_
          obtain ⟨h45, k⟩ := k
          refine Ev_iast hq_185 (show decode prog_7_method_60_code 159 = .ok (.iastore, 1) by decide +kernel) (SGn hS (by decide)) (SGk hS rfl) (SGi hS rfl h45) ?_
          obtain ⟨I46, eI46⟩ : ∃ I46 : zI, I46 = z_up I35 60 ((5 * x1) + 3).toNatClampNeg (I35 57 35) := ⟨_, rfl⟩
          have k := k I46 eI46
          rw [← eI46]
          obtain ⟨y47, ey47⟩ : ∃ y47 : Int32, y47 = x8 + 1 := ⟨_, rfl⟩
          have k := k y47 ey47
          refine Ev_iinc (v := y47) (lo2 := [.ref 57, .int x1, .int x2, .int x3, .int x4, .int x5, .int y43, .int y44, .int y47, .int x1, .int 1]) hq_185 (show decode prog_7_method_60_code 160 = .ok (.iinc 8 1, 3) by decide +kernel) rfl (by rw [ey47]; rfl) rfl ?_
          refine Ev_goto (tgt := 57) hq_185 (show decode prog_7_method_60_code 163 = .ok (.goto (-106), 3) by decide +kernel) (by decide) ?_
          exact k
set_option maxRecDepth 20000 in
theorem wp_Z_hurts {X : Nat × (Nat → Int32)} {d : Nat} {G : zG} {I : zI} {res : Option Value × zG × zI} (x1 : Int32) (x2 : Int32) (hd : 2 ≤ d) (hS : SG G) 
    (k : (¬ (f_Z_areTwo I x1 x2) = 0 → ∃ (r4 : Int32) (I2 : zI), Cv X d 179 [.ref 57, .int x2] G I (some (.int r4), G, I2) ∧ (z_inr ((5 * x1) + 4) 20 ∧ (∀ y6 : Int32, y6 = (I2 60 ((5 * x1) + 4).toNatClampNeg) → z_inr ((5 * x1) + 4) 20 ∧ (∀ I8 : zI, I8 = z_up I2 60 ((5 * x1) + 4).toNatClampNeg 0 → ∃ (r11 : Int32) (I9 : zI), Cv X d 179 [.ref 57, .int x2] G I8 (some (.int r11), G, I9) ∧ (z_inr ((5 * x1) + 4) 20 ∧ (∀ I13 : zI, I13 = z_up I9 60 ((5 * x1) + 4).toNatClampNeg y6 → res = (some (.int (r4 - r11)), G, I13))))))) ∧ ((f_Z_areTwo I x1 x2) = 0 → res = (some (.int (-100000)), G, I))) :
    Ev X (d + 1) 187 0 [.ref 57, .int x1, .int x2, zU, zU, zU] [] G I res := by
  refine Ev_aload_n hq_187 (show decode prog_7_method_61_code 0 = .ok (.aload_n 0, 1) by decide +kernel) rfl ?_
  refine Ev_iload_n hq_187 (show decode prog_7_method_61_code 1 = .ok (.iload_n 1, 1) by decide +kernel) rfl ?_
  refine Ev_iload_n hq_187 (show decode prog_7_method_61_code 2 = .ok (.iload_n 2, 1) by decide +kernel) rfl ?_
  refine Ev_virt (as := [.int x1, .int x2]) hq_187 (show decode prog_7_method_61_code 3 = .ok (.invokevirtual 250, 3) by decide +kernel) rfl hq_186 rfl (z_le rfl) ⟨(SGn hS (by decide)), (SGk hS rfl), by decide⟩ (c_Z_areTwo (by omega) hS x1 x2) ?_
  refine Ev_if_ne (tgt := 12) hq_187 (show decode prog_7_method_61_code 6 = .ok (.ifCond .ne 6, 3) by decide +kernel) (by decide) (fun c1 => ?_) (fun c1 => ?_)
  · have k := k.1 c1
    refine Ev_aload_n hq_187 (show decode prog_7_method_61_code 12 = .ok (.aload_n 0, 1) by decide +kernel) rfl ?_
    refine Ev_iload_n hq_187 (show decode prog_7_method_61_code 13 = .ok (.iload_n 2, 1) by decide +kernel) rfl ?_
    obtain ⟨r4, I2, h3, k⟩ := k
    refine Ev_virt (as := [.int x2]) hq_187 (show decode prog_7_method_61_code 14 = .ok (.invokevirtual 235, 3) by decide +kernel) rfl hq_179 rfl (z_le rfl) ⟨(SGn hS (by decide)), (SGk hS rfl), by decide⟩ h3 ?_
    refine Ev_istore_n (lo2 := [.ref 57, .int x1, .int x2, .int r4, zU, zU]) hq_187 (show decode prog_7_method_61_code 17 = .ok (.istore_n 3, 1) by decide +kernel) (z_le rfl) rfl ?_
    refine Ev_aload_n hq_187 (show decode prog_7_method_61_code 18 = .ok (.aload_n 0, 1) by decide +kernel) rfl ?_
    refine Ev_getR hq_187 (show decode prog_7_method_61_code 19 = .ok (.getfield 16, 3) by decide +kernel) rfl (SGn hS (by decide)) (SGk hS rfl) (by decide) rfl (SGr hS rfl) ?_
    refine Ev_iconst (v := 5) hq_187 (show decode prog_7_method_61_code 22 = .ok (.iconst 5, 1) by decide +kernel) (by decide) ?_
    refine Ev_iload_n hq_187 (show decode prog_7_method_61_code 23 = .ok (.iload_n 1, 1) by decide +kernel) rfl ?_
    refine Ev_imul hq_187 (show decode prog_7_method_61_code 24 = .ok (.imul, 1) by decide +kernel) ?_
    refine Ev_iconst (v := 4) hq_187 (show decode prog_7_method_61_code 25 = .ok (.iconst 4, 1) by decide +kernel) (by decide) ?_
    refine Ev_iadd hq_187 (show decode prog_7_method_61_code 26 = .ok (.iadd, 1) by decide +kernel) ?_
    obtain ⟨h5, k⟩ := k
    refine Ev_iald hq_187 (show decode prog_7_method_61_code 27 = .ok (.iaload, 1) by decide +kernel) (SGn hS (by decide)) (SGk hS rfl) (SGi hS rfl h5) ?_
    obtain ⟨y6, ey6⟩ : ∃ y6 : Int32, y6 = (I2 60 ((5 * x1) + 4).toNatClampNeg) := ⟨_, rfl⟩
    have k := k y6 ey6
    rw [← ey6]
    refine Ev_istore (lo2 := [.ref 57, .int x1, .int x2, .int r4, .int y6, zU]) hq_187 (show decode prog_7_method_61_code 28 = .ok (.istore 4, 2) by decide +kernel) (z_le rfl) rfl ?_
    refine Ev_aload_n hq_187 (show decode prog_7_method_61_code 30 = .ok (.aload_n 0, 1) by decide +kernel) rfl ?_
    refine Ev_getR hq_187 (show decode prog_7_method_61_code 31 = .ok (.getfield 16, 3) by decide +kernel) rfl (SGn hS (by decide)) (SGk hS rfl) (by decide) rfl (SGr hS rfl) ?_
    refine Ev_iconst (v := 5) hq_187 (show decode prog_7_method_61_code 34 = .ok (.iconst 5, 1) by decide +kernel) (by decide) ?_
    refine Ev_iload_n hq_187 (show decode prog_7_method_61_code 35 = .ok (.iload_n 1, 1) by decide +kernel) rfl ?_
    refine Ev_imul hq_187 (show decode prog_7_method_61_code 36 = .ok (.imul, 1) by decide +kernel) ?_
    refine Ev_iconst (v := 4) hq_187 (show decode prog_7_method_61_code 37 = .ok (.iconst 4, 1) by decide +kernel) (by decide) ?_
    refine Ev_iadd hq_187 (show decode prog_7_method_61_code 38 = .ok (.iadd, 1) by decide +kernel) ?_
    refine Ev_iconst (v := 0) hq_187 (show decode prog_7_method_61_code 39 = .ok (.iconst 0, 1) by decide +kernel) (by decide) ?_
    obtain ⟨h7, k⟩ := k
    refine Ev_iast hq_187 (show decode prog_7_method_61_code 40 = .ok (.iastore, 1) by decide +kernel) (SGn hS (by decide)) (SGk hS rfl) (SGi hS rfl h7) ?_
    obtain ⟨I8, eI8⟩ : ∃ I8 : zI, I8 = z_up I2 60 ((5 * x1) + 4).toNatClampNeg 0 := ⟨_, rfl⟩
    have k := k I8 eI8
    rw [← eI8]
    refine Ev_aload_n hq_187 (show decode prog_7_method_61_code 41 = .ok (.aload_n 0, 1) by decide +kernel) rfl ?_
    refine Ev_iload_n hq_187 (show decode prog_7_method_61_code 42 = .ok (.iload_n 2, 1) by decide +kernel) rfl ?_
    obtain ⟨r11, I9, h10, k⟩ := k
    refine Ev_virt (as := [.int x2]) hq_187 (show decode prog_7_method_61_code 43 = .ok (.invokevirtual 235, 3) by decide +kernel) rfl hq_179 rfl (z_le rfl) ⟨(SGn hS (by decide)), (SGk hS rfl), by decide⟩ h10 ?_
    refine Ev_istore (lo2 := [.ref 57, .int x1, .int x2, .int r4, .int y6, .int r11]) hq_187 (show decode prog_7_method_61_code 46 = .ok (.istore 5, 2) by decide +kernel) (z_le rfl) rfl ?_
    refine Ev_aload_n hq_187 (show decode prog_7_method_61_code 48 = .ok (.aload_n 0, 1) by decide +kernel) rfl ?_
    refine Ev_getR hq_187 (show decode prog_7_method_61_code 49 = .ok (.getfield 16, 3) by decide +kernel) rfl (SGn hS (by decide)) (SGk hS rfl) (by decide) rfl (SGr hS rfl) ?_
    refine Ev_iconst (v := 5) hq_187 (show decode prog_7_method_61_code 52 = .ok (.iconst 5, 1) by decide +kernel) (by decide) ?_
    refine Ev_iload_n hq_187 (show decode prog_7_method_61_code 53 = .ok (.iload_n 1, 1) by decide +kernel) rfl ?_
    refine Ev_imul hq_187 (show decode prog_7_method_61_code 54 = .ok (.imul, 1) by decide +kernel) ?_
    refine Ev_iconst (v := 4) hq_187 (show decode prog_7_method_61_code 55 = .ok (.iconst 4, 1) by decide +kernel) (by decide) ?_
    refine Ev_iadd hq_187 (show decode prog_7_method_61_code 56 = .ok (.iadd, 1) by decide +kernel) ?_
    refine Ev_iload hq_187 (show decode prog_7_method_61_code 57 = .ok (.iload 4, 2) by decide +kernel) rfl ?_
    obtain ⟨h12, k⟩ := k
    refine Ev_iast hq_187 (show decode prog_7_method_61_code 59 = .ok (.iastore, 1) by decide +kernel) (SGn hS (by decide)) (SGk hS rfl) (SGi hS rfl h12) ?_
    obtain ⟨I13, eI13⟩ : ∃ I13 : zI, I13 = z_up I9 60 ((5 * x1) + 4).toNatClampNeg y6 := ⟨_, rfl⟩
    have k := k I13 eI13
    rw [← eI13]
    refine Ev_iload_n hq_187 (show decode prog_7_method_61_code 60 = .ok (.iload_n 3, 1) by decide +kernel) rfl ?_
    refine Ev_iload hq_187 (show decode prog_7_method_61_code 61 = .ok (.iload 5, 2) by decide +kernel) rfl ?_
    refine Ev_isub hq_187 (show decode prog_7_method_61_code 63 = .ok (.isub, 1) by decide +kernel) ?_
    exact Ev_iret hq_187 (show decode prog_7_method_61_code 64 = .ok (.ireturn, 1) by decide +kernel) rfl k
  · have k := k.2 (Classical.not_not.mp c1)
    refine Ev_ldc (v := (-100000)) hq_187 (show decode prog_7_method_61_code 9 = .ok (.ldc 211, 2) by decide +kernel) rfl ?_
    exact Ev_iret hq_187 (show decode prog_7_method_61_code 11 = .ok (.ireturn, 1) by decide +kernel) rfl k
set_option maxRecDepth 20000 in
theorem wp_Z_off {X : Nat × (Nat → Int32)} {d : Nat} {G : zG} {I : zI} {res : Option Value × zG × zI} (x1 : Int32) 
    (k : (¬ (f_Z_in x1 0 1) = 0 → Ev X (d + 1) 188 19 [.ref 57, .int x1, .int (-1), .int (-1), .int 0, zU, zU] [] G I res) ∧ ((f_Z_in x1 0 1) = 0 → res = (some (.int (-2)), G, I))) :
    Ev X (d + 1) 188 0 [.ref 57, .int x1, zU, zU, zU, zU, zU] [] G I res := by
  refine Ev_iload_n hq_188 (show decode prog_7_method_62_code 0 = .ok (.iload_n 1, 1) by decide +kernel) rfl ?_
  refine Ev_iconst (v := 0) hq_188 (show decode prog_7_method_62_code 1 = .ok (.iconst 0, 1) by decide +kernel) (by decide) ?_
  refine Ev_iconst (v := 1) hq_188 (show decode prog_7_method_62_code 2 = .ok (.iconst 1, 1) by decide +kernel) (by decide) ?_
  refine Ev_stat (as := [.int x1, .int 0, .int 1]) hq_188 (show decode prog_7_method_62_code 3 = .ok (.invokestatic 90, 3) by decide +kernel) rfl (Or.inl rfl) hq_131 rfl (z_le rfl) (c_Z_in x1 0 1) ?_
  refine Ev_if_ne (tgt := 12) hq_188 (show decode prog_7_method_62_code 6 = .ok (.ifCond .ne 6, 3) by decide +kernel) (by decide) (fun c1 => ?_) (fun c1 => ?_)
  · have k := k.1 c1
    refine Ev_iconst (v := (-1)) hq_188 (show decode prog_7_method_62_code 12 = .ok (.iconst (-1), 1) by decide +kernel) (by decide) ?_
    refine Ev_istore_n (lo2 := [.ref 57, .int x1, .int (-1), zU, zU, zU, zU]) hq_188 (show decode prog_7_method_62_code 13 = .ok (.istore_n 2, 1) by decide +kernel) (z_le rfl) rfl ?_
    refine Ev_iconst (v := (-1)) hq_188 (show decode prog_7_method_62_code 14 = .ok (.iconst (-1), 1) by decide +kernel) (by decide) ?_
    refine Ev_istore_n (lo2 := [.ref 57, .int x1, .int (-1), .int (-1), zU, zU, zU]) hq_188 (show decode prog_7_method_62_code 15 = .ok (.istore_n 3, 1) by decide +kernel) (z_le rfl) rfl ?_
    refine Ev_iconst (v := 0) hq_188 (show decode prog_7_method_62_code 16 = .ok (.iconst 0, 1) by decide +kernel) (by decide) ?_
    refine Ev_istore (lo2 := [.ref 57, .int x1, .int (-1), .int (-1), .int 0, zU, zU]) hq_188 (show decode prog_7_method_62_code 17 = .ok (.istore 4, 2) by decide +kernel) (z_le rfl) rfl ?_
    exact k
  · have k := k.2 (Classical.not_not.mp c1)
    refine Ev_bipush (v := (-2)) hq_188 (show decode prog_7_method_62_code 9 = .ok (.bipush (-2), 2) by decide +kernel) (by decide) ?_
    exact Ev_iret hq_188 (show decode prog_7_method_62_code 11 = .ok (.ireturn, 1) by decide +kernel) rfl k
set_option maxRecDepth 20000 in
theorem wp_Z_off_19 {X : Nat × (Nat → Int32)} {d : Nat} {G : zG} {I : zI} {res : Option Value × zG × zI} (x1 : Int32) (x2 : Int32) (x3 : Int32) (x4 : Int32) (v5 : Value) (cv5 : v5.category = 1) (v6 : Value) (cv6 : v6.category = 1) (hS : SG G) 
    (k : ((I 57 0) ≤ x4 → (¬ x1 = 0 → res = (some (.int x3), G, I)) ∧ (x1 = 0 → res = (some (.int x2), G, I))) ∧ (¬ (I 57 0) ≤ x4 → ∃ (r5 : Int32) (I3 : zI), Cv X d 143 [.ref 57, .int x4] G I (some (.int r5), G, I3) ∧ ((r5 = 0 → ∀ y7 : Int32, y7 = x4 + 1 → Ev X (d + 1) 188 19 [.ref 57, .int x1, .int x2, .int x3, .int y7, v5, v6] [] G I3 res) ∧ (¬ r5 = 0 → z_inr ((5 * x4) + 4) 20 ∧ (∀ I9 : zI, I9 = z_up I3 60 ((5 * x4) + 4).toNatClampNeg 0 → ∃ (r12 : Int32) (I10 : zI), Cv X d 184 [.ref 57] G I9 (some (.int r12), G, I10) ∧ (z_inr ((5 * x4) + 4) 20 ∧ (∀ I14 : zI, I14 = z_up I10 60 ((5 * x4) + 4).toNatClampNeg 1 → (x2 = (-1) → ∀ y16 : Int32, y16 = x4 + 1 → Ev X (d + 1) 188 19 [.ref 57, .int x1, .int x4, .int r12, .int y16, .int r12, .int 1] [] G I14 res) ∧ (¬ x2 = (-1) → (x3 ≤ r12 → ∀ y18 : Int32, y18 = x4 + 1 → Ev X (d + 1) 188 19 [.ref 57, .int x1, .int x2, .int x3, .int y18, .int r12, .int 0] [] G I14 res) ∧ (¬ x3 ≤ r12 → ∀ y19 : Int32, y19 = x4 + 1 → Ev X (d + 1) 188 19 [.ref 57, .int x1, .int x4, .int r12, .int y19, .int r12, .int 1] [] G I14 res))))))))) :
    Ev X (d + 1) 188 19 [.ref 57, .int x1, .int x2, .int x3, .int x4, v5, v6] [] G I res := by
  refine Ev_iload hq_188 (show decode prog_7_method_62_code 19 = .ok (.iload 4, 2) by decide +kernel) rfl ?_
  refine Ev_aload_n hq_188 (show decode prog_7_method_62_code 21 = .ok (.aload_n 0, 1) by decide +kernel) rfl ?_
  refine Ev_getI hq_188 (show decode prog_7_method_62_code 22 = .ok (.getfield 87, 3) by decide +kernel) rfl (SGn hS (by decide)) (SGk hS rfl) (by decide) rfl ?_
  refine Ev_icmp_ge (tgt := 115) hq_188 (show decode prog_7_method_62_code 25 = .ok (.if_icmp .ge 90, 3) by decide +kernel) (by decide) (fun c1 => ?_) (fun c1 => ?_)
  · have k := k.1 c1
    refine Ev_iload_n hq_188 (show decode prog_7_method_62_code 115 = .ok (.iload_n 1, 1) by decide +kernel) rfl ?_
    refine Ev_if_ne (tgt := 123) hq_188 (show decode prog_7_method_62_code 116 = .ok (.ifCond .ne 7, 3) by decide +kernel) (by decide) (fun c2 => ?_) (fun c2 => ?_)
    · have k := k.1 c2
      refine Ev_iload_n hq_188 (show decode prog_7_method_62_code 123 = .ok (.iload_n 3, 1) by decide +kernel) rfl ?_
      exact Ev_iret hq_188 (show decode prog_7_method_62_code 124 = .ok (.ireturn, 1) by decide +kernel) rfl k
    · have k := k.2 (Classical.not_not.mp c2)
      refine Ev_iload_n hq_188 (show decode prog_7_method_62_code 119 = .ok (.iload_n 2, 1) by decide +kernel) rfl ?_
      refine Ev_goto (tgt := 124) hq_188 (show decode prog_7_method_62_code 120 = .ok (.goto 4, 3) by decide +kernel) (by decide) ?_
      exact Ev_iret hq_188 (show decode prog_7_method_62_code 124 = .ok (.ireturn, 1) by decide +kernel) rfl k
  · have k := k.2 c1
    refine Ev_aload_n hq_188 (show decode prog_7_method_62_code 28 = .ok (.aload_n 0, 1) by decide +kernel) rfl ?_
    refine Ev_iload hq_188 (show decode prog_7_method_62_code 29 = .ok (.iload 4, 2) by decide +kernel) rfl ?_
    obtain ⟨r5, I3, h4, k⟩ := k
    refine Ev_virt (as := [.int x4]) hq_188 (show decode prog_7_method_62_code 31 = .ok (.invokevirtual 94, 3) by decide +kernel) rfl hq_143 rfl (z_le rfl) ⟨(SGn hS (by decide)), (SGk hS rfl), by decide⟩ h4 ?_
    refine Ev_if_eq (tgt := 109) hq_188 (show decode prog_7_method_62_code 34 = .ok (.ifCond .eq 75, 3) by decide +kernel) (by decide) (fun c6 => ?_) (fun c6 => ?_)
    · have k := k.1 c6
      obtain ⟨y7, ey7⟩ : ∃ y7 : Int32, y7 = x4 + 1 := ⟨_, rfl⟩
      have k := k y7 ey7
      refine Ev_iinc (v := y7) (lo2 := [.ref 57, .int x1, .int x2, .int x3, .int y7, v5, v6]) hq_188 (show decode prog_7_method_62_code 109 = .ok (.iinc 4 1, 3) by decide +kernel) rfl (by rw [ey7]; rfl) rfl ?_
      refine Ev_goto (tgt := 19) hq_188 (show decode prog_7_method_62_code 112 = .ok (.goto (-93), 3) by decide +kernel) (by decide) ?_
      exact k
    · have k := k.2 c6
      refine Ev_aload_n hq_188 (show decode prog_7_method_62_code 37 = .ok (.aload_n 0, 1) by decide +kernel) rfl ?_
      refine Ev_getR hq_188 (show decode prog_7_method_62_code 38 = .ok (.getfield 16, 3) by decide +kernel) rfl (SGn hS (by decide)) (SGk hS rfl) (by decide) rfl (SGr hS rfl) ?_
      refine Ev_iconst (v := 5) hq_188 (show decode prog_7_method_62_code 41 = .ok (.iconst 5, 1) by decide +kernel) (by decide) ?_
      refine Ev_iload hq_188 (show decode prog_7_method_62_code 42 = .ok (.iload 4, 2) by decide +kernel) rfl ?_
      refine Ev_imul hq_188 (show decode prog_7_method_62_code 44 = .ok (.imul, 1) by decide +kernel) ?_
      refine Ev_iconst (v := 4) hq_188 (show decode prog_7_method_62_code 45 = .ok (.iconst 4, 1) by decide +kernel) (by decide) ?_
      refine Ev_iadd hq_188 (show decode prog_7_method_62_code 46 = .ok (.iadd, 1) by decide +kernel) ?_
      refine Ev_iconst (v := 0) hq_188 (show decode prog_7_method_62_code 47 = .ok (.iconst 0, 1) by decide +kernel) (by decide) ?_
      obtain ⟨h8, k⟩ := k
      refine Ev_iast hq_188 (show decode prog_7_method_62_code 48 = .ok (.iastore, 1) by decide +kernel) (SGn hS (by decide)) (SGk hS rfl) (SGi hS rfl h8) ?_
      obtain ⟨I9, eI9⟩ : ∃ I9 : zI, I9 = z_up I3 60 ((5 * x4) + 4).toNatClampNeg 0 := ⟨_, rfl⟩
      have k := k I9 eI9
      rw [← eI9]
      refine Ev_aload_n hq_188 (show decode prog_7_method_62_code 49 = .ok (.aload_n 0, 1) by decide +kernel) rfl ?_
      obtain ⟨r12, I10, h11, k⟩ := k
      refine Ev_virt (as := []) hq_188 (show decode prog_7_method_62_code 50 = .ok (.invokevirtual 247, 3) by decide +kernel) rfl hq_184 rfl (z_le rfl) ⟨(SGn hS (by decide)), (SGk hS rfl), by decide⟩ h11 ?_
      refine Ev_istore (lo2 := [.ref 57, .int x1, .int x2, .int x3, .int x4, .int r12, v6]) hq_188 (show decode prog_7_method_62_code 53 = .ok (.istore 5, 2) by decide +kernel) (z_le rfl) rfl ?_
      refine Ev_aload_n hq_188 (show decode prog_7_method_62_code 55 = .ok (.aload_n 0, 1) by decide +kernel) rfl ?_
      refine Ev_getR hq_188 (show decode prog_7_method_62_code 56 = .ok (.getfield 16, 3) by decide +kernel) rfl (SGn hS (by decide)) (SGk hS rfl) (by decide) rfl (SGr hS rfl) ?_
      refine Ev_iconst (v := 5) hq_188 (show decode prog_7_method_62_code 59 = .ok (.iconst 5, 1) by decide +kernel) (by decide) ?_
      refine Ev_iload hq_188 (show decode prog_7_method_62_code 60 = .ok (.iload 4, 2) by decide +kernel) rfl ?_
      refine Ev_imul hq_188 (show decode prog_7_method_62_code 62 = .ok (.imul, 1) by decide +kernel) ?_
      refine Ev_iconst (v := 4) hq_188 (show decode prog_7_method_62_code 63 = .ok (.iconst 4, 1) by decide +kernel) (by decide) ?_
      refine Ev_iadd hq_188 (show decode prog_7_method_62_code 64 = .ok (.iadd, 1) by decide +kernel) ?_
      refine Ev_iconst (v := 1) hq_188 (show decode prog_7_method_62_code 65 = .ok (.iconst 1, 1) by decide +kernel) (by decide) ?_
      obtain ⟨h13, k⟩ := k
      refine Ev_iast hq_188 (show decode prog_7_method_62_code 66 = .ok (.iastore, 1) by decide +kernel) (SGn hS (by decide)) (SGk hS rfl) (SGi hS rfl h13) ?_
      obtain ⟨I14, eI14⟩ : ∃ I14 : zI, I14 = z_up I10 60 ((5 * x4) + 4).toNatClampNeg 1 := ⟨_, rfl⟩
      have k := k I14 eI14
      rw [← eI14]
      refine Ev_iload_n hq_188 (show decode prog_7_method_62_code 67 = .ok (.iload_n 2, 1) by decide +kernel) rfl ?_
      refine Ev_iconst (v := (-1)) hq_188 (show decode prog_7_method_62_code 68 = .ok (.iconst (-1), 1) by decide +kernel) (by decide) ?_
      refine Ev_icmp_eq (tgt := 78) hq_188 (show decode prog_7_method_62_code 69 = .ok (.if_icmp .eq 9, 3) by decide +kernel) (by decide) (fun c15 => ?_) (fun c15 => ?_)
      · have k := k.1 c15
        refine Ev_iconst (v := 1) hq_188 (show decode prog_7_method_62_code 78 = .ok (.iconst 1, 1) by decide +kernel) (by decide) ?_
        refine Ev_goto (tgt := 83) hq_188 (show decode prog_7_method_62_code 79 = .ok (.goto 4, 3) by decide +kernel) (by decide) ?_
        refine Ev_istore (lo2 := [.ref 57, .int x1, .int x2, .int x3, .int x4, .int r12, .int 1]) hq_188 (show decode prog_7_method_62_code 83 = .ok (.istore 6, 2) by decide +kernel) (z_le rfl) rfl ?_
        refine Ev_iload hq_188 (show decode prog_7_method_62_code 85 = .ok (.iload 6, 2) by decide +kernel) rfl ?_
        refine Ev_if_eq (tgt := 95) hq_188 (show decode prog_7_method_62_code 87 = .ok (.ifCond .eq 8, 3) by decide +kernel) (by decide) (fun hz => absurd hz (by decide)) (fun _ => ?_)
        refine Ev_iload hq_188 (show decode prog_7_method_62_code 90 = .ok (.iload 4, 2) by decide +kernel) rfl ?_
        refine Ev_goto (tgt := 96) hq_188 (show decode prog_7_method_62_code 92 = .ok (.goto 4, 3) by decide +kernel) (by decide) ?_
        refine Ev_istore_n (lo2 := [.ref 57, .int x1, .int x4, .int x3, .int x4, .int r12, .int 1]) hq_188 (show decode prog_7_method_62_code 96 = .ok (.istore_n 2, 1) by decide +kernel) (z_le rfl) rfl ?_
        refine Ev_iload hq_188 (show decode prog_7_method_62_code 97 = .ok (.iload 6, 2) by decide +kernel) rfl ?_
        refine Ev_if_eq (tgt := 107) hq_188 (show decode prog_7_method_62_code 99 = .ok (.ifCond .eq 8, 3) by decide +kernel) (by decide) (fun hz => absurd hz (by decide)) (fun _ => ?_)
        refine Ev_iload hq_188 (show decode prog_7_method_62_code 102 = .ok (.iload 5, 2) by decide +kernel) rfl ?_
        refine Ev_goto (tgt := 108) hq_188 (show decode prog_7_method_62_code 104 = .ok (.goto 4, 3) by decide +kernel) (by decide) ?_
        refine Ev_istore_n (lo2 := [.ref 57, .int x1, .int x4, .int r12, .int x4, .int r12, .int 1]) hq_188 (show decode prog_7_method_62_code 108 = .ok (.istore_n 3, 1) by decide +kernel) (z_le rfl) rfl ?_
        obtain ⟨y16, ey16⟩ : ∃ y16 : Int32, y16 = x4 + 1 := ⟨_, rfl⟩
        have k := k y16 ey16
        refine Ev_iinc (v := y16) (lo2 := [.ref 57, .int x1, .int x4, .int r12, .int y16, .int r12, .int 1]) hq_188 (show decode prog_7_method_62_code 109 = .ok (.iinc 4 1, 3) by decide +kernel) rfl (by rw [ey16]; rfl) rfl ?_
        refine Ev_goto (tgt := 19) hq_188 (show decode prog_7_method_62_code 112 = .ok (.goto (-93), 3) by decide +kernel) (by decide) ?_
        exact k
      · have k := k.2 c15
        refine Ev_iload hq_188 (show decode prog_7_method_62_code 72 = .ok (.iload 5, 2) by decide +kernel) rfl ?_
        refine Ev_iload_n hq_188 (show decode prog_7_method_62_code 74 = .ok (.iload_n 3, 1) by decide +kernel) rfl ?_
        refine Ev_icmp_ge (tgt := 82) hq_188 (show decode prog_7_method_62_code 75 = .ok (.if_icmp .ge 7, 3) by decide +kernel) (by decide) (fun c17 => ?_) (fun c17 => ?_)
        · have k := k.1 c17
          refine Ev_iconst (v := 0) hq_188 (show decode prog_7_method_62_code 82 = .ok (.iconst 0, 1) by decide +kernel) (by decide) ?_
          refine Ev_istore (lo2 := [.ref 57, .int x1, .int x2, .int x3, .int x4, .int r12, .int 0]) hq_188 (show decode prog_7_method_62_code 83 = .ok (.istore 6, 2) by decide +kernel) (z_le rfl) rfl ?_
          refine Ev_iload hq_188 (show decode prog_7_method_62_code 85 = .ok (.iload 6, 2) by decide +kernel) rfl ?_
          refine Ev_if_eq (tgt := 95) hq_188 (show decode prog_7_method_62_code 87 = .ok (.ifCond .eq 8, 3) by decide +kernel) (by decide) (fun _ => ?_) (fun hz => absurd (by decide) hz)
          refine Ev_iload_n hq_188 (show decode prog_7_method_62_code 95 = .ok (.iload_n 2, 1) by decide +kernel) rfl ?_
          refine Ev_istore_n (lo2 := [.ref 57, .int x1, .int x2, .int x3, .int x4, .int r12, .int 0]) hq_188 (show decode prog_7_method_62_code 96 = .ok (.istore_n 2, 1) by decide +kernel) (z_le rfl) rfl ?_
          refine Ev_iload hq_188 (show decode prog_7_method_62_code 97 = .ok (.iload 6, 2) by decide +kernel) rfl ?_
          refine Ev_if_eq (tgt := 107) hq_188 (show decode prog_7_method_62_code 99 = .ok (.ifCond .eq 8, 3) by decide +kernel) (by decide) (fun _ => ?_) (fun hz => absurd (by decide) hz)
          refine Ev_iload_n hq_188 (show decode prog_7_method_62_code 107 = .ok (.iload_n 3, 1) by decide +kernel) rfl ?_
          refine Ev_istore_n (lo2 := [.ref 57, .int x1, .int x2, .int x3, .int x4, .int r12, .int 0]) hq_188 (show decode prog_7_method_62_code 108 = .ok (.istore_n 3, 1) by decide +kernel) (z_le rfl) rfl ?_
          obtain ⟨y18, ey18⟩ : ∃ y18 : Int32, y18 = x4 + 1 := ⟨_, rfl⟩
          have k := k y18 ey18
          refine Ev_iinc (v := y18) (lo2 := [.ref 57, .int x1, .int x2, .int x3, .int y18, .int r12, .int 0]) hq_188 (show decode prog_7_method_62_code 109 = .ok (.iinc 4 1, 3) by decide +kernel) rfl (by rw [ey18]; rfl) rfl ?_
          refine Ev_goto (tgt := 19) hq_188 (show decode prog_7_method_62_code 112 = .ok (.goto (-93), 3) by decide +kernel) (by decide) ?_
          exact k
        · have k := k.2 c17
          refine Ev_iconst (v := 1) hq_188 (show decode prog_7_method_62_code 78 = .ok (.iconst 1, 1) by decide +kernel) (by decide) ?_
          refine Ev_goto (tgt := 83) hq_188 (show decode prog_7_method_62_code 79 = .ok (.goto 4, 3) by decide +kernel) (by decide) ?_
          refine Ev_istore (lo2 := [.ref 57, .int x1, .int x2, .int x3, .int x4, .int r12, .int 1]) hq_188 (show decode prog_7_method_62_code 83 = .ok (.istore 6, 2) by decide +kernel) (z_le rfl) rfl ?_
          refine Ev_iload hq_188 (show decode prog_7_method_62_code 85 = .ok (.iload 6, 2) by decide +kernel) rfl ?_
          refine Ev_if_eq (tgt := 95) hq_188 (show decode prog_7_method_62_code 87 = .ok (.ifCond .eq 8, 3) by decide +kernel) (by decide) (fun hz => absurd hz (by decide)) (fun _ => ?_)
          refine Ev_iload hq_188 (show decode prog_7_method_62_code 90 = .ok (.iload 4, 2) by decide +kernel) rfl ?_
          refine Ev_goto (tgt := 96) hq_188 (show decode prog_7_method_62_code 92 = .ok (.goto 4, 3) by decide +kernel) (by decide) ?_
          refine Ev_istore_n (lo2 := [.ref 57, .int x1, .int x4, .int x3, .int x4, .int r12, .int 1]) hq_188 (show decode prog_7_method_62_code 96 = .ok (.istore_n 2, 1) by decide +kernel) (z_le rfl) rfl ?_
          refine Ev_iload hq_188 (show decode prog_7_method_62_code 97 = .ok (.iload 6, 2) by decide +kernel) rfl ?_
          refine Ev_if_eq (tgt := 107) hq_188 (show decode prog_7_method_62_code 99 = .ok (.ifCond .eq 8, 3) by decide +kernel) (by decide) (fun hz => absurd hz (by decide)) (fun _ => ?_)
          refine Ev_iload hq_188 (show decode prog_7_method_62_code 102 = .ok (.iload 5, 2) by decide +kernel) rfl ?_
          refine Ev_goto (tgt := 108) hq_188 (show decode prog_7_method_62_code 104 = .ok (.goto 4, 3) by decide +kernel) (by decide) ?_
          refine Ev_istore_n (lo2 := [.ref 57, .int x1, .int x4, .int r12, .int x4, .int r12, .int 1]) hq_188 (show decode prog_7_method_62_code 108 = .ok (.istore_n 3, 1) by decide +kernel) (z_le rfl) rfl ?_
          obtain ⟨y19, ey19⟩ : ∃ y19 : Int32, y19 = x4 + 1 := ⟨_, rfl⟩
          have k := k y19 ey19
          refine Ev_iinc (v := y19) (lo2 := [.ref 57, .int x1, .int x4, .int r12, .int y19, .int r12, .int 1]) hq_188 (show decode prog_7_method_62_code 109 = .ok (.iinc 4 1, 3) by decide +kernel) rfl (by rw [ey19]; rfl) rfl ?_
          refine Ev_goto (tgt := 19) hq_188 (show decode prog_7_method_62_code 112 = .ok (.goto (-93), 3) by decide +kernel) (by decide) ?_
          exact k
set_option maxRecDepth 20000 in
theorem wp_Z_stills {X : Nat × (Nat → Int32)} {d : Nat} {G : zG} {I : zI} {res : Option Value × zG × zI} (x1 : Int32) (hd : 1 ≤ d) (hS : SG G) 
    (k : (¬ (f_Z_isShower I x1) = 0 → ∃ (r4 : Int32) (I2 : zI), Cv X d 184 [.ref 57] G I (some (.int r4), G, I2) ∧ (z_inr x1 4 ∧ (∀ y6 : Int32, y6 = (r4 - (I2 75 x1.toNatClampNeg)) → (∀ I7 : zI, I7 = z_up I2 57 34 x1 → ∃ (r10 : Int32) (I8 : zI), Cv X d 184 [.ref 57] G I7 (some (.int r10), G, I8) ∧ (z_inr x1 4 ∧ (∀ y12 : Int32, y12 = (r10 - (I8 75 x1.toNatClampNeg)) → (∀ I13 : zI, I13 = z_up I8 57 34 (-1) → res = (some (.int (y12 - y6)), G, I13)))))))) ∧ ((f_Z_isShower I x1) = 0 → res = (some (.int (-100000)), G, I))) :
    Ev X (d + 1) 189 0 [.ref 57, .int x1, zU, zU] [] G I res := by
  refine Ev_aload_n hq_189 (show decode prog_7_method_63_code 0 = .ok (.aload_n 0, 1) by decide +kernel) rfl ?_
  refine Ev_iload_n hq_189 (show decode prog_7_method_63_code 1 = .ok (.iload_n 1, 1) by decide +kernel) rfl ?_
  refine Ev_virt (as := [.int x1]) hq_189 (show decode prog_7_method_63_code 2 = .ok (.invokevirtual 176, 3) by decide +kernel) rfl hq_148 rfl (z_le rfl) ⟨(SGn hS (by decide)), (SGk hS rfl), by decide⟩ (c_Z_isShower (by omega) hS x1) ?_
  refine Ev_if_ne (tgt := 11) hq_189 (show decode prog_7_method_63_code 5 = .ok (.ifCond .ne 6, 3) by decide +kernel) (by decide) (fun c1 => ?_) (fun c1 => ?_)
  · have k := k.1 c1
    refine Ev_aload_n hq_189 (show decode prog_7_method_63_code 11 = .ok (.aload_n 0, 1) by decide +kernel) rfl ?_
    obtain ⟨r4, I2, h3, k⟩ := k
    refine Ev_virt (as := []) hq_189 (show decode prog_7_method_63_code 12 = .ok (.invokevirtual 247, 3) by decide +kernel) rfl hq_184 rfl (z_le rfl) ⟨(SGn hS (by decide)), (SGk hS rfl), by decide⟩ h3 ?_
    refine Ev_aload_n hq_189 (show decode prog_7_method_63_code 15 = .ok (.aload_n 0, 1) by decide +kernel) rfl ?_
    refine Ev_getR hq_189 (show decode prog_7_method_63_code 16 = .ok (.getfield 61, 3) by decide +kernel) rfl (SGn hS (by decide)) (SGk hS rfl) (by decide) rfl (SGr hS rfl) ?_
    refine Ev_iload_n hq_189 (show decode prog_7_method_63_code 19 = .ok (.iload_n 1, 1) by decide +kernel) rfl ?_
    obtain ⟨h5, k⟩ := k
    refine Ev_iald hq_189 (show decode prog_7_method_63_code 20 = .ok (.iaload, 1) by decide +kernel) (SGn hS (by decide)) (SGk hS rfl) (SGi hS rfl h5) ?_
    refine Ev_isub hq_189 (show decode prog_7_method_63_code 21 = .ok (.isub, 1) by decide +kernel) ?_
    obtain ⟨y6, ey6⟩ : ∃ y6 : Int32, y6 = (r4 - (I2 75 x1.toNatClampNeg)) := ⟨_, rfl⟩
    have k := k y6 ey6
    rw [← ey6]
    refine Ev_istore_n (lo2 := [.ref 57, .int x1, .int y6, zU]) hq_189 (show decode prog_7_method_63_code 22 = .ok (.istore_n 2, 1) by decide +kernel) (z_le rfl) rfl ?_
    refine Ev_aload_n hq_189 (show decode prog_7_method_63_code 23 = .ok (.aload_n 0, 1) by decide +kernel) rfl ?_
    refine Ev_iload_n hq_189 (show decode prog_7_method_63_code 24 = .ok (.iload_n 1, 1) by decide +kernel) rfl ?_
    refine Ev_putI hq_189 (show decode prog_7_method_63_code 25 = .ok (.putfield 70, 3) by decide +kernel) rfl (SGn hS (by decide)) (SGk hS rfl) (by decide) (by decide) rfl (fun hz => by cases hz) ?_
    obtain ⟨I7, eI7⟩ : ∃ I7 : zI, I7 = z_up I2 57 34 x1 := ⟨_, rfl⟩
    have k := k I7 eI7
    rw [← eI7]
    refine Ev_aload_n hq_189 (show decode prog_7_method_63_code 28 = .ok (.aload_n 0, 1) by decide +kernel) rfl ?_
    obtain ⟨r10, I8, h9, k⟩ := k
    refine Ev_virt (as := []) hq_189 (show decode prog_7_method_63_code 29 = .ok (.invokevirtual 247, 3) by decide +kernel) rfl hq_184 rfl (z_le rfl) ⟨(SGn hS (by decide)), (SGk hS rfl), by decide⟩ h9 ?_
    refine Ev_aload_n hq_189 (show decode prog_7_method_63_code 32 = .ok (.aload_n 0, 1) by decide +kernel) rfl ?_
    refine Ev_getR hq_189 (show decode prog_7_method_63_code 33 = .ok (.getfield 61, 3) by decide +kernel) rfl (SGn hS (by decide)) (SGk hS rfl) (by decide) rfl (SGr hS rfl) ?_
    refine Ev_iload_n hq_189 (show decode prog_7_method_63_code 36 = .ok (.iload_n 1, 1) by decide +kernel) rfl ?_
    obtain ⟨h11, k⟩ := k
    refine Ev_iald hq_189 (show decode prog_7_method_63_code 37 = .ok (.iaload, 1) by decide +kernel) (SGn hS (by decide)) (SGk hS rfl) (SGi hS rfl h11) ?_
    refine Ev_isub hq_189 (show decode prog_7_method_63_code 38 = .ok (.isub, 1) by decide +kernel) ?_
    obtain ⟨y12, ey12⟩ : ∃ y12 : Int32, y12 = (r10 - (I8 75 x1.toNatClampNeg)) := ⟨_, rfl⟩
    have k := k y12 ey12
    rw [← ey12]
    refine Ev_istore_n (lo2 := [.ref 57, .int x1, .int y6, .int y12]) hq_189 (show decode prog_7_method_63_code 39 = .ok (.istore_n 3, 1) by decide +kernel) (z_le rfl) rfl ?_
    refine Ev_aload_n hq_189 (show decode prog_7_method_63_code 40 = .ok (.aload_n 0, 1) by decide +kernel) rfl ?_
    refine Ev_iconst (v := (-1)) hq_189 (show decode prog_7_method_63_code 41 = .ok (.iconst (-1), 1) by decide +kernel) (by decide) ?_
    refine Ev_putI hq_189 (show decode prog_7_method_63_code 42 = .ok (.putfield 70, 3) by decide +kernel) rfl (SGn hS (by decide)) (SGk hS rfl) (by decide) (by decide) rfl (fun hz => by cases hz) ?_
    obtain ⟨I13, eI13⟩ : ∃ I13 : zI, I13 = z_up I8 57 34 (-1) := ⟨_, rfl⟩
    have k := k I13 eI13
    rw [← eI13]
    refine Ev_iload_n hq_189 (show decode prog_7_method_63_code 45 = .ok (.iload_n 3, 1) by decide +kernel) rfl ?_
    refine Ev_iload_n hq_189 (show decode prog_7_method_63_code 46 = .ok (.iload_n 2, 1) by decide +kernel) rfl ?_
    refine Ev_isub hq_189 (show decode prog_7_method_63_code 47 = .ok (.isub, 1) by decide +kernel) ?_
    exact Ev_iret hq_189 (show decode prog_7_method_63_code 48 = .ok (.ireturn, 1) by decide +kernel) rfl k
  · have k := k.2 (Classical.not_not.mp c1)
    refine Ev_ldc (v := (-100000)) hq_189 (show decode prog_7_method_63_code 8 = .ok (.ldc 211, 2) by decide +kernel) rfl ?_
    exact Ev_iret hq_189 (show decode prog_7_method_63_code 10 = .ok (.ireturn, 1) by decide +kernel) rfl k
set_option maxRecDepth 20000 in
theorem wp_Z_leave {X : Nat × (Nat → Int32)} {d : Nat} {G : zG} {I : zI} {res : Option Value × zG × zI} (x1 : Int32) (x2 : Int32) (hd : 1 ≤ d) (hS : SG G) 
    (k : (¬ (f_Z_isShower I x1) = 0 → (¬ (f_Z_in x2 0 1) = 0 → z_inr ((5 * x1) + 2) 20 ∧ (∀ y4 : Int32, y4 = (I 60 ((5 * x1) + 2).toNatClampNeg) → (∀ I5 : zI, I5 = z_up I 57 34 x1 → Ev X (d + 1) 190 48 [.ref 57, .int x1, .int x2, .int y4, .int (-1), .int 0, .int 0, zU, zU] [] G I5 res))) ∧ ((f_Z_in x2 0 1) = 0 → res = (some (.int (-7)), G, I))) ∧ ((f_Z_isShower I x1) = 0 → res = (some (.int (-5)), G, I))) :
    Ev X (d + 1) 190 0 [.ref 57, .int x1, .int x2, zU, zU, zU, zU, zU, zU] [] G I res := by
  refine Ev_aload_n hq_190 (show decode prog_7_method_64_code 0 = .ok (.aload_n 0, 1) by decide +kernel) rfl ?_
  refine Ev_iload_n hq_190 (show decode prog_7_method_64_code 1 = .ok (.iload_n 1, 1) by decide +kernel) rfl ?_
  refine Ev_virt (as := [.int x1]) hq_190 (show decode prog_7_method_64_code 2 = .ok (.invokevirtual 176, 3) by decide +kernel) rfl hq_148 rfl (z_le rfl) ⟨(SGn hS (by decide)), (SGk hS rfl), by decide⟩ (c_Z_isShower (by omega) hS x1) ?_
  refine Ev_if_ne (tgt := 11) hq_190 (show decode prog_7_method_64_code 5 = .ok (.ifCond .ne 6, 3) by decide +kernel) (by decide) (fun c1 => ?_) (fun c1 => ?_)
  · have k := k.1 c1
    refine Ev_iload_n hq_190 (show decode prog_7_method_64_code 11 = .ok (.iload_n 2, 1) by decide +kernel) rfl ?_
    refine Ev_iconst (v := 0) hq_190 (show decode prog_7_method_64_code 12 = .ok (.iconst 0, 1) by decide +kernel) (by decide) ?_
    refine Ev_iconst (v := 1) hq_190 (show decode prog_7_method_64_code 13 = .ok (.iconst 1, 1) by decide +kernel) (by decide) ?_
    refine Ev_stat (as := [.int x2, .int 0, .int 1]) hq_190 (show decode prog_7_method_64_code 14 = .ok (.invokestatic 90, 3) by decide +kernel) rfl (Or.inl rfl) hq_131 rfl (z_le rfl) (c_Z_in x2 0 1) ?_
    refine Ev_if_ne (tgt := 23) hq_190 (show decode prog_7_method_64_code 17 = .ok (.ifCond .ne 6, 3) by decide +kernel) (by decide) (fun c2 => ?_) (fun c2 => ?_)
    · have k := k.1 c2
      refine Ev_aload_n hq_190 (show decode prog_7_method_64_code 23 = .ok (.aload_n 0, 1) by decide +kernel) rfl ?_
      refine Ev_getR hq_190 (show decode prog_7_method_64_code 24 = .ok (.getfield 16, 3) by decide +kernel) rfl (SGn hS (by decide)) (SGk hS rfl) (by decide) rfl (SGr hS rfl) ?_
      refine Ev_iconst (v := 5) hq_190 (show decode prog_7_method_64_code 27 = .ok (.iconst 5, 1) by decide +kernel) (by decide) ?_
      refine Ev_iload_n hq_190 (show decode prog_7_method_64_code 28 = .ok (.iload_n 1, 1) by decide +kernel) rfl ?_
      refine Ev_imul hq_190 (show decode prog_7_method_64_code 29 = .ok (.imul, 1) by decide +kernel) ?_
      refine Ev_iconst (v := 2) hq_190 (show decode prog_7_method_64_code 30 = .ok (.iconst 2, 1) by decide +kernel) (by decide) ?_
      refine Ev_iadd hq_190 (show decode prog_7_method_64_code 31 = .ok (.iadd, 1) by decide +kernel) ?_
      obtain ⟨h3, k⟩ := k
      refine Ev_iald hq_190 (show decode prog_7_method_64_code 32 = .ok (.iaload, 1) by decide +kernel) (SGn hS (by decide)) (SGk hS rfl) (SGi hS rfl h3) ?_
      obtain ⟨y4, ey4⟩ : ∃ y4 : Int32, y4 = (I 60 ((5 * x1) + 2).toNatClampNeg) := ⟨_, rfl⟩
      have k := k y4 ey4
      rw [← ey4]
      refine Ev_istore_n (lo2 := [.ref 57, .int x1, .int x2, .int y4, zU, zU, zU, zU, zU]) hq_190 (show decode prog_7_method_64_code 33 = .ok (.istore_n 3, 1) by decide +kernel) (z_le rfl) rfl ?_
      refine Ev_iconst (v := (-1)) hq_190 (show decode prog_7_method_64_code 34 = .ok (.iconst (-1), 1) by decide +kernel) (by decide) ?_
      refine Ev_istore (lo2 := [.ref 57, .int x1, .int x2, .int y4, .int (-1), zU, zU, zU, zU]) hq_190 (show decode prog_7_method_64_code 35 = .ok (.istore 4, 2) by decide +kernel) (z_le rfl) rfl ?_
      refine Ev_iconst (v := 0) hq_190 (show decode prog_7_method_64_code 37 = .ok (.iconst 0, 1) by decide +kernel) (by decide) ?_
      refine Ev_istore (lo2 := [.ref 57, .int x1, .int x2, .int y4, .int (-1), .int 0, zU, zU, zU]) hq_190 (show decode prog_7_method_64_code 38 = .ok (.istore 5, 2) by decide +kernel) (z_le rfl) rfl ?_
      refine Ev_aload_n hq_190 (show decode prog_7_method_64_code 40 = .ok (.aload_n 0, 1) by decide +kernel) rfl ?_
      refine Ev_iload_n hq_190 (show decode prog_7_method_64_code 41 = .ok (.iload_n 1, 1) by decide +kernel) rfl ?_
      refine Ev_putI hq_190 (show decode prog_7_method_64_code 42 = .ok (.putfield 70, 3) by decide +kernel) rfl (SGn hS (by decide)) (SGk hS rfl) (by decide) (by decide) rfl (fun hz => by cases hz) ?_
      obtain ⟨I5, eI5⟩ : ∃ I5 : zI, I5 = z_up I 57 34 x1 := ⟨_, rfl⟩
      have k := k I5 eI5
      rw [← eI5]
      refine Ev_iconst (v := 0) hq_190 (show decode prog_7_method_64_code 45 = .ok (.iconst 0, 1) by decide +kernel) (by decide) ?_
      refine Ev_istore (lo2 := [.ref 57, .int x1, .int x2, .int y4, .int (-1), .int 0, .int 0, zU, zU]) hq_190 (show decode prog_7_method_64_code 46 = .ok (.istore 6, 2) by decide +kernel) (z_le rfl) rfl ?_
      exact k
    · have k := k.2 (Classical.not_not.mp c2)
      refine Ev_bipush (v := (-7)) hq_190 (show decode prog_7_method_64_code 20 = .ok (.bipush (-7), 2) by decide +kernel) (by decide) ?_
      exact Ev_iret hq_190 (show decode prog_7_method_64_code 22 = .ok (.ireturn, 1) by decide +kernel) rfl k
  · have k := k.2 (Classical.not_not.mp c1)
    refine Ev_bipush (v := (-5)) hq_190 (show decode prog_7_method_64_code 8 = .ok (.bipush (-5), 2) by decide +kernel) (by decide) ?_
    exact Ev_iret hq_190 (show decode prog_7_method_64_code 10 = .ok (.ireturn, 1) by decide +kernel) rfl k
set_option maxRecDepth 20000 in
theorem wp_Z_leave_48 {X : Nat × (Nat → Int32)} {d : Nat} {G : zG} {I : zI} {res : Option Value × zG × zI} (x1 : Int32) (x2 : Int32) (x3 : Int32) (x4 : Int32) (x5 : Int32) (x6 : Int32) (v7 : Value) (cv7 : v7.category = 1) (v8 : Value) (cv8 : v8.category = 1) (hS : SG G) 
    (k : (990 < x6 → (∀ I2 : zI, I2 = z_up I 57 34 (-1) → z_inr ((5 * x1) + 2) 20 ∧ (∀ I4 : zI, I4 = z_up I2 60 ((5 * x1) + 2).toNatClampNeg x3 → (¬ x2 = 0 → res = (some (.int x5), G, I4)) ∧ (x2 = 0 → res = (some (.int x4), G, I4))))) ∧ (¬ 990 < x6 → z_inr ((5 * x1) + 2) 20 ∧ (∀ I7 : zI, I7 = z_up I 60 ((5 * x1) + 2).toNatClampNeg x6 → ∃ (r10 : Int32) (I8 : zI), Cv X d 179 [.ref 57, .int x1] G I7 (some (.int r10), G, I8) ∧ ((x4 = (-1) → ∀ y12 : Int32, y12 = x6 + 10 → Ev X (d + 1) 190 48 [.ref 57, .int x1, .int x2, .int x3, .int x6, .int r10, .int y12, .int r10, .int 1] [] G I8 res) ∧ (¬ x4 = (-1) → (x5 ≤ r10 → ∀ y14 : Int32, y14 = x6 + 10 → Ev X (d + 1) 190 48 [.ref 57, .int x1, .int x2, .int x3, .int x4, .int x5, .int y14, .int r10, .int 0] [] G I8 res) ∧ (¬ x5 ≤ r10 → ∀ y15 : Int32, y15 = x6 + 10 → Ev X (d + 1) 190 48 [.ref 57, .int x1, .int x2, .int x3, .int x6, .int r10, .int y15, .int r10, .int 1] [] G I8 res)))))) :
    Ev X (d + 1) 190 48 [.ref 57, .int x1, .int x2, .int x3, .int x4, .int x5, .int x6, v7, v8] [] G I res := by
  refine Ev_iload hq_190 (show decode prog_7_method_64_code 48 = .ok (.iload 6, 2) by decide +kernel) rfl ?_
  refine Ev_sipush (v := 990) hq_190 (show decode prog_7_method_64_code 50 = .ok (.sipush 990, 3) by decide +kernel) (by decide) ?_
  refine Ev_icmp_gt (tgt := 129) hq_190 (show decode prog_7_method_64_code 53 = .ok (.if_icmp .gt 76, 3) by decide +kernel) (by decide) (fun c1 => ?_) (fun c1 => ?_)
  · have k := k.1 c1
    refine Ev_aload_n hq_190 (show decode prog_7_method_64_code 129 = .ok (.aload_n 0, 1) by decide +kernel) rfl ?_
    refine Ev_iconst (v := (-1)) hq_190 (show decode prog_7_method_64_code 130 = .ok (.iconst (-1), 1) by decide +kernel) (by decide) ?_
    refine Ev_putI hq_190 (show decode prog_7_method_64_code 131 = .ok (.putfield 70, 3) by decide +kernel) rfl (SGn hS (by decide)) (SGk hS rfl) (by decide) (by decide) rfl (fun hz => by cases hz) ?_
    obtain ⟨I2, eI2⟩ : ∃ I2 : zI, I2 = z_up I 57 34 (-1) := ⟨_, rfl⟩
    have k := k I2 eI2
    rw [← eI2]
    refine Ev_aload_n hq_190 (show decode prog_7_method_64_code 134 = .ok (.aload_n 0, 1) by decide +kernel) rfl ?_
    refine Ev_getR hq_190 (show decode prog_7_method_64_code 135 = .ok (.getfield 16, 3) by decide +kernel) rfl (SGn hS (by decide)) (SGk hS rfl) (by decide) rfl (SGr hS rfl) ?_
    refine Ev_iconst (v := 5) hq_190 (show decode prog_7_method_64_code 138 = .ok (.iconst 5, 1) by decide +kernel) (by decide) ?_
    refine Ev_iload_n hq_190 (show decode prog_7_method_64_code 139 = .ok (.iload_n 1, 1) by decide +kernel) rfl ?_
    refine Ev_imul hq_190 (show decode prog_7_method_64_code 140 = .ok (.imul, 1) by decide +kernel) ?_
    refine Ev_iconst (v := 2) hq_190 (show decode prog_7_method_64_code 141 = .ok (.iconst 2, 1) by decide +kernel) (by decide) ?_
    refine Ev_iadd hq_190 (show decode prog_7_method_64_code 142 = .ok (.iadd, 1) by decide +kernel) ?_
    refine Ev_iload_n hq_190 (show decode prog_7_method_64_code 143 = .ok (.iload_n 3, 1) by decide +kernel) rfl ?_
    obtain ⟨h3, k⟩ := k
    refine Ev_iast hq_190 (show decode prog_7_method_64_code 144 = .ok (.iastore, 1) by decide +kernel) (SGn hS (by decide)) (SGk hS rfl) (SGi hS rfl h3) ?_
    obtain ⟨I4, eI4⟩ : ∃ I4 : zI, I4 = z_up I2 60 ((5 * x1) + 2).toNatClampNeg x3 := ⟨_, rfl⟩
    have k := k I4 eI4
    rw [← eI4]
    refine Ev_iload_n hq_190 (show decode prog_7_method_64_code 145 = .ok (.iload_n 2, 1) by decide +kernel) rfl ?_
    refine Ev_if_ne (tgt := 154) hq_190 (show decode prog_7_method_64_code 146 = .ok (.ifCond .ne 8, 3) by decide +kernel) (by decide) (fun c5 => ?_) (fun c5 => ?_)
    · have k := k.1 c5
      refine Ev_iload hq_190 (show decode prog_7_method_64_code 154 = .ok (.iload 5, 2) by decide +kernel) rfl ?_
      exact Ev_iret hq_190 (show decode prog_7_method_64_code 156 = .ok (.ireturn, 1) by decide +kernel) rfl k
    · have k := k.2 (Classical.not_not.mp c5)
      refine Ev_iload hq_190 (show decode prog_7_method_64_code 149 = .ok (.iload 4, 2) by decide +kernel) rfl ?_
      refine Ev_goto (tgt := 156) hq_190 (show decode prog_7_method_64_code 151 = .ok (.goto 5, 3) by decide +kernel) (by decide) ?_
      exact Ev_iret hq_190 (show decode prog_7_method_64_code 156 = .ok (.ireturn, 1) by decide +kernel) rfl k
  · have k := k.2 c1
    refine Ev_aload_n hq_190 (show decode prog_7_method_64_code 56 = .ok (.aload_n 0, 1) by decide +kernel) rfl ?_
    refine Ev_getR hq_190 (show decode prog_7_method_64_code 57 = .ok (.getfield 16, 3) by decide +kernel) rfl (SGn hS (by decide)) (SGk hS rfl) (by decide) rfl (SGr hS rfl) ?_
    refine Ev_iconst (v := 5) hq_190 (show decode prog_7_method_64_code 60 = .ok (.iconst 5, 1) by decide +kernel) (by decide) ?_
    refine Ev_iload_n hq_190 (show decode prog_7_method_64_code 61 = .ok (.iload_n 1, 1) by decide +kernel) rfl ?_
    refine Ev_imul hq_190 (show decode prog_7_method_64_code 62 = .ok (.imul, 1) by decide +kernel) ?_
    refine Ev_iconst (v := 2) hq_190 (show decode prog_7_method_64_code 63 = .ok (.iconst 2, 1) by decide +kernel) (by decide) ?_
    refine Ev_iadd hq_190 (show decode prog_7_method_64_code 64 = .ok (.iadd, 1) by decide +kernel) ?_
    refine Ev_iload hq_190 (show decode prog_7_method_64_code 65 = .ok (.iload 6, 2) by decide +kernel) rfl ?_
    obtain ⟨h6, k⟩ := k
    refine Ev_iast hq_190 (show decode prog_7_method_64_code 67 = .ok (.iastore, 1) by decide +kernel) (SGn hS (by decide)) (SGk hS rfl) (SGi hS rfl h6) ?_
    obtain ⟨I7, eI7⟩ : ∃ I7 : zI, I7 = z_up I 60 ((5 * x1) + 2).toNatClampNeg x6 := ⟨_, rfl⟩
    have k := k I7 eI7
    rw [← eI7]
    refine Ev_aload_n hq_190 (show decode prog_7_method_64_code 68 = .ok (.aload_n 0, 1) by decide +kernel) rfl ?_
    refine Ev_iload_n hq_190 (show decode prog_7_method_64_code 69 = .ok (.iload_n 1, 1) by decide +kernel) rfl ?_
    obtain ⟨r10, I8, h9, k⟩ := k
    refine Ev_virt (as := [.int x1]) hq_190 (show decode prog_7_method_64_code 70 = .ok (.invokevirtual 235, 3) by decide +kernel) rfl hq_179 rfl (z_le rfl) ⟨(SGn hS (by decide)), (SGk hS rfl), by decide⟩ h9 ?_
    refine Ev_istore (lo2 := [.ref 57, .int x1, .int x2, .int x3, .int x4, .int x5, .int x6, .int r10, v8]) hq_190 (show decode prog_7_method_64_code 73 = .ok (.istore 7, 2) by decide +kernel) (z_le rfl) rfl ?_
    refine Ev_iload hq_190 (show decode prog_7_method_64_code 75 = .ok (.iload 4, 2) by decide +kernel) rfl ?_
    refine Ev_iconst (v := (-1)) hq_190 (show decode prog_7_method_64_code 77 = .ok (.iconst (-1), 1) by decide +kernel) (by decide) ?_
    refine Ev_icmp_eq (tgt := 88) hq_190 (show decode prog_7_method_64_code 78 = .ok (.if_icmp .eq 10, 3) by decide +kernel) (by decide) (fun c11 => ?_) (fun c11 => ?_)
    · have k := k.1 c11
      refine Ev_iconst (v := 1) hq_190 (show decode prog_7_method_64_code 88 = .ok (.iconst 1, 1) by decide +kernel) (by decide) ?_
      refine Ev_goto (tgt := 93) hq_190 (show decode prog_7_method_64_code 89 = .ok (.goto 4, 3) by decide +kernel) (by decide) ?_
      refine Ev_istore (lo2 := [.ref 57, .int x1, .int x2, .int x3, .int x4, .int x5, .int x6, .int r10, .int 1]) hq_190 (show decode prog_7_method_64_code 93 = .ok (.istore 8, 2) by decide +kernel) (z_le rfl) rfl ?_
      refine Ev_iload hq_190 (show decode prog_7_method_64_code 95 = .ok (.iload 8, 2) by decide +kernel) rfl ?_
      refine Ev_if_eq (tgt := 105) hq_190 (show decode prog_7_method_64_code 97 = .ok (.ifCond .eq 8, 3) by decide +kernel) (by decide) (fun hz => absurd hz (by decide)) (fun _ => ?_)
      refine Ev_iload hq_190 (show decode prog_7_method_64_code 100 = .ok (.iload 6, 2) by decide +kernel) rfl ?_
      refine Ev_goto (tgt := 107) hq_190 (show decode prog_7_method_64_code 102 = .ok (.goto 5, 3) by decide +kernel) (by decide) ?_
      refine Ev_istore (lo2 := [.ref 57, .int x1, .int x2, .int x3, .int x6, .int x5, .int x6, .int r10, .int 1]) hq_190 (show decode prog_7_method_64_code 107 = .ok (.istore 4, 2) by decide +kernel) (z_le rfl) rfl ?_
      refine Ev_iload hq_190 (show decode prog_7_method_64_code 109 = .ok (.iload 8, 2) by decide +kernel) rfl ?_
      refine Ev_if_eq (tgt := 119) hq_190 (show decode prog_7_method_64_code 111 = .ok (.ifCond .eq 8, 3) by decide +kernel) (by decide) (fun hz => absurd hz (by decide)) (fun _ => ?_)
      refine Ev_iload hq_190 (show decode prog_7_method_64_code 114 = .ok (.iload 7, 2) by decide +kernel) rfl ?_
      refine Ev_goto (tgt := 121) hq_190 (show decode prog_7_method_64_code 116 = .ok (.goto 5, 3) by decide +kernel) (by decide) ?_
      refine Ev_istore (lo2 := [.ref 57, .int x1, .int x2, .int x3, .int x6, .int r10, .int x6, .int r10, .int 1]) hq_190 (show decode prog_7_method_64_code 121 = .ok (.istore 5, 2) by decide +kernel) (z_le rfl) rfl ?_
      obtain ⟨y12, ey12⟩ : ∃ y12 : Int32, y12 = x6 + 10 := ⟨_, rfl⟩
      have k := k y12 ey12
      refine Ev_iinc (v := y12) (lo2 := [.ref 57, .int x1, .int x2, .int x3, .int x6, .int r10, .int y12, .int r10, .int 1]) hq_190 (show decode prog_7_method_64_code 123 = .ok (.iinc 6 10, 3) by decide +kernel) rfl (by rw [ey12]; rfl) rfl ?_
      refine Ev_goto (tgt := 48) hq_190 (show decode prog_7_method_64_code 126 = .ok (.goto (-78), 3) by decide +kernel) (by decide) ?_
      exact k
    · have k := k.2 c11
      refine Ev_iload hq_190 (show decode prog_7_method_64_code 81 = .ok (.iload 7, 2) by decide +kernel) rfl ?_
      refine Ev_iload hq_190 (show decode prog_7_method_64_code 83 = .ok (.iload 5, 2) by decide +kernel) rfl ?_
      refine Ev_icmp_ge (tgt := 92) hq_190 (show decode prog_7_method_64_code 85 = .ok (.if_icmp .ge 7, 3) by decide +kernel) (by decide) (fun c13 => ?_) (fun c13 => ?_)
      · have k := k.1 c13
        refine Ev_iconst (v := 0) hq_190 (show decode prog_7_method_64_code 92 = .ok (.iconst 0, 1) by decide +kernel) (by decide) ?_
        refine Ev_istore (lo2 := [.ref 57, .int x1, .int x2, .int x3, .int x4, .int x5, .int x6, .int r10, .int 0]) hq_190 (show decode prog_7_method_64_code 93 = .ok (.istore 8, 2) by decide +kernel) (z_le rfl) rfl ?_
        refine Ev_iload hq_190 (show decode prog_7_method_64_code 95 = .ok (.iload 8, 2) by decide +kernel) rfl ?_
        refine Ev_if_eq (tgt := 105) hq_190 (show decode prog_7_method_64_code 97 = .ok (.ifCond .eq 8, 3) by decide +kernel) (by decide) (fun _ => ?_) (fun hz => absurd (by decide) hz)
        refine Ev_iload hq_190 (show decode prog_7_method_64_code 105 = .ok (.iload 4, 2) by decide +kernel) rfl ?_
        refine Ev_istore (lo2 := [.ref 57, .int x1, .int x2, .int x3, .int x4, .int x5, .int x6, .int r10, .int 0]) hq_190 (show decode prog_7_method_64_code 107 = .ok (.istore 4, 2) by decide +kernel) (z_le rfl) rfl ?_
        refine Ev_iload hq_190 (show decode prog_7_method_64_code 109 = .ok (.iload 8, 2) by decide +kernel) rfl ?_
        refine Ev_if_eq (tgt := 119) hq_190 (show decode prog_7_method_64_code 111 = .ok (.ifCond .eq 8, 3) by decide +kernel) (by decide) (fun _ => ?_) (fun hz => absurd (by decide) hz)
        refine Ev_iload hq_190 (show decode prog_7_method_64_code 119 = .ok (.iload 5, 2) by decide +kernel) rfl ?_
        refine Ev_istore (lo2 := [.ref 57, .int x1, .int x2, .int x3, .int x4, .int x5, .int x6, .int r10, .int 0]) hq_190 (show decode prog_7_method_64_code 121 = .ok (.istore 5, 2) by decide +kernel) (z_le rfl) rfl ?_
        obtain ⟨y14, ey14⟩ : ∃ y14 : Int32, y14 = x6 + 10 := ⟨_, rfl⟩
        have k := k y14 ey14
        refine Ev_iinc (v := y14) (lo2 := [.ref 57, .int x1, .int x2, .int x3, .int x4, .int x5, .int y14, .int r10, .int 0]) hq_190 (show decode prog_7_method_64_code 123 = .ok (.iinc 6 10, 3) by decide +kernel) rfl (by rw [ey14]; rfl) rfl ?_
        refine Ev_goto (tgt := 48) hq_190 (show decode prog_7_method_64_code 126 = .ok (.goto (-78), 3) by decide +kernel) (by decide) ?_
        exact k
      · have k := k.2 c13
        refine Ev_iconst (v := 1) hq_190 (show decode prog_7_method_64_code 88 = .ok (.iconst 1, 1) by decide +kernel) (by decide) ?_
        refine Ev_goto (tgt := 93) hq_190 (show decode prog_7_method_64_code 89 = .ok (.goto 4, 3) by decide +kernel) (by decide) ?_
        refine Ev_istore (lo2 := [.ref 57, .int x1, .int x2, .int x3, .int x4, .int x5, .int x6, .int r10, .int 1]) hq_190 (show decode prog_7_method_64_code 93 = .ok (.istore 8, 2) by decide +kernel) (z_le rfl) rfl ?_
        refine Ev_iload hq_190 (show decode prog_7_method_64_code 95 = .ok (.iload 8, 2) by decide +kernel) rfl ?_
        refine Ev_if_eq (tgt := 105) hq_190 (show decode prog_7_method_64_code 97 = .ok (.ifCond .eq 8, 3) by decide +kernel) (by decide) (fun hz => absurd hz (by decide)) (fun _ => ?_)
        refine Ev_iload hq_190 (show decode prog_7_method_64_code 100 = .ok (.iload 6, 2) by decide +kernel) rfl ?_
        refine Ev_goto (tgt := 107) hq_190 (show decode prog_7_method_64_code 102 = .ok (.goto 5, 3) by decide +kernel) (by decide) ?_
        refine Ev_istore (lo2 := [.ref 57, .int x1, .int x2, .int x3, .int x6, .int x5, .int x6, .int r10, .int 1]) hq_190 (show decode prog_7_method_64_code 107 = .ok (.istore 4, 2) by decide +kernel) (z_le rfl) rfl ?_
        refine Ev_iload hq_190 (show decode prog_7_method_64_code 109 = .ok (.iload 8, 2) by decide +kernel) rfl ?_
        refine Ev_if_eq (tgt := 119) hq_190 (show decode prog_7_method_64_code 111 = .ok (.ifCond .eq 8, 3) by decide +kernel) (by decide) (fun hz => absurd hz (by decide)) (fun _ => ?_)
        refine Ev_iload hq_190 (show decode prog_7_method_64_code 114 = .ok (.iload 7, 2) by decide +kernel) rfl ?_
        refine Ev_goto (tgt := 121) hq_190 (show decode prog_7_method_64_code 116 = .ok (.goto 5, 3) by decide +kernel) (by decide) ?_
        refine Ev_istore (lo2 := [.ref 57, .int x1, .int x2, .int x3, .int x6, .int r10, .int x6, .int r10, .int 1]) hq_190 (show decode prog_7_method_64_code 121 = .ok (.istore 5, 2) by decide +kernel) (z_le rfl) rfl ?_
        obtain ⟨y15, ey15⟩ : ∃ y15 : Int32, y15 = x6 + 10 := ⟨_, rfl⟩
        have k := k y15 ey15
        refine Ev_iinc (v := y15) (lo2 := [.ref 57, .int x1, .int x2, .int x3, .int x6, .int r10, .int y15, .int r10, .int 1]) hq_190 (show decode prog_7_method_64_code 123 = .ok (.iinc 6 10, 3) by decide +kernel) rfl (by rw [ey15]; rfl) rfl ?_
        refine Ev_goto (tgt := 48) hq_190 (show decode prog_7_method_64_code 126 = .ok (.goto (-78), 3) by decide +kernel) (by decide) ?_
        exact k
set_option maxRecDepth 20000 in
theorem wp_Z_sheetWrong {X : Nat × (Nat → Int32)} {d : Nat} {G : zG} {I : zI} {res : Option Value × zG × zI} (x1 : Int32) (hS : SG G) 
    (k : (¬ (f_Z_in x1 0 3) = 0 → z_inr x1 4 ∧ ((¬ (I 65 x1.toNatClampNeg) = (-1) → z_inr x1 4 ∧ (((I 66 x1.toNatClampNeg) ≤ 30 → res = (some (.int 0), G, I)) ∧ (¬ (I 66 x1.toNatClampNeg) ≤ 30 → res = (some (.int (-2)), G, I)))) ∧ ((I 65 x1.toNatClampNeg) = (-1) → res = (some (.int (-11)), G, I)))) ∧ ((f_Z_in x1 0 3) = 0 → res = (some (.int (-2)), G, I))) :
    Ev X (d + 1) 193 0 [.ref 57, .int x1] [] G I res := by
  refine Ev_iload_n hq_193 (show decode prog_7_method_65_code 0 = .ok (.iload_n 1, 1) by decide +kernel) rfl ?_
  refine Ev_iconst (v := 0) hq_193 (show decode prog_7_method_65_code 1 = .ok (.iconst 0, 1) by decide +kernel) (by decide) ?_
  refine Ev_iconst (v := 3) hq_193 (show decode prog_7_method_65_code 2 = .ok (.iconst 3, 1) by decide +kernel) (by decide) ?_
  refine Ev_stat (as := [.int x1, .int 0, .int 3]) hq_193 (show decode prog_7_method_65_code 3 = .ok (.invokestatic 90, 3) by decide +kernel) rfl (Or.inl rfl) hq_131 rfl (z_le rfl) (c_Z_in x1 0 3) ?_
  refine Ev_if_ne (tgt := 12) hq_193 (show decode prog_7_method_65_code 6 = .ok (.ifCond .ne 6, 3) by decide +kernel) (by decide) (fun c1 => ?_) (fun c1 => ?_)
  · have k := k.1 c1
    refine Ev_aload_n hq_193 (show decode prog_7_method_65_code 12 = .ok (.aload_n 0, 1) by decide +kernel) rfl ?_
    refine Ev_getR hq_193 (show decode prog_7_method_65_code 13 = .ok (.getfield 31, 3) by decide +kernel) rfl (SGn hS (by decide)) (SGk hS rfl) (by decide) rfl (SGr hS rfl) ?_
    refine Ev_iload_n hq_193 (show decode prog_7_method_65_code 16 = .ok (.iload_n 1, 1) by decide +kernel) rfl ?_
    obtain ⟨h2, k⟩ := k
    refine Ev_iald hq_193 (show decode prog_7_method_65_code 17 = .ok (.iaload, 1) by decide +kernel) (SGn hS (by decide)) (SGk hS rfl) (SGi hS rfl h2) ?_
    refine Ev_iconst (v := (-1)) hq_193 (show decode prog_7_method_65_code 18 = .ok (.iconst (-1), 1) by decide +kernel) (by decide) ?_
    refine Ev_icmp_ne (tgt := 25) hq_193 (show decode prog_7_method_65_code 19 = .ok (.if_icmp .ne 6, 3) by decide +kernel) (by decide) (fun c3 => ?_) (fun c3 => ?_)
    · have k := k.1 c3
      refine Ev_aload_n hq_193 (show decode prog_7_method_65_code 25 = .ok (.aload_n 0, 1) by decide +kernel) rfl ?_
      refine Ev_getR hq_193 (show decode prog_7_method_65_code 26 = .ok (.getfield 34, 3) by decide +kernel) rfl (SGn hS (by decide)) (SGk hS rfl) (by decide) rfl (SGr hS rfl) ?_
      refine Ev_iload_n hq_193 (show decode prog_7_method_65_code 29 = .ok (.iload_n 1, 1) by decide +kernel) rfl ?_
      obtain ⟨h4, k⟩ := k
      refine Ev_iald hq_193 (show decode prog_7_method_65_code 30 = .ok (.iaload, 1) by decide +kernel) (SGn hS (by decide)) (SGk hS rfl) (SGi hS rfl h4) ?_
      refine Ev_bipush (v := 30) hq_193 (show decode prog_7_method_65_code 31 = .ok (.bipush 30, 2) by decide +kernel) (by decide) ?_
      refine Ev_icmp_le (tgt := 41) hq_193 (show decode prog_7_method_65_code 33 = .ok (.if_icmp .le 8, 3) by decide +kernel) (by decide) (fun c5 => ?_) (fun c5 => ?_)
      · have k := k.1 c5
        refine Ev_iconst (v := 0) hq_193 (show decode prog_7_method_65_code 41 = .ok (.iconst 0, 1) by decide +kernel) (by decide) ?_
        exact Ev_iret hq_193 (show decode prog_7_method_65_code 42 = .ok (.ireturn, 1) by decide +kernel) rfl k
      · have k := k.2 c5
        refine Ev_bipush (v := (-2)) hq_193 (show decode prog_7_method_65_code 36 = .ok (.bipush (-2), 2) by decide +kernel) (by decide) ?_
        refine Ev_goto (tgt := 42) hq_193 (show decode prog_7_method_65_code 38 = .ok (.goto 4, 3) by decide +kernel) (by decide) ?_
        exact Ev_iret hq_193 (show decode prog_7_method_65_code 42 = .ok (.ireturn, 1) by decide +kernel) rfl k
    · have k := k.2 (Classical.not_not.mp c3)
      refine Ev_bipush (v := (-11)) hq_193 (show decode prog_7_method_65_code 22 = .ok (.bipush (-11), 2) by decide +kernel) (by decide) ?_
      exact Ev_iret hq_193 (show decode prog_7_method_65_code 24 = .ok (.ireturn, 1) by decide +kernel) rfl k
  · have k := k.2 (Classical.not_not.mp c1)
    refine Ev_bipush (v := (-2)) hq_193 (show decode prog_7_method_65_code 9 = .ok (.bipush (-2), 2) by decide +kernel) (by decide) ?_
    exact Ev_iret hq_193 (show decode prog_7_method_65_code 11 = .ok (.ireturn, 1) by decide +kernel) rfl k
set_option maxRecDepth 20000 in
theorem wp_Z_toldWrong {X : Nat × (Nat → Int32)} {d : Nat} {G : zG} {I : zI} {res : Option Value × zG × zI} (x1 : Int32) (x2 : Int32) (hd : 1 ≤ d) (hS : SG G) 
    (k : ∃ (r3 : Int32) (I1 : zI), Cv X d 193 [.ref 57, .int x1] G I (some (.int r3), G, I1) ∧ ((r3 = 0 → ((f_Z_isShower I1 x2) = 0 → res = (some (.int (-5)), G, I1)) ∧ (¬ (f_Z_isShower I1 x2) = 0 → res = (some (.int 0), G, I1))) ∧ (¬ r3 = 0 → res = (some (.int r3), G, I1)))) :
    Ev X (d + 1) 192 0 [.ref 57, .int x1, .int x2, zU] [] G I res := by
  refine Ev_aload_n hq_192 (show decode prog_7_method_66_code 0 = .ok (.aload_n 0, 1) by decide +kernel) rfl ?_
  refine Ev_iload_n hq_192 (show decode prog_7_method_66_code 1 = .ok (.iload_n 1, 1) by decide +kernel) rfl ?_
  obtain ⟨r3, I1, h2, k⟩ := k
  refine Ev_virt (as := [.int x1]) hq_192 (show decode prog_7_method_66_code 2 = .ok (.invokevirtual 254, 3) by decide +kernel) rfl hq_193 rfl (z_le rfl) ⟨(SGn hS (by decide)), (SGk hS rfl), by decide⟩ h2 ?_
  refine Ev_istore_n (lo2 := [.ref 57, .int x1, .int x2, .int r3]) hq_192 (show decode prog_7_method_66_code 5 = .ok (.istore_n 3, 1) by decide +kernel) (z_le rfl) rfl ?_
  refine Ev_iload_n hq_192 (show decode prog_7_method_66_code 6 = .ok (.iload_n 3, 1) by decide +kernel) rfl ?_
  refine Ev_if_eq (tgt := 14) hq_192 (show decode prog_7_method_66_code 7 = .ok (.ifCond .eq 7, 3) by decide +kernel) (by decide) (fun c4 => ?_) (fun c4 => ?_)
  · have k := k.1 c4
    refine Ev_aload_n hq_192 (show decode prog_7_method_66_code 14 = .ok (.aload_n 0, 1) by decide +kernel) rfl ?_
    refine Ev_iload_n hq_192 (show decode prog_7_method_66_code 15 = .ok (.iload_n 2, 1) by decide +kernel) rfl ?_
    refine Ev_virt (as := [.int x2]) hq_192 (show decode prog_7_method_66_code 16 = .ok (.invokevirtual 176, 3) by decide +kernel) rfl hq_148 rfl (z_le rfl) ⟨(SGn hS (by decide)), (SGk hS rfl), by decide⟩ (c_Z_isShower (by omega) hS x2) ?_
    refine Ev_if_eq (tgt := 26) hq_192 (show decode prog_7_method_66_code 19 = .ok (.ifCond .eq 7, 3) by decide +kernel) (by decide) (fun c5 => ?_) (fun c5 => ?_)
    · have k := k.1 c5
      refine Ev_bipush (v := (-5)) hq_192 (show decode prog_7_method_66_code 26 = .ok (.bipush (-5), 2) by decide +kernel) (by decide) ?_
      exact Ev_iret hq_192 (show decode prog_7_method_66_code 28 = .ok (.ireturn, 1) by decide +kernel) rfl k
    · have k := k.2 c5
      refine Ev_iconst (v := 0) hq_192 (show decode prog_7_method_66_code 22 = .ok (.iconst 0, 1) by decide +kernel) (by decide) ?_
      refine Ev_goto (tgt := 28) hq_192 (show decode prog_7_method_66_code 23 = .ok (.goto 5, 3) by decide +kernel) (by decide) ?_
      exact Ev_iret hq_192 (show decode prog_7_method_66_code 28 = .ok (.ireturn, 1) by decide +kernel) rfl k
  · have k := k.2 c4
    refine Ev_iload_n hq_192 (show decode prog_7_method_66_code 10 = .ok (.iload_n 3, 1) by decide +kernel) rfl ?_
    refine Ev_goto (tgt := 28) hq_192 (show decode prog_7_method_66_code 11 = .ok (.goto 17, 3) by decide +kernel) (by decide) ?_
    exact Ev_iret hq_192 (show decode prog_7_method_66_code 28 = .ok (.ireturn, 1) by decide +kernel) rfl k
set_option maxRecDepth 20000 in
theorem wp_Z_unlike {X : Nat × (Nat → Int32)} {d : Nat} {G : zG} {I : zI} {res : Option Value × zG × zI} (x1 : Int32) (x2 : Int32) (hS : SG G) 
    (k : ∃ (I1 : zI), Cv X d 159 [.ref 57, .int 30] G I (none, G, I1) ∧ (Ev X (d + 1) 194 8 [.ref 57, .int x1, .int x2, .int 0] [] G I1 res)) :
    Ev X (d + 1) 194 0 [.ref 57, .int x1, .int x2, zU] [] G I res := by
  refine Ev_aload_n hq_194 (show decode prog_7_method_67_code 0 = .ok (.aload_n 0, 1) by decide +kernel) rfl ?_
  refine Ev_bipush (v := 30) hq_194 (show decode prog_7_method_67_code 1 = .ok (.bipush 30, 2) by decide +kernel) (by decide) ?_
  obtain ⟨I1, h2, k⟩ := k
  refine Ev_virt (as := [.int 30]) hq_194 (show decode prog_7_method_67_code 3 = .ok (.invokevirtual 205, 3) by decide +kernel) rfl hq_159 rfl (z_le rfl) ⟨(SGn hS (by decide)), (SGk hS rfl), by decide⟩ h2 ?_
  refine Ev_iconst (v := 0) hq_194 (show decode prog_7_method_67_code 6 = .ok (.iconst 0, 1) by decide +kernel) (by decide) ?_
  refine Ev_istore_n (lo2 := [.ref 57, .int x1, .int x2, .int 0]) hq_194 (show decode prog_7_method_67_code 7 = .ok (.istore_n 3, 1) by decide +kernel) (z_le rfl) rfl ?_
  exact k
set_option maxRecDepth 20000 in
theorem wp_Z_unlike_8 {X : Nat × (Nat → Int32)} {d : Nat} {G : zG} {I : zI} {res : Option Value × zG × zI} (x1 : Int32) (x2 : Int32) (x3 : Int32) (hS : SG G) 
    (k : z_inr x1 4 ∧ (((I 66 x1.toNatClampNeg) ≤ x3 → res = (some (.int (-1)), G, I)) ∧ (¬ (I 66 x1.toNatClampNeg) ≤ x3 → z_inr ((40 * x1) + x3) 160 ∧ (z_inr ((4 * x3) + x2) 120 ∧ (((I 67 ((40 * x1) + x3).toNatClampNeg) = (I 74 ((4 * x3) + x2).toNatClampNeg) → ∀ y6 : Int32, y6 = x3 + 1 → Ev X d 194 8 [.ref 57, .int x1, .int x2, .int y6] [] G I res) ∧ (¬ (I 67 ((40 * x1) + x3).toNatClampNeg) = (I 74 ((4 * x3) + x2).toNatClampNeg) → res = (some (.int x3), G, I))))))) :
    Ev X d 194 8 [.ref 57, .int x1, .int x2, .int x3] [] G I res := by
  refine Ev_iload_n hq_194 (show decode prog_7_method_67_code 8 = .ok (.iload_n 3, 1) by decide +kernel) rfl ?_
  refine Ev_aload_n hq_194 (show decode prog_7_method_67_code 9 = .ok (.aload_n 0, 1) by decide +kernel) rfl ?_
  refine Ev_getR hq_194 (show decode prog_7_method_67_code 10 = .ok (.getfield 34, 3) by decide +kernel) rfl (SGn hS (by decide)) (SGk hS rfl) (by decide) rfl (SGr hS rfl) ?_
  refine Ev_iload_n hq_194 (show decode prog_7_method_67_code 13 = .ok (.iload_n 1, 1) by decide +kernel) rfl ?_
  obtain ⟨h1, k⟩ := k
  refine Ev_iald hq_194 (show decode prog_7_method_67_code 14 = .ok (.iaload, 1) by decide +kernel) (SGn hS (by decide)) (SGk hS rfl) (SGi hS rfl h1) ?_
  refine Ev_icmp_ge (tgt := 50) hq_194 (show decode prog_7_method_67_code 15 = .ok (.if_icmp .ge 35, 3) by decide +kernel) (by decide) (fun c2 => ?_) (fun c2 => ?_)
  · have k := k.1 c2
    refine Ev_iconst (v := (-1)) hq_194 (show decode prog_7_method_67_code 50 = .ok (.iconst (-1), 1) by decide +kernel) (by decide) ?_
    exact Ev_iret hq_194 (show decode prog_7_method_67_code 51 = .ok (.ireturn, 1) by decide +kernel) rfl k
  · have k := k.2 c2
    refine Ev_aload_n hq_194 (show decode prog_7_method_67_code 18 = .ok (.aload_n 0, 1) by decide +kernel) rfl ?_
    refine Ev_getR hq_194 (show decode prog_7_method_67_code 19 = .ok (.getfield 37, 3) by decide +kernel) rfl (SGn hS (by decide)) (SGk hS rfl) (by decide) rfl (SGr hS rfl) ?_
    refine Ev_bipush (v := 40) hq_194 (show decode prog_7_method_67_code 22 = .ok (.bipush 40, 2) by decide +kernel) (by decide) ?_
    refine Ev_iload_n hq_194 (show decode prog_7_method_67_code 24 = .ok (.iload_n 1, 1) by decide +kernel) rfl ?_
    refine Ev_imul hq_194 (show decode prog_7_method_67_code 25 = .ok (.imul, 1) by decide +kernel) ?_
    refine Ev_iload_n hq_194 (show decode prog_7_method_67_code 26 = .ok (.iload_n 3, 1) by decide +kernel) rfl ?_
    refine Ev_iadd hq_194 (show decode prog_7_method_67_code 27 = .ok (.iadd, 1) by decide +kernel) ?_
    obtain ⟨h3, k⟩ := k
    refine Ev_iald hq_194 (show decode prog_7_method_67_code 28 = .ok (.iaload, 1) by decide +kernel) (SGn hS (by decide)) (SGk hS rfl) (SGi hS rfl h3) ?_
    refine Ev_aload_n hq_194 (show decode prog_7_method_67_code 29 = .ok (.aload_n 0, 1) by decide +kernel) rfl ?_
    refine Ev_getR hq_194 (show decode prog_7_method_67_code 30 = .ok (.getfield 58, 3) by decide +kernel) rfl (SGn hS (by decide)) (SGk hS rfl) (by decide) rfl (SGr hS rfl) ?_
    refine Ev_iconst (v := 4) hq_194 (show decode prog_7_method_67_code 33 = .ok (.iconst 4, 1) by decide +kernel) (by decide) ?_
    refine Ev_iload_n hq_194 (show decode prog_7_method_67_code 34 = .ok (.iload_n 3, 1) by decide +kernel) rfl ?_
    refine Ev_imul hq_194 (show decode prog_7_method_67_code 35 = .ok (.imul, 1) by decide +kernel) ?_
    refine Ev_iload_n hq_194 (show decode prog_7_method_67_code 36 = .ok (.iload_n 2, 1) by decide +kernel) rfl ?_
    refine Ev_iadd hq_194 (show decode prog_7_method_67_code 37 = .ok (.iadd, 1) by decide +kernel) ?_
    obtain ⟨h4, k⟩ := k
    refine Ev_iald hq_194 (show decode prog_7_method_67_code 38 = .ok (.iaload, 1) by decide +kernel) (SGn hS (by decide)) (SGk hS rfl) (SGi hS rfl h4) ?_
    refine Ev_icmp_eq (tgt := 44) hq_194 (show decode prog_7_method_67_code 39 = .ok (.if_icmp .eq 5, 3) by decide +kernel) (by decide) (fun c5 => ?_) (fun c5 => ?_)
    · have k := k.1 c5
      obtain ⟨y6, ey6⟩ : ∃ y6 : Int32, y6 = x3 + 1 := ⟨_, rfl⟩
      have k := k y6 ey6
      refine Ev_iinc (v := y6) (lo2 := [.ref 57, .int x1, .int x2, .int y6]) hq_194 (show decode prog_7_method_67_code 44 = .ok (.iinc 3 1, 3) by decide +kernel) rfl (by rw [ey6]; rfl) rfl ?_
      refine Ev_goto (tgt := 8) hq_194 (show decode prog_7_method_67_code 47 = .ok (.goto (-39), 3) by decide +kernel) (by decide) ?_
      exact k
    · have k := k.2 c5
      refine Ev_iload_n hq_194 (show decode prog_7_method_67_code 42 = .ok (.iload_n 3, 1) by decide +kernel) rfl ?_
      exact Ev_iret hq_194 (show decode prog_7_method_67_code 43 = .ok (.ireturn, 1) by decide +kernel) rfl k
set_option maxRecDepth 20000 in
theorem wp_Z_judge {X : Nat × (Nat → Int32)} {d : Nat} {G : zG} {I : zI} {res : Option Value × zG × zI} (x1 : Int32) (x2 : Int32) (hS : SG G) 
    (k : ∃ (r3 : Int32) (I1 : zI), Cv X d 192 [.ref 57, .int x1, .int x2] G I (some (.int r3), G, I1) ∧ ((¬ r3 = 0 → res = (some (.int r3), G, I1)) ∧ (r3 = 0 → ∃ (r7 : Int32) (I5 : zI), Cv X d 194 [.ref 57, .int x1, .int x2] G I1 (some (.int r7), G, I5) ∧ (res = (some (.int r7), G, I5))))) :
    Ev X (d + 1) 191 0 [.ref 57, .int x1, .int x2, zU] [] G I res := by
  refine Ev_aload_n hq_191 (show decode prog_7_method_68_code 0 = .ok (.aload_n 0, 1) by decide +kernel) rfl ?_
  refine Ev_iload_n hq_191 (show decode prog_7_method_68_code 1 = .ok (.iload_n 1, 1) by decide +kernel) rfl ?_
  refine Ev_iload_n hq_191 (show decode prog_7_method_68_code 2 = .ok (.iload_n 2, 1) by decide +kernel) rfl ?_
  obtain ⟨r3, I1, h2, k⟩ := k
  refine Ev_virt (as := [.int x1, .int x2]) hq_191 (show decode prog_7_method_68_code 3 = .ok (.invokevirtual 257, 3) by decide +kernel) rfl hq_192 rfl (z_le rfl) ⟨(SGn hS (by decide)), (SGk hS rfl), by decide⟩ h2 ?_
  refine Ev_istore_n (lo2 := [.ref 57, .int x1, .int x2, .int r3]) hq_191 (show decode prog_7_method_68_code 6 = .ok (.istore_n 3, 1) by decide +kernel) (z_le rfl) rfl ?_
  refine Ev_iload_n hq_191 (show decode prog_7_method_68_code 7 = .ok (.iload_n 3, 1) by decide +kernel) rfl ?_
  refine Ev_if_ne (tgt := 20) hq_191 (show decode prog_7_method_68_code 8 = .ok (.ifCond .ne 12, 3) by decide +kernel) (by decide) (fun c4 => ?_) (fun c4 => ?_)
  · have k := k.1 c4
    refine Ev_iload_n hq_191 (show decode prog_7_method_68_code 20 = .ok (.iload_n 3, 1) by decide +kernel) rfl ?_
    exact Ev_iret hq_191 (show decode prog_7_method_68_code 21 = .ok (.ireturn, 1) by decide +kernel) rfl k
  · have k := k.2 (Classical.not_not.mp c4)
    refine Ev_aload_n hq_191 (show decode prog_7_method_68_code 11 = .ok (.aload_n 0, 1) by decide +kernel) rfl ?_
    refine Ev_iload_n hq_191 (show decode prog_7_method_68_code 12 = .ok (.iload_n 1, 1) by decide +kernel) rfl ?_
    refine Ev_iload_n hq_191 (show decode prog_7_method_68_code 13 = .ok (.iload_n 2, 1) by decide +kernel) rfl ?_
    obtain ⟨r7, I5, h6, k⟩ := k
    refine Ev_virt (as := [.int x1, .int x2]) hq_191 (show decode prog_7_method_68_code 14 = .ok (.invokevirtual 260, 3) by decide +kernel) rfl hq_194 rfl (z_le rfl) ⟨(SGn hS (by decide)), (SGk hS rfl), by decide⟩ h6 ?_
    refine Ev_goto (tgt := 21) hq_191 (show decode prog_7_method_68_code 17 = .ok (.goto 4, 3) by decide +kernel) (by decide) ?_
    exact Ev_iret hq_191 (show decode prog_7_method_68_code 21 = .ok (.ireturn, 1) by decide +kernel) rfl k
set_option maxRecDepth 20000 in
theorem wp_Z_whose {X : Nat × (Nat → Int32)} {d : Nat} {G : zG} {I : zI} {res : Option Value × zG × zI} (x1 : Int32) (hS : SG G) 
    (k : ∃ (r3 : Int32) (I1 : zI), Cv X d 193 [.ref 57, .int x1] G I (some (.int r3), G, I1) ∧ ((r3 = 0 → Ev X (d + 1) 195 17 [.ref 57, .int x1, .int r3, .int 0, .int 0] [] G I1 res) ∧ (¬ r3 = 0 → res = (some (.int r3), G, I1)))) :
    Ev X (d + 1) 195 0 [.ref 57, .int x1, zU, zU, zU] [] G I res := by
  refine Ev_aload_n hq_195 (show decode prog_7_method_69_code 0 = .ok (.aload_n 0, 1) by decide +kernel) rfl ?_
  refine Ev_iload_n hq_195 (show decode prog_7_method_69_code 1 = .ok (.iload_n 1, 1) by decide +kernel) rfl ?_
  obtain ⟨r3, I1, h2, k⟩ := k
  refine Ev_virt (as := [.int x1]) hq_195 (show decode prog_7_method_69_code 2 = .ok (.invokevirtual 254, 3) by decide +kernel) rfl hq_193 rfl (z_le rfl) ⟨(SGn hS (by decide)), (SGk hS rfl), by decide⟩ h2 ?_
  refine Ev_istore_n (lo2 := [.ref 57, .int x1, .int r3, zU, zU]) hq_195 (show decode prog_7_method_69_code 5 = .ok (.istore_n 2, 1) by decide +kernel) (z_le rfl) rfl ?_
  refine Ev_iload_n hq_195 (show decode prog_7_method_69_code 6 = .ok (.iload_n 2, 1) by decide +kernel) rfl ?_
  refine Ev_if_eq (tgt := 12) hq_195 (show decode prog_7_method_69_code 7 = .ok (.ifCond .eq 5, 3) by decide +kernel) (by decide) (fun c4 => ?_) (fun c4 => ?_)
  · have k := k.1 c4
    refine Ev_iconst (v := 0) hq_195 (show decode prog_7_method_69_code 12 = .ok (.iconst 0, 1) by decide +kernel) (by decide) ?_
    refine Ev_istore_n (lo2 := [.ref 57, .int x1, .int r3, .int 0, zU]) hq_195 (show decode prog_7_method_69_code 13 = .ok (.istore_n 3, 1) by decide +kernel) (z_le rfl) rfl ?_
    refine Ev_iconst (v := 0) hq_195 (show decode prog_7_method_69_code 14 = .ok (.iconst 0, 1) by decide +kernel) (by decide) ?_
    refine Ev_istore (lo2 := [.ref 57, .int x1, .int r3, .int 0, .int 0]) hq_195 (show decode prog_7_method_69_code 15 = .ok (.istore 4, 2) by decide +kernel) (z_le rfl) rfl ?_
    exact k
  · have k := k.2 c4
    refine Ev_iload_n hq_195 (show decode prog_7_method_69_code 10 = .ok (.iload_n 2, 1) by decide +kernel) rfl ?_
    exact Ev_iret hq_195 (show decode prog_7_method_69_code 11 = .ok (.ireturn, 1) by decide +kernel) rfl k
set_option maxRecDepth 20000 in
theorem wp_Z_whose_17 {X : Nat × (Nat → Int32)} {d : Nat} {G : zG} {I : zI} {res : Option Value × zG × zI} (x1 : Int32) (x2 : Int32) (x3 : Int32) (x4 : Int32) (hS : SG G) 
    (k : ((I 57 0) ≤ x4 → res = (some (.int x3), G, I)) ∧ (¬ (I 57 0) ≤ x4 → ∃ (r4 : Int32) (I2 : zI), Cv X d 194 [.ref 57, .int x1, .int x4] G I (some (.int r4), G, I2) ∧ ((¬ r4 = (-1) → ∀ y6 : Int32, y6 = (x3 ||| 0) → ∀ y7 : Int32, y7 = x4 + 1 → Ev X (d + 1) 195 17 [.ref 57, .int x1, .int x2, .int y6, .int y7] [] G I2 res) ∧ (r4 = (-1) → ∀ y8 : Int32, y8 = (x3 ||| (1 <<< (x4 &&& 31))) → ∀ y9 : Int32, y9 = x4 + 1 → Ev X (d + 1) 195 17 [.ref 57, .int x1, .int x2, .int y8, .int y9] [] G I2 res)))) :
    Ev X (d + 1) 195 17 [.ref 57, .int x1, .int x2, .int x3, .int x4] [] G I res := by
  refine Ev_iload hq_195 (show decode prog_7_method_69_code 17 = .ok (.iload 4, 2) by decide +kernel) rfl ?_
  refine Ev_aload_n hq_195 (show decode prog_7_method_69_code 19 = .ok (.aload_n 0, 1) by decide +kernel) rfl ?_
  refine Ev_getI hq_195 (show decode prog_7_method_69_code 20 = .ok (.getfield 87, 3) by decide +kernel) rfl (SGn hS (by decide)) (SGk hS rfl) (by decide) rfl ?_
  refine Ev_icmp_ge (tgt := 54) hq_195 (show decode prog_7_method_69_code 23 = .ok (.if_icmp .ge 31, 3) by decide +kernel) (by decide) (fun c1 => ?_) (fun c1 => ?_)
  · have k := k.1 c1
    refine Ev_iload_n hq_195 (show decode prog_7_method_69_code 54 = .ok (.iload_n 3, 1) by decide +kernel) rfl ?_
    exact Ev_iret hq_195 (show decode prog_7_method_69_code 55 = .ok (.ireturn, 1) by decide +kernel) rfl k
  · have k := k.2 c1
    refine Ev_iload_n hq_195 (show decode prog_7_method_69_code 26 = .ok (.iload_n 3, 1) by decide +kernel) rfl ?_
    refine Ev_aload_n hq_195 (show decode prog_7_method_69_code 27 = .ok (.aload_n 0, 1) by decide +kernel) rfl ?_
    refine Ev_iload_n hq_195 (show decode prog_7_method_69_code 28 = .ok (.iload_n 1, 1) by decide +kernel) rfl ?_
    refine Ev_iload hq_195 (show decode prog_7_method_69_code 29 = .ok (.iload 4, 2) by decide +kernel) rfl ?_
    obtain ⟨r4, I2, h3, k⟩ := k
    refine Ev_virt (as := [.int x1, .int x4]) hq_195 (show decode prog_7_method_69_code 31 = .ok (.invokevirtual 260, 3) by decide +kernel) rfl hq_194 rfl (z_le rfl) ⟨(SGn hS (by decide)), (SGk hS rfl), by decide⟩ h3 ?_
    refine Ev_iconst (v := (-1)) hq_195 (show decode prog_7_method_69_code 34 = .ok (.iconst (-1), 1) by decide +kernel) (by decide) ?_
    refine Ev_icmp_ne (tgt := 45) hq_195 (show decode prog_7_method_69_code 35 = .ok (.if_icmp .ne 10, 3) by decide +kernel) (by decide) (fun c5 => ?_) (fun c5 => ?_)
    · have k := k.1 c5
      refine Ev_iconst (v := 0) hq_195 (show decode prog_7_method_69_code 45 = .ok (.iconst 0, 1) by decide +kernel) (by decide) ?_
      refine Ev_ior hq_195 (show decode prog_7_method_69_code 46 = .ok (.ior, 1) by decide +kernel) ?_
      obtain ⟨y6, ey6⟩ : ∃ y6 : Int32, y6 = (x3 ||| 0) := ⟨_, rfl⟩
      have k := k y6 ey6
      rw [← ey6]
      refine Ev_istore_n (lo2 := [.ref 57, .int x1, .int x2, .int y6, .int x4]) hq_195 (show decode prog_7_method_69_code 47 = .ok (.istore_n 3, 1) by decide +kernel) (z_le rfl) rfl ?_
      obtain ⟨y7, ey7⟩ : ∃ y7 : Int32, y7 = x4 + 1 := ⟨_, rfl⟩
      have k := k y7 ey7
      refine Ev_iinc (v := y7) (lo2 := [.ref 57, .int x1, .int x2, .int y6, .int y7]) hq_195 (show decode prog_7_method_69_code 48 = .ok (.iinc 4 1, 3) by decide +kernel) rfl (by rw [ey7]; rfl) rfl ?_
      refine Ev_goto (tgt := 17) hq_195 (show decode prog_7_method_69_code 51 = .ok (.goto (-34), 3) by decide +kernel) (by decide) ?_
      exact k
    · have k := k.2 (Classical.not_not.mp c5)
      refine Ev_iconst (v := 1) hq_195 (show decode prog_7_method_69_code 38 = .ok (.iconst 1, 1) by decide +kernel) (by decide) ?_
      refine Ev_iload hq_195 (show decode prog_7_method_69_code 39 = .ok (.iload 4, 2) by decide +kernel) rfl ?_
      refine Ev_ishl hq_195 (show decode prog_7_method_69_code 41 = .ok (.ishl, 1) by decide +kernel) ?_
      refine Ev_goto (tgt := 46) hq_195 (show decode prog_7_method_69_code 42 = .ok (.goto 4, 3) by decide +kernel) (by decide) ?_
      refine Ev_ior hq_195 (show decode prog_7_method_69_code 46 = .ok (.ior, 1) by decide +kernel) ?_
      obtain ⟨y8, ey8⟩ : ∃ y8 : Int32, y8 = (x3 ||| (1 <<< (x4 &&& 31))) := ⟨_, rfl⟩
      have k := k y8 ey8
      rw [← ey8]
      refine Ev_istore_n (lo2 := [.ref 57, .int x1, .int x2, .int y8, .int x4]) hq_195 (show decode prog_7_method_69_code 47 = .ok (.istore_n 3, 1) by decide +kernel) (z_le rfl) rfl ?_
      obtain ⟨y9, ey9⟩ : ∃ y9 : Int32, y9 = x4 + 1 := ⟨_, rfl⟩
      have k := k y9 ey9
      refine Ev_iinc (v := y9) (lo2 := [.ref 57, .int x1, .int x2, .int y8, .int y9]) hq_195 (show decode prog_7_method_69_code 48 = .ok (.iinc 4 1, 3) by decide +kernel) rfl (by rw [ey9]; rfl) rfl ?_
      refine Ev_goto (tgt := 17) hq_195 (show decode prog_7_method_69_code 51 = .ok (.goto (-34), 3) by decide +kernel) (by decide) ?_
      exact k
