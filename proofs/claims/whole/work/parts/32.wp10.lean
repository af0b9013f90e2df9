set_option maxRecDepth 20000 in
theorem wp_Z_fits {X : Nat × (Nat → Int32)} {d : Nat} {G : zG} {I : zI} {res : Option Value × zG × zI} (x1 : Int32) (x2 : Int32) (x3 : Int32) (hS : SG G) 
    (k : ∃ (r3 : Int32) (I1 : zI), Cv X d 192 [.ref 57, .int x1, .int x2] G I (some (.int r3), G, I1) ∧ ((r3 = 0 → (¬ (f_Z_in x3 0 1) = 0 → ∀ y6 : Int32, y6 = ((5 * x2) + (3 * x3)) → z_inr y6 20 ∧ (∀ y8 : Int32, y8 = (I1 60 y6.toNatClampNeg) → Ev X (d + 1) 196 52 [.ref 57, .int x1, .int x2, .int x3, .int r3, .int y6, .int y8, .int 0, .int 0] [] G I1 res)) ∧ ((f_Z_in x3 0 1) = 0 → res = (some (.int (-7)), G, I1))) ∧ (¬ r3 = 0 → res = (some (.int r3), G, I1)))) :
    Ev X (d + 1) 196 0 [.ref 57, .int x1, .int x2, .int x3, zU, zU, zU, zU, zU] [] G I res := by
  refine Ev_aload_n hq_196 (show decode prog_7_method_70_code 0 = .ok (.aload_n 0, 1) by decide +kernel) rfl ?_
  refine Ev_iload_n hq_196 (show decode prog_7_method_70_code 1 = .ok (.iload_n 1, 1) by decide +kernel) rfl ?_
  refine Ev_iload_n hq_196 (show decode prog_7_method_70_code 2 = .ok (.iload_n 2, 1) by decide +kernel) rfl ?_
  obtain ⟨r3, I1, h2, k⟩ := k
  refine Ev_virt (as := [.int x1, .int x2]) hq_196 (show decode prog_7_method_70_code 3 = .ok (.invokevirtual 257, 3) by decide +kernel) rfl hq_192 rfl (z_le rfl) ⟨(SGn hS (by decide)), (SGk hS rfl), by decide⟩ h2 ?_
  refine Ev_istore (lo2 := [.ref 57, .int x1, .int x2, .int x3, .int r3, zU, zU, zU, zU]) hq_196 (show decode prog_7_method_70_code 6 = .ok (.istore 4, 2) by decide +kernel) (z_le rfl) rfl ?_
  refine Ev_iload hq_196 (show decode prog_7_method_70_code 8 = .ok (.iload 4, 2) by decide +kernel) rfl ?_
  refine Ev_if_eq (tgt := 16) hq_196 (show decode prog_7_method_70_code 10 = .ok (.ifCond .eq 6, 3) by decide +kernel) (by decide) (fun c4 => ?_) (fun c4 => ?_)
  · have k := k.1 c4
    refine Ev_iload_n hq_196 (show decode prog_7_method_70_code 16 = .ok (.iload_n 3, 1) by decide +kernel) rfl ?_
    refine Ev_iconst (v := 0) hq_196 (show decode prog_7_method_70_code 17 = .ok (.iconst 0, 1) by decide +kernel) (by decide) ?_
    refine Ev_iconst (v := 1) hq_196 (show decode prog_7_method_70_code 18 = .ok (.iconst 1, 1) by decide +kernel) (by decide) ?_
    refine Ev_stat (as := [.int x3, .int 0, .int 1]) hq_196 (show decode prog_7_method_70_code 19 = .ok (.invokestatic 90, 3) by decide +kernel) rfl (Or.inl rfl) hq_131 rfl (z_le rfl) (c_Z_in x3 0 1) ?_
    refine Ev_if_ne (tgt := 28) hq_196 (show decode prog_7_method_70_code 22 = .ok (.ifCond .ne 6, 3) by decide +kernel) (by decide) (fun c5 => ?_) (fun c5 => ?_)
    · have k := k.1 c5
      refine Ev_iconst (v := 5) hq_196 (show decode prog_7_method_70_code 28 = .ok (.iconst 5, 1) by decide +kernel) (by decide) ?_
      refine Ev_iload_n hq_196 (show decode prog_7_method_70_code 29 = .ok (.iload_n 2, 1) by decide +kernel) rfl ?_
      refine Ev_imul hq_196 (show decode prog_7_method_70_code 30 = .ok (.imul, 1) by decide +kernel) ?_
      refine Ev_iconst (v := 3) hq_196 (show decode prog_7_method_70_code 31 = .ok (.iconst 3, 1) by decide +kernel) (by decide) ?_
      refine Ev_iload_n hq_196 (show decode prog_7_method_70_code 32 = .ok (.iload_n 3, 1) by decide +kernel) rfl ?_
      refine Ev_imul hq_196 (show decode prog_7_method_70_code 33 = .ok (.imul, 1) by decide +kernel) ?_
      refine Ev_iadd hq_196 (show decode prog_7_method_70_code 34 = .ok (.iadd, 1) by decide +kernel) ?_
      obtain ⟨y6, ey6⟩ : ∃ y6 : Int32, y6 = ((5 * x2) + (3 * x3)) := ⟨_, rfl⟩
      have k := k y6 ey6
      rw [← ey6]
      refine Ev_istore (lo2 := [.ref 57, .int x1, .int x2, .int x3, .int r3, .int y6, zU, zU, zU]) hq_196 (show decode prog_7_method_70_code 35 = .ok (.istore 5, 2) by decide +kernel) (z_le rfl) rfl ?_
      refine Ev_aload_n hq_196 (show decode prog_7_method_70_code 37 = .ok (.aload_n 0, 1) by decide +kernel) rfl ?_
      refine Ev_getR hq_196 (show decode prog_7_method_70_code 38 = .ok (.getfield 16, 3) by decide +kernel) rfl (SGn hS (by decide)) (SGk hS rfl) (by decide) rfl (SGr hS rfl) ?_
      refine Ev_iload hq_196 (show decode prog_7_method_70_code 41 = .ok (.iload 5, 2) by decide +kernel) rfl ?_
      obtain ⟨h7, k⟩ := k
      refine Ev_iald hq_196 (show decode prog_7_method_70_code 43 = .ok (.iaload, 1) by decide +kernel) (SGn hS (by decide)) (SGk hS rfl) (SGi hS rfl h7) ?_
      obtain ⟨y8, ey8⟩ : ∃ y8 : Int32, y8 = (I1 60 y6.toNatClampNeg) := ⟨_, rfl⟩
      have k := k y8 ey8
      rw [← ey8]
      refine Ev_istore (lo2 := [.ref 57, .int x1, .int x2, .int x3, .int r3, .int y6, .int y8, zU, zU]) hq_196 (show decode prog_7_method_70_code 44 = .ok (.istore 6, 2) by decide +kernel) (z_le rfl) rfl ?_
      refine Ev_iconst (v := 0) hq_196 (show decode prog_7_method_70_code 46 = .ok (.iconst 0, 1) by decide +kernel) (by decide) ?_
      refine Ev_istore (lo2 := [.ref 57, .int x1, .int x2, .int x3, .int r3, .int y6, .int y8, .int 0, zU]) hq_196 (show decode prog_7_method_70_code 47 = .ok (.istore 7, 2) by decide +kernel) (z_le rfl) rfl ?_
      refine Ev_iconst (v := 0) hq_196 (show decode prog_7_method_70_code 49 = .ok (.iconst 0, 1) by decide +kernel) (by decide) ?_
      refine Ev_istore (lo2 := [.ref 57, .int x1, .int x2, .int x3, .int r3, .int y6, .int y8, .int 0, .int 0]) hq_196 (show decode prog_7_method_70_code 50 = .ok (.istore 8, 2) by decide +kernel) (z_le rfl) rfl ?_
      exact k
    · have k := k.2 (Classical.not_not.mp c5)
      refine Ev_bipush (v := (-7)) hq_196 (show decode prog_7_method_70_code 25 = .ok (.bipush (-7), 2) by decide +kernel) (by decide) ?_
      exact Ev_iret hq_196 (show decode prog_7_method_70_code 27 = .ok (.ireturn, 1) by decide +kernel) rfl k
  · have k := k.2 c4
    refine Ev_iload hq_196 (show decode prog_7_method_70_code 13 = .ok (.iload 4, 2) by decide +kernel) rfl ?_
    exact Ev_iret hq_196 (show decode prog_7_method_70_code 15 = .ok (.ireturn, 1) by decide +kernel) rfl k
set_option maxRecDepth 20000 in
theorem wp_Z_fits_52 {X : Nat × (Nat → Int32)} {d : Nat} {G : zG} {I : zI} {res : Option Value × zG × zI} (x1 : Int32) (x2 : Int32) (x3 : Int32) (x4 : Int32) (x5 : Int32) (x6 : Int32) (x7 : Int32) (x8 : Int32) (hS : SG G) 
    (k : (¬ x3 = 0 → (16 < x8 → z_inr x5 20 ∧ (∀ I4 : zI, I4 = z_up I 60 x5.toNatClampNeg x6 → res = (some (.int x7), G, I4))) ∧ (¬ 16 < x8 → z_inr x5 20 ∧ (∀ I6 : zI, I6 = z_up I 60 x5.toNatClampNeg x8 → ∃ (r9 : Int32) (I7 : zI), Cv X d 194 [.ref 57, .int x1, .int x2] G I6 (some (.int r9), G, I7) ∧ ((¬ r9 = (-1) → ∀ y11 : Int32, y11 = (x7 ||| 0) → ∀ y12 : Int32, y12 = x8 + 1 → Ev X (d + 1) 196 52 [.ref 57, .int x1, .int x2, .int x3, .int x4, .int x5, .int x6, .int y11, .int y12] [] G I7 res) ∧ (r9 = (-1) → ∀ y13 : Int32, y13 = (x7 ||| (1 <<< (x8 &&& 31))) → ∀ y14 : Int32, y14 = x8 + 1 → Ev X (d + 1) 196 52 [.ref 57, .int x1, .int x2, .int x3, .int x4, .int x5, .int x6, .int y13, .int y14] [] G I7 res))))) ∧ (x3 = 0 → (4 < x8 → z_inr x5 20 ∧ (∀ I17 : zI, I17 = z_up I 60 x5.toNatClampNeg x6 → res = (some (.int x7), G, I17))) ∧ (¬ 4 < x8 → z_inr x5 20 ∧ (∀ I19 : zI, I19 = z_up I 60 x5.toNatClampNeg x8 → ∃ (r22 : Int32) (I20 : zI), Cv X d 194 [.ref 57, .int x1, .int x2] G I19 (some (.int r22), G, I20) ∧ ((¬ r22 = (-1) → ∀ y24 : Int32, y24 = (x7 ||| 0) → ∀ y25 : Int32, y25 = x8 + 1 → Ev X (d + 1) 196 52 [.ref 57, .int x1, .int x2, .int x3, .int x4, .int x5, .int x6, .int y24, .int y25] [] G I20 res) ∧ (r22 = (-1) → ∀ y26 : Int32, y26 = (x7 ||| (1 <<< (x8 &&& 31))) → ∀ y27 : Int32, y27 = x8 + 1 → Ev X (d + 1) 196 52 [.ref 57, .int x1, .int x2, .int x3, .int x4, .int x5, .int x6, .int y26, .int y27] [] G I20 res)))))) :
    Ev X (d + 1) 196 52 [.ref 57, .int x1, .int x2, .int x3, .int x4, .int x5, .int x6, .int x7, .int x8] [] G I res := by
  refine Ev_iload hq_196 (show decode prog_7_method_70_code 52 = .ok (.iload 8, 2) by decide +kernel) rfl ?_
  refine Ev_iload_n hq_196 (show decode prog_7_method_70_code 54 = .ok (.iload_n 3, 1) by decide +kernel) rfl ?_
  refine Ev_if_ne (tgt := 62) hq_196 (show decode prog_7_method_70_code 55 = .ok (.ifCond .ne 7, 3) by decide +kernel) (by decide) (fun c1 => ?_) (fun c1 => ?_)
  · have k := k.1 c1
    refine Ev_bipush (v := 16) hq_196 (show decode prog_7_method_70_code 62 = .ok (.bipush 16, 2) by decide +kernel) (by decide) ?_
    refine Ev_icmp_gt (tgt := 105) hq_196 (show decode prog_7_method_70_code 64 = .ok (.if_icmp .gt 41, 3) by decide +kernel) (by decide) (fun c2 => ?_) (fun c2 => ?_)
    · have k := k.1 c2
      refine Ev_aload_n hq_196 (show decode prog_7_method_70_code 105 = .ok (.aload_n 0, 1) by decide +kernel) rfl ?_
      refine Ev_getR hq_196 (show decode prog_7_method_70_code 106 = .ok (.getfield 16, 3) by decide +kernel) rfl (SGn hS (by decide)) (SGk hS rfl) (by decide) rfl (SGr hS rfl) ?_
      refine Ev_iload hq_196 (show decode prog_7_method_70_code 109 = .ok (.iload 5, 2) by decide +kernel) rfl ?_
      refine Ev_iload hq_196 (show decode prog_7_method_70_code 111 = .ok (.iload 6, 2) by decide +kernel) rfl ?_
      obtain ⟨h3, k⟩ := k
      refine Ev_iast hq_196 (show decode prog_7_method_70_code 113 = .ok (.iastore, 1) by decide +kernel) (SGn hS (by decide)) (SGk hS rfl) (SGi hS rfl h3) ?_
      obtain ⟨I4, eI4⟩ : ∃ I4 : zI, I4 = z_up I 60 x5.toNatClampNeg x6 := ⟨_, rfl⟩
      have k := k I4 eI4
      rw [← eI4]
      refine Ev_iload hq_196 (show decode prog_7_method_70_code 114 = .ok (.iload 7, 2) by decide +kernel) rfl ?_
      exact Ev_iret hq_196 (show decode prog_7_method_70_code 116 = .ok (.ireturn, 1) by decide +kernel) rfl k
    · have k := k.2 c2
      refine Ev_aload_n hq_196 (show decode prog_7_method_70_code 67 = .ok (.aload_n 0, 1) by decide +kernel) rfl ?_
      refine Ev_getR hq_196 (show decode prog_7_method_70_code 68 = .ok (.getfield 16, 3) by decide +kernel) rfl (SGn hS (by decide)) (SGk hS rfl) (by decide) rfl (SGr hS rfl) ?_
      refine Ev_iload hq_196 (show decode prog_7_method_70_code 71 = .ok (.iload 5, 2) by decide +kernel) rfl ?_
      refine Ev_iload hq_196 (show decode prog_7_method_70_code 73 = .ok (.iload 8, 2) by decide +kernel) rfl ?_
      obtain ⟨h5, k⟩ := k
      refine Ev_iast hq_196 (show decode prog_7_method_70_code 75 = .ok (.iastore, 1) by decide +kernel) (SGn hS (by decide)) (SGk hS rfl) (SGi hS rfl h5) ?_
      obtain ⟨I6, eI6⟩ : ∃ I6 : zI, I6 = z_up I 60 x5.toNatClampNeg x8 := ⟨_, rfl⟩
      have k := k I6 eI6
      rw [← eI6]
      refine Ev_iload hq_196 (show decode prog_7_method_70_code 76 = .ok (.iload 7, 2) by decide +kernel) rfl ?_
      refine Ev_aload_n hq_196 (show decode prog_7_method_70_code 78 = .ok (.aload_n 0, 1) by decide +kernel) rfl ?_
      refine Ev_iload_n hq_196 (show decode prog_7_method_70_code 79 = .ok (.iload_n 1, 1) by decide +kernel) rfl ?_
      refine Ev_iload_n hq_196 (show decode prog_7_method_70_code 80 = .ok (.iload_n 2, 1) by decide +kernel) rfl ?_
      obtain ⟨r9, I7, h8, k⟩ := k
      refine Ev_virt (as := [.int x1, .int x2]) hq_196 (show decode prog_7_method_70_code 81 = .ok (.invokevirtual 260, 3) by decide +kernel) rfl hq_194 rfl (z_le rfl) ⟨(SGn hS (by decide)), (SGk hS rfl), by decide⟩ h8 ?_
      refine Ev_iconst (v := (-1)) hq_196 (show decode prog_7_method_70_code 84 = .ok (.iconst (-1), 1) by decide +kernel) (by decide) ?_
      refine Ev_icmp_ne (tgt := 95) hq_196 (show decode prog_7_method_70_code 85 = .ok (.if_icmp .ne 10, 3) by decide +kernel) (by decide) (fun c10 => ?_) (fun c10 => ?_)
      · have k := k.1 c10
        refine Ev_iconst (v := 0) hq_196 (show decode prog_7_method_70_code 95 = .ok (.iconst 0, 1) by decide +kernel) (by decide) ?_
        refine Ev_ior hq_196 (show decode prog_7_method_70_code 96 = .ok (.ior, 1) by decide +kernel) ?_
        obtain ⟨y11, ey11⟩ : ∃ y11 : Int32, y11 = (x7 ||| 0) := ⟨_, rfl⟩
        have k := k y11 ey11
        rw [← ey11]
        refine Ev_istore (lo2 := [.ref 57, .int x1, .int x2, .int x3, .int x4, .int x5, .int x6, .int y11, .int x8]) hq_196 (show decode prog_7_method_70_code 97 = .ok (.istore 7, 2) by decide +kernel) (z_le rfl) rfl ?_
        obtain ⟨y12, ey12⟩ : ∃ y12 : Int32, y12 = x8 + 1 := ⟨_, rfl⟩
        have k := k y12 ey12
        refine Ev_iinc (v := y12) (lo2 := [.ref 57, .int x1, .int x2, .int x3, .int x4, .int x5, .int x6, .int y11, .int y12]) hq_196 (show decode prog_7_method_70_code 99 = .ok (.iinc 8 1, 3) by decide +kernel) rfl (by rw [ey12]; rfl) rfl ?_
        refine Ev_goto (tgt := 52) hq_196 (show decode prog_7_method_70_code 102 = .ok (.goto (-50), 3) by decide +kernel) (by decide) ?_
        exact k
      · have k := k.2 (Classical.not_not.mp c10)
        refine Ev_iconst (v := 1) hq_196 (show decode prog_7_method_70_code 88 = .ok (.iconst 1, 1) by decide +kernel) (by decide) ?_
        refine Ev_iload hq_196 (show decode prog_7_method_70_code 89 = .ok (.iload 8, 2) by decide +kernel) rfl ?_
        refine Ev_ishl hq_196 (show decode prog_7_method_70_code 91 = .ok (.ishl, 1) by decide +kernel) ?_
        refine Ev_goto (tgt := 96) hq_196 (show decode prog_7_method_70_code 92 = .ok (.goto 4, 3) by decide +kernel) (by decide) ?_
        refine Ev_ior hq_196 (show decode prog_7_method_70_code 96 = .ok (.ior, 1) by decide +kernel) ?_
        obtain ⟨y13, ey13⟩ : ∃ y13 : Int32, y13 = (x7 ||| (1 <<< (x8 &&& 31))) := ⟨_, rfl⟩
        have k := k y13 ey13
        rw [← ey13]
        refine Ev_istore (lo2 := [.ref 57, .int x1, .int x2, .int x3, .int x4, .int x5, .int x6, .int y13, .int x8]) hq_196 (show decode prog_7_method_70_code 97 = .ok (.istore 7, 2) by decide +kernel) (z_le rfl) rfl ?_
        obtain ⟨y14, ey14⟩ : ∃ y14 : Int32, y14 = x8 + 1 := ⟨_, rfl⟩
        have k := k y14 ey14
        refine Ev_iinc (v := y14) (lo2 := [.ref 57, .int x1, .int x2, .int x3, .int x4, .int x5, .int x6, .int y13, .int y14]) hq_196 (show decode prog_7_method_70_code 99 = .ok (.iinc 8 1, 3) by decide +kernel) rfl (by rw [ey14]; rfl) rfl ?_
        refine Ev_goto (tgt := 52) hq_196 (show decode prog_7_method_70_code 102 = .ok (.goto (-50), 3) by decide +kernel) (by decide) ?_
        exact k
  · have k := k.2 (Classical.not_not.mp c1)
    refine Ev_iconst (v := 4) hq_196 (show decode prog_7_method_70_code 58 = .ok (.iconst 4, 1) by decide +kernel) (by decide) ?_
    refine Ev_goto (tgt := 64) hq_196 (show decode prog_7_method_70_code 59 = .ok (.goto 5, 3) by decide +kernel) (by decide) ?_
    refine Ev_icmp_gt (tgt := 105) hq_196 (show decode prog_7_method_70_code 64 = .ok (.if_icmp .gt 41, 3) by decide +kernel) (by decide) (fun c15 => ?_) (fun c15 => ?_)
    · have k := k.1 c15
      refine Ev_aload_n hq_196 (show decode prog_7_method_70_code 105 = .ok (.aload_n 0, 1) by decide +kernel) rfl ?_
      refine Ev_getR hq_196 (show decode prog_7_method_70_code 106 = .ok (.getfield 16, 3) by decide +kernel) rfl (SGn hS (by decide)) (SGk hS rfl) (by decide) rfl (SGr hS rfl) ?_
      refine Ev_iload hq_196 (show decode prog_7_method_70_code 109 = .ok (.iload 5, 2) by decide +kernel) rfl ?_
      refine Ev_iload hq_196 (show decode prog_7_method_70_code 111 = .ok (.iload 6, 2) by decide +kernel) rfl ?_
      obtain ⟨h16, k⟩ := k
      refine Ev_iast hq_196 (show decode prog_7_method_70_code 113 = .ok (.iastore, 1) by decide +kernel) (SGn hS (by decide)) (SGk hS rfl) (SGi hS rfl h16) ?_
      obtain ⟨I17, eI17⟩ : ∃ I17 : zI, I17 = z_up I 60 x5.toNatClampNeg x6 := ⟨_, rfl⟩
      have k := k I17 eI17
      rw [← eI17]
      refine Ev_iload hq_196 (show decode prog_7_method_70_code 114 = .ok (.iload 7, 2) by decide +kernel) rfl ?_
      exact Ev_iret hq_196 (show decode prog_7_method_70_code 116 = .ok (.ireturn, 1) by decide +kernel) rfl k
    · have k := k.2 c15
      refine Ev_aload_n hq_196 (show decode prog_7_method_70_code 67 = .ok (.aload_n 0, 1) by decide +kernel) rfl ?_
      refine Ev_getR hq_196 (show decode prog_7_method_70_code 68 = .ok (.getfield 16, 3) by decide +kernel) rfl (SGn hS (by decide)) (SGk hS rfl) (by decide) rfl (SGr hS rfl) ?_
      refine Ev_iload hq_196 (show decode prog_7_method_70_code 71 = .ok (.iload 5, 2) by decide +kernel) rfl ?_
      refine Ev_iload hq_196 (show decode prog_7_method_70_code 73 = .ok (.iload 8, 2) by decide +kernel) rfl ?_
      obtain ⟨h18, k⟩ := k
      refine Ev_iast hq_196 (show decode prog_7_method_70_code 75 = .ok (.iastore, 1) by decide +kernel) (SGn hS (by decide)) (SGk hS rfl) (SGi hS rfl h18) ?_
      obtain ⟨I19, eI19⟩ : ∃ I19 : zI, I19 = z_up I 60 x5.toNatClampNeg x8 := ⟨_, rfl⟩
      have k := k I19 eI19
      rw [← eI19]
      refine Ev_iload hq_196 (show decode prog_7_method_70_code 76 = .ok (.iload 7, 2) by decide +kernel) rfl ?_
      refine Ev_aload_n hq_196 (show decode prog_7_method_70_code 78 = .ok (.aload_n 0, 1) by decide +kernel) rfl ?_
      refine Ev_iload_n hq_196 (show decode prog_7_method_70_code 79 = .ok (.iload_n 1, 1) by decide +kernel) rfl ?_
      refine Ev_iload_n hq_196 (show decode prog_7_method_70_code 80 = .ok (.iload_n 2, 1) by decide +kernel) rfl ?_
      obtain ⟨r22, I20, h21, k⟩ := k
      refine Ev_virt (as := [.int x1, .int x2]) hq_196 (show decode prog_7_method_70_code 81 = .ok (.invokevirtual 260, 3) by decide +kernel) rfl hq_194 rfl (z_le rfl) ⟨(SGn hS (by decide)), (SGk hS rfl), by decide⟩ h21 ?_
      refine Ev_iconst (v := (-1)) hq_196 (show decode prog_7_method_70_code 84 = .ok (.iconst (-1), 1) by decide +kernel) (by decide) ?_
      refine Ev_icmp_ne (tgt := 95) hq_196 (show decode prog_7_method_70_code 85 = .ok (.if_icmp .ne 10, 3) by decide +kernel) (by decide) (fun c23 => ?_) (fun c23 => ?_)
      · have k := k.1 c23
        refine Ev_iconst (v := 0) hq_196 (show decode prog_7_method_70_code 95 = .ok (.iconst 0, 1) by decide +kernel) (by decide) ?_
        refine Ev_ior hq_196 (show decode prog_7_method_70_code 96 = .ok (.ior, 1) by decide +kernel) ?_
        obtain ⟨y24, ey24⟩ : ∃ y24 : Int32, y24 = (x7 ||| 0) := ⟨_, rfl⟩
        have k := k y24 ey24
        rw [← ey24]
        refine Ev_istore (lo2 := [.ref 57, .int x1, .int x2, .int x3, .int x4, .int x5, .int x6, .int y24, .int x8]) hq_196 (show decode prog_7_method_70_code 97 = .ok (.istore 7, 2) by decide +kernel) (z_le rfl) rfl ?_
        obtain ⟨y25, ey25⟩ : ∃ y25 : Int32, y25 = x8 + 1 := ⟨_, rfl⟩
        have k := k y25 ey25
        refine Ev_iinc (v := y25) (lo2 := [.ref 57, .int x1, .int x2, .int x3, .int x4, .int x5, .int x6, .int y24, .int y25]) hq_196 (show decode prog_7_method_70_code 99 = .ok (.iinc 8 1, 3) by decide +kernel) rfl (by rw [ey25]; rfl) rfl ?_
        refine Ev_goto (tgt := 52) hq_196 (show decode prog_7_method_70_code 102 = .ok (.goto (-50), 3) by decide +kernel) (by decide) ?_
        exact k
      · have k := k.2 (Classical.not_not.mp c23)
        refine Ev_iconst (v := 1) hq_196 (show decode prog_7_method_70_code 88 = .ok (.iconst 1, 1) by decide +kernel) (by decide) ?_
        refine Ev_iload hq_196 (show decode prog_7_method_70_code 89 = .ok (.iload 8, 2) by decide +kernel) rfl ?_
        refine Ev_ishl hq_196 (show decode prog_7_method_70_code 91 = .ok (.ishl, 1) by decide +kernel) ?_
        refine Ev_goto (tgt := 96) hq_196 (show decode prog_7_method_70_code 92 = .ok (.goto 4, 3) by decide +kernel) (by decide) ?_
        refine Ev_ior hq_196 (show decode prog_7_method_70_code 96 = .ok (.ior, 1) by decide +kernel) ?_
        obtain ⟨y26, ey26⟩ : ∃ y26 : Int32, y26 = (x7 ||| (1 <<< (x8 &&& 31))) := ⟨_, rfl⟩
        have k := k y26 ey26
        rw [← ey26]
        refine Ev_istore (lo2 := [.ref 57, .int x1, .int x2, .int x3, .int x4, .int x5, .int x6, .int y26, .int x8]) hq_196 (show decode prog_7_method_70_code 97 = .ok (.istore 7, 2) by decide +kernel) (z_le rfl) rfl ?_
        obtain ⟨y27, ey27⟩ : ∃ y27 : Int32, y27 = x8 + 1 := ⟨_, rfl⟩
        have k := k y27 ey27
        refine Ev_iinc (v := y27) (lo2 := [.ref 57, .int x1, .int x2, .int x3, .int x4, .int x5, .int x6, .int y26, .int y27]) hq_196 (show decode prog_7_method_70_code 99 = .ok (.iinc 8 1, 3) by decide +kernel) rfl (by rw [ey27]; rfl) rfl ?_
        refine Ev_goto (tgt := 52) hq_196 (show decode prog_7_method_70_code 102 = .ok (.goto (-50), 3) by decide +kernel) (by decide) ?_
        exact k
set_option maxRecDepth 20000 in
theorem wp_Z_kinds {X : Nat × (Nat → Int32)} {d : Nat} {G : zG} {I : zI} {res : Option Value × zG × zI} (x1 : Int32) (x2 : Int32) (x3 : Int32) (hS : SG G) 
    (k : ∃ (r3 : Int32) (I1 : zI), Cv X d 192 [.ref 57, .int x1, .int x2] G I (some (.int r3), G, I1) ∧ ((r3 = 0 → (¬ (f_Z_in x3 0 1) = 0 → z_inr x2 4 ∧ (∀ y7 : Int32, y7 = (I1 58 x2.toNatClampNeg) → z_inr x2 4 ∧ (∀ y9 : Int32, y9 = (I1 59 x2.toNatClampNeg) → Ev X (d + 1) 197 50 [.ref 57, .int x1, .int x2, .int x3, .int r3, .int y7, .int y9, .int 0, .int 0] [] G I1 res))) ∧ ((f_Z_in x3 0 1) = 0 → res = (some (.int (-7)), G, I1))) ∧ (¬ r3 = 0 → res = (some (.int r3), G, I1)))) :
    Ev X (d + 1) 197 0 [.ref 57, .int x1, .int x2, .int x3, zU, zU, zU, zU, zU] [] G I res := by
  refine Ev_aload_n hq_197 (show decode prog_7_method_71_code 0 = .ok (.aload_n 0, 1) by decide +kernel) rfl ?_
  refine Ev_iload_n hq_197 (show decode prog_7_method_71_code 1 = .ok (.iload_n 1, 1) by decide +kernel) rfl ?_
  refine Ev_iload_n hq_197 (show decode prog_7_method_71_code 2 = .ok (.iload_n 2, 1) by decide +kernel) rfl ?_
  obtain ⟨r3, I1, h2, k⟩ := k
  refine Ev_virt (as := [.int x1, .int x2]) hq_197 (show decode prog_7_method_71_code 3 = .ok (.invokevirtual 257, 3) by decide +kernel) rfl hq_192 rfl (z_le rfl) ⟨(SGn hS (by decide)), (SGk hS rfl), by decide⟩ h2 ?_
  refine Ev_istore (lo2 := [.ref 57, .int x1, .int x2, .int x3, .int r3, zU, zU, zU, zU]) hq_197 (show decode prog_7_method_71_code 6 = .ok (.istore 4, 2) by decide +kernel) (z_le rfl) rfl ?_
  refine Ev_iload hq_197 (show decode prog_7_method_71_code 8 = .ok (.iload 4, 2) by decide +kernel) rfl ?_
  refine Ev_if_eq (tgt := 16) hq_197 (show decode prog_7_method_71_code 10 = .ok (.ifCond .eq 6, 3) by decide +kernel) (by decide) (fun c4 => ?_) (fun c4 => ?_)
  · have k := k.1 c4
    refine Ev_iload_n hq_197 (show decode prog_7_method_71_code 16 = .ok (.iload_n 3, 1) by decide +kernel) rfl ?_
    refine Ev_iconst (v := 0) hq_197 (show decode prog_7_method_71_code 17 = .ok (.iconst 0, 1) by decide +kernel) (by decide) ?_
    refine Ev_iconst (v := 1) hq_197 (show decode prog_7_method_71_code 18 = .ok (.iconst 1, 1) by decide +kernel) (by decide) ?_
    refine Ev_stat (as := [.int x3, .int 0, .int 1]) hq_197 (show decode prog_7_method_71_code 19 = .ok (.invokestatic 90, 3) by decide +kernel) rfl (Or.inl rfl) hq_131 rfl (z_le rfl) (c_Z_in x3 0 1) ?_
    refine Ev_if_ne (tgt := 28) hq_197 (show decode prog_7_method_71_code 22 = .ok (.ifCond .ne 6, 3) by decide +kernel) (by decide) (fun c5 => ?_) (fun c5 => ?_)
    · have k := k.1 c5
      refine Ev_aload_n hq_197 (show decode prog_7_method_71_code 28 = .ok (.aload_n 0, 1) by decide +kernel) rfl ?_
      refine Ev_getR hq_197 (show decode prog_7_method_71_code 29 = .ok (.getfield 7, 3) by decide +kernel) rfl (SGn hS (by decide)) (SGk hS rfl) (by decide) rfl (SGr hS rfl) ?_
      refine Ev_iload_n hq_197 (show decode prog_7_method_71_code 32 = .ok (.iload_n 2, 1) by decide +kernel) rfl ?_
      obtain ⟨h6, k⟩ := k
      refine Ev_iald hq_197 (show decode prog_7_method_71_code 33 = .ok (.iaload, 1) by decide +kernel) (SGn hS (by decide)) (SGk hS rfl) (SGi hS rfl h6) ?_
      obtain ⟨y7, ey7⟩ : ∃ y7 : Int32, y7 = (I1 58 x2.toNatClampNeg) := ⟨_, rfl⟩
      have k := k y7 ey7
      rw [← ey7]
      refine Ev_istore (lo2 := [.ref 57, .int x1, .int x2, .int x3, .int r3, .int y7, zU, zU, zU]) hq_197 (show decode prog_7_method_71_code 34 = .ok (.istore 5, 2) by decide +kernel) (z_le rfl) rfl ?_
      refine Ev_aload_n hq_197 (show decode prog_7_method_71_code 36 = .ok (.aload_n 0, 1) by decide +kernel) rfl ?_
      refine Ev_getR hq_197 (show decode prog_7_method_71_code 37 = .ok (.getfield 13, 3) by decide +kernel) rfl (SGn hS (by decide)) (SGk hS rfl) (by decide) rfl (SGr hS rfl) ?_
      refine Ev_iload_n hq_197 (show decode prog_7_method_71_code 40 = .ok (.iload_n 2, 1) by decide +kernel) rfl ?_
      obtain ⟨h8, k⟩ := k
      refine Ev_iald hq_197 (show decode prog_7_method_71_code 41 = .ok (.iaload, 1) by decide +kernel) (SGn hS (by decide)) (SGk hS rfl) (SGi hS rfl h8) ?_
      obtain ⟨y9, ey9⟩ : ∃ y9 : Int32, y9 = (I1 59 x2.toNatClampNeg) := ⟨_, rfl⟩
      have k := k y9 ey9
      rw [← ey9]
      refine Ev_istore (lo2 := [.ref 57, .int x1, .int x2, .int x3, .int r3, .int y7, .int y9, zU, zU]) hq_197 (show decode prog_7_method_71_code 42 = .ok (.istore 6, 2) by decide +kernel) (z_le rfl) rfl ?_
      refine Ev_iconst (v := 0) hq_197 (show decode prog_7_method_71_code 44 = .ok (.iconst 0, 1) by decide +kernel) (by decide) ?_
      refine Ev_istore (lo2 := [.ref 57, .int x1, .int x2, .int x3, .int r3, .int y7, .int y9, .int 0, zU]) hq_197 (show decode prog_7_method_71_code 45 = .ok (.istore 7, 2) by decide +kernel) (z_le rfl) rfl ?_
      refine Ev_iconst (v := 0) hq_197 (show decode prog_7_method_71_code 47 = .ok (.iconst 0, 1) by decide +kernel) (by decide) ?_
      refine Ev_istore (lo2 := [.ref 57, .int x1, .int x2, .int x3, .int r3, .int y7, .int y9, .int 0, .int 0]) hq_197 (show decode prog_7_method_71_code 48 = .ok (.istore 8, 2) by decide +kernel) (z_le rfl) rfl ?_
      exact k
    · have k := k.2 (Classical.not_not.mp c5)
      refine Ev_bipush (v := (-7)) hq_197 (show decode prog_7_method_71_code 25 = .ok (.bipush (-7), 2) by decide +kernel) (by decide) ?_
      exact Ev_iret hq_197 (show decode prog_7_method_71_code 27 = .ok (.ireturn, 1) by decide +kernel) rfl k
  · have k := k.2 c4
    refine Ev_iload hq_197 (show decode prog_7_method_71_code 13 = .ok (.iload 4, 2) by decide +kernel) rfl ?_
    exact Ev_iret hq_197 (show decode prog_7_method_71_code 15 = .ok (.ireturn, 1) by decide +kernel) rfl k
set_option maxRecDepth 20000 in
theorem wp_Z_kinds_50 {X : Nat × (Nat → Int32)} {d : Nat} {G : zG} {I : zI} {res : Option Value × zG × zI} (x1 : Int32) (x2 : Int32) (x3 : Int32) (x4 : Int32) (x5 : Int32) (x6 : Int32) (x7 : Int32) (x8 : Int32) (hS : SG G) 
    (k : (¬ x3 = 0 → (10 ≤ x8 → z_inr x2 4 ∧ (∀ I4 : zI, I4 = z_up I 58 x2.toNatClampNeg x5 → z_inr x2 4 ∧ (∀ I6 : zI, I6 = z_up I4 59 x2.toNatClampNeg x6 → res = (some (.int x7), G, I6)))) ∧ (¬ 10 ≤ x8 → (¬ x3 = 0 → z_inr x2 4 ∧ (∀ I9 : zI, I9 = z_up I 58 x2.toNatClampNeg x5 → (¬ x3 = 1 → z_inr x2 4 ∧ (∀ I12 : zI, I12 = z_up I9 59 x2.toNatClampNeg x6 → ∃ (r15 : Int32) (I13 : zI), Cv X d 194 [.ref 57, .int x1, .int x2] G I12 (some (.int r15), G, I13) ∧ ((¬ r15 = (-1) → ∀ y17 : Int32, y17 = (x7 ||| 0) → ∀ y18 : Int32, y18 = x8 + 1 → Ev X (d + 1) 197 50 [.ref 57, .int x1, .int x2, .int x3, .int x4, .int x5, .int x6, .int y17, .int y18] [] G I13 res) ∧ (r15 = (-1) → ∀ y19 : Int32, y19 = (x7 ||| (1 <<< (x8 &&& 31))) → ∀ y20 : Int32, y20 = x8 + 1 → Ev X (d + 1) 197 50 [.ref 57, .int x1, .int x2, .int x3, .int x4, .int x5, .int x6, .int y19, .int y20] [] G I13 res)))) ∧ (x3 = 1 → z_inr x2 4 ∧ (∀ I22 : zI, I22 = z_up I9 59 x2.toNatClampNeg x8 → ∃ (r25 : Int32) (I23 : zI), Cv X d 194 [.ref 57, .int x1, .int x2] G I22 (some (.int r25), G, I23) ∧ ((¬ r25 = (-1) → ∀ y27 : Int32, y27 = (x7 ||| 0) → ∀ y28 : Int32, y28 = x8 + 1 → Ev X (d + 1) 197 50 [.ref 57, .int x1, .int x2, .int x3, .int x4, .int x5, .int x6, .int y27, .int y28] [] G I23 res) ∧ (r25 = (-1) → ∀ y29 : Int32, y29 = (x7 ||| (1 <<< (x8 &&& 31))) → ∀ y30 : Int32, y30 = x8 + 1 → Ev X (d + 1) 197 50 [.ref 57, .int x1, .int x2, .int x3, .int x4, .int x5, .int x6, .int y29, .int y30] [] G I23 res)))))) ∧ (x3 = 0 → z_inr x2 4 ∧ (∀ I32 : zI, I32 = z_up I 58 x2.toNatClampNeg x8 → (¬ x3 = 1 → z_inr x2 4 ∧ (∀ I35 : zI, I35 = z_up I32 59 x2.toNatClampNeg x6 → ∃ (r38 : Int32) (I36 : zI), Cv X d 194 [.ref 57, .int x1, .int x2] G I35 (some (.int r38), G, I36) ∧ ((¬ r38 = (-1) → ∀ y40 : Int32, y40 = (x7 ||| 0) → ∀ y41 : Int32, y41 = x8 + 1 → Ev X (d + 1) 197 50 [.ref 57, .int x1, .int x2, .int x3, .int x4, .int x5, .int x6, .int y40, .int y41] [] G I36 res) ∧ (r38 = (-1) → ∀ y42 : Int32, y42 = (x7 ||| (1 <<< (x8 &&& 31))) → ∀ y43 : Int32, y43 = x8 + 1 → Ev X (d + 1) 197 50 [.ref 57, .int x1, .int x2, .int x3, .int x4, .int x5, .int x6, .int y42, .int y43] [] G I36 res)))) ∧ (x3 = 1 → z_inr x2 4 ∧ (∀ I45 : zI, I45 = z_up I32 59 x2.toNatClampNeg x8 → ∃ (r48 : Int32) (I46 : zI), Cv X d 194 [.ref 57, .int x1, .int x2] G I45 (some (.int r48), G, I46) ∧ ((¬ r48 = (-1) → ∀ y50 : Int32, y50 = (x7 ||| 0) → ∀ y51 : Int32, y51 = x8 + 1 → Ev X (d + 1) 197 50 [.ref 57, .int x1, .int x2, .int x3, .int x4, .int x5, .int x6, .int y50, .int y51] [] G I46 res) ∧ (r48 = (-1) → ∀ y52 : Int32, y52 = (x7 ||| (1 <<< (x8 &&& 31))) → ∀ y53 : Int32, y53 = x8 + 1 → Ev X (d + 1) 197 50 [.ref 57, .int x1, .int x2, .int x3, .int x4, .int x5, .int x6, .int y52, .int y53] [] G I46 res)))))))) ∧ (x3 = 0 → (6 ≤ x8 → z_inr x2 4 ∧ (∀ I56 : zI, I56 = z_up I 58 x2.toNatClampNeg x5 → z_inr x2 4 ∧ (∀ I58 : zI, I58 = z_up I56 59 x2.toNatClampNeg x6 → res = (some (.int x7), G, I58)))) ∧ (¬ 6 ≤ x8 → (¬ x3 = 0 → z_inr x2 4 ∧ (∀ I61 : zI, I61 = z_up I 58 x2.toNatClampNeg x5 → (¬ x3 = 1 → z_inr x2 4 ∧ (∀ I64 : zI, I64 = z_up I61 59 x2.toNatClampNeg x6 → ∃ (r67 : Int32) (I65 : zI), Cv X d 194 [.ref 57, .int x1, .int x2] G I64 (some (.int r67), G, I65) ∧ ((¬ r67 = (-1) → ∀ y69 : Int32, y69 = (x7 ||| 0) → ∀ y70 : Int32, y70 = x8 + 1 → Ev X (d + 1) 197 50 [.ref 57, .int x1, .int x2, .int x3, .int x4, .int x5, .int x6, .int y69, .int y70] [] G I65 res) ∧ (r67 = (-1) → ∀ y71 : Int32, y71 = (x7 ||| (1 <<< (x8 &&& 31))) → ∀ y72 : Int32, y72 = x8 + 1 → Ev X (d + 1) 197 50 [.ref 57, .int x1, .int x2, .int x3, .int x4, .int x5, .int x6, .int y71, .int y72] [] G I65 res)))) ∧ (x3 = 1 → z_inr x2 4 ∧ (∀ I74 : zI, I74 = z_up I61 59 x2.toNatClampNeg x8 → ∃ (r77 : Int32) (I75 : zI), Cv X d 194 [.ref 57, .int x1, .int x2] G I74 (some (.int r77), G, I75) ∧ ((¬ r77 = (-1) → ∀ y79 : Int32, y79 = (x7 ||| 0) → ∀ y80 : Int32, y80 = x8 + 1 → Ev X (d + 1) 197 50 [.ref 57, .int x1, .int x2, .int x3, .int x4, .int x5, .int x6, .int y79, .int y80] [] G I75 res) ∧ (r77 = (-1) → ∀ y81 : Int32, y81 = (x7 ||| (1 <<< (x8 &&& 31))) → ∀ y82 : Int32, y82 = x8 + 1 → Ev X (d + 1) 197 50 [.ref 57, .int x1, .int x2, .int x3, .int x4, .int x5, .int x6, .int y81, .int y82] [] G I75 res)))))) ∧ (x3 = 0 → z_inr x2 4 ∧ (∀ I84 : zI, I84 = z_up I 58 x2.toNatClampNeg x8 → (¬ x3 = 1 → z_inr x2 4 ∧ (∀ I87 : zI, I87 = z_up I84 59 x2.toNatClampNeg x6 → ∃ (r90 : Int32) (I88 : zI), Cv X d 194 [.ref 57, .int x1, .int x2] G I87 (some (.int r90), G, I88) ∧ ((¬ r90 = (-1) → ∀ y92 : Int32, y92 = (x7 ||| 0) → ∀ y93 : Int32, y93 = x8 + 1 → Ev X (d + 1) 197 50 [.ref 57, .int x1, .int x2, .int x3, .int x4, .int x5, .int x6, .int y92, .int y93] [] G I88 res) ∧ (r90 = (-1) → ∀ y94 : Int32, y94 = (x7 ||| (1 <<< (x8 &&& 31))) → ∀ y95 : Int32, y95 = x8 + 1 → Ev X (d + 1) 197 50 [.ref 57, .int x1, .int x2, .int x3, .int x4, .int x5, .int x6, .int y94, .int y95] [] G I88 res)))) ∧ (x3 = 1 → z_inr x2 4 ∧ (∀ I97 : zI, I97 = z_up I84 59 x2.toNatClampNeg x8 → ∃ (r100 : Int32) (I98 : zI), Cv X d 194 [.ref 57, .int x1, .int x2] G I97 (some (.int r100), G, I98) ∧ ((¬ r100 = (-1) → ∀ y102 : Int32, y102 = (x7 ||| 0) → ∀ y103 : Int32, y103 = x8 + 1 → Ev X (d + 1) 197 50 [.ref 57, .int x1, .int x2, .int x3, .int x4, .int x5, .int x6, .int y102, .int y103] [] G I98 res) ∧ (r100 = (-1) → ∀ y104 : Int32, y104 = (x7 ||| (1 <<< (x8 &&& 31))) → ∀ y105 : Int32, y105 = x8 + 1 → Ev X (d + 1) 197 50 [.ref 57, .int x1, .int x2, .int x3, .int x4, .int x5, .int x6, .int y104, .int y105] [] G I98 res))))))))) :
    Ev X (d + 1) 197 50 [.ref 57, .int x1, .int x2, .int x3, .int x4, .int x5, .int x6, .int x7, .int x8] [] G I res := by
  refine Ev_iload hq_197 (show decode prog_7_method_71_code 50 = .ok (.iload 8, 2) by decide +kernel) rfl ?_
  refine Ev_iload_n hq_197 (show decode prog_7_method_71_code 52 = .ok (.iload_n 3, 1) by decide +kernel) rfl ?_
  refine Ev_if_ne (tgt := 61) hq_197 (show decode prog_7_method_71_code 53 = .ok (.ifCond .ne 8, 3) by decide +kernel) (by decide) (fun c1 => ?_) (fun c1 => ?_)
  · have k := k.1 c1
    refine Ev_bipush (v := 10) hq_197 (show decode prog_7_method_71_code 61 = .ok (.bipush 10, 2) by decide +kernel) (by decide) ?_
    refine Ev_icmp_ge (tgt := 130) hq_197 (show decode prog_7_method_71_code 63 = .ok (.if_icmp .ge 67, 3) by decide +kernel) (by decide) (fun c2 => ?_) (fun c2 => ?_)
    · have k := k.1 c2
      refine Ev_aload_n hq_197 (show decode prog_7_method_71_code 130 = .ok (.aload_n 0, 1) by decide +kernel) rfl ?_
      refine Ev_getR hq_197 (show decode prog_7_method_71_code 131 = .ok (.getfield 7, 3) by decide +kernel) rfl (SGn hS (by decide)) (SGk hS rfl) (by decide) rfl (SGr hS rfl) ?_
      refine Ev_iload_n hq_197 (show decode prog_7_method_71_code 134 = .ok (.iload_n 2, 1) by decide +kernel) rfl ?_
      refine Ev_iload hq_197 (show decode prog_7_method_71_code 135 = .ok (.iload 5, 2) by decide +kernel) rfl ?_
      obtain ⟨h3, k⟩ := k
      refine Ev_iast hq_197 (show decode prog_7_method_71_code 137 = .ok (.iastore, 1) by decide +kernel) (SGn hS (by decide)) (SGk hS rfl) (SGi hS rfl h3) ?_
      obtain ⟨I4, eI4⟩ : ∃ I4 : zI, I4 = z_up I 58 x2.toNatClampNeg x5 := ⟨_, rfl⟩
      have k := k I4 eI4
      rw [← eI4]
      refine Ev_aload_n hq_197 (show decode prog_7_method_71_code 138 = .ok (.aload_n 0, 1) by decide +kernel) rfl ?_
      refine Ev_getR hq_197 (show decode prog_7_method_71_code 139 = .ok (.getfield 13, 3) by decide +kernel) rfl (SGn hS (by decide)) (SGk hS rfl) (by decide) rfl (SGr hS rfl) ?_
      refine Ev_iload_n hq_197 (show decode prog_7_method_71_code 142 = .ok (.iload_n 2, 1) by decide +kernel) rfl ?_
      refine Ev_iload hq_197 (show decode prog_7_method_71_code 143 = .ok (.iload 6, 2) by decide +kernel) rfl ?_
      obtain ⟨h5, k⟩ := k
      refine Ev_iast hq_197 (show decode prog_7_method_71_code 145 = .ok (.iastore, 1) by decide +kernel) (SGn hS (by decide)) (SGk hS rfl) (SGi hS rfl h5) ?_
      obtain ⟨I6, eI6⟩ : ∃ I6 : zI, I6 = z_up I4 59 x2.toNatClampNeg x6 := ⟨_, rfl⟩
      have k := k I6 eI6
      rw [← eI6]
      refine Ev_iload hq_197 (show decode prog_7_method_71_code 146 = .ok (.iload 7, 2) by decide +kernel) rfl ?_
      exact Ev_iret hq_197 (show decode prog_7_method_71_code 148 = .ok (.ireturn, 1) by decide +kernel) rfl k
    · have k := k.2 c2
      refine Ev_aload_n hq_197 (show decode prog_7_method_71_code 66 = .ok (.aload_n 0, 1) by decide +kernel) rfl ?_
      refine Ev_getR hq_197 (show decode prog_7_method_71_code 67 = .ok (.getfield 7, 3) by decide +kernel) rfl (SGn hS (by decide)) (SGk hS rfl) (by decide) rfl (SGr hS rfl) ?_
      refine Ev_iload_n hq_197 (show decode prog_7_method_71_code 70 = .ok (.iload_n 2, 1) by decide +kernel) rfl ?_
      refine Ev_iload_n hq_197 (show decode prog_7_method_71_code 71 = .ok (.iload_n 3, 1) by decide +kernel) rfl ?_
      refine Ev_if_ne (tgt := 80) hq_197 (show decode prog_7_method_71_code 72 = .ok (.ifCond .ne 8, 3) by decide +kernel) (by decide) (fun c7 => ?_) (fun c7 => ?_)
      · have k := k.1 c7
        refine Ev_iload hq_197 (show decode prog_7_method_71_code 80 = .ok (.iload 5, 2) by decide +kernel) rfl ?_
        obtain ⟨h8, k⟩ := k
        refine Ev_iast hq_197 (show decode prog_7_method_71_code 82 = .ok (.iastore, 1) by decide +kernel) (SGn hS (by decide)) (SGk hS rfl) (SGi hS rfl h8) ?_
        obtain ⟨I9, eI9⟩ : ∃ I9 : zI, I9 = z_up I 58 x2.toNatClampNeg x5 := ⟨_, rfl⟩
        have k := k I9 eI9
        rw [← eI9]
        refine Ev_aload_n hq_197 (show decode prog_7_method_71_code 83 = .ok (.aload_n 0, 1) by decide +kernel) rfl ?_
        refine Ev_getR hq_197 (show decode prog_7_method_71_code 84 = .ok (.getfield 13, 3) by decide +kernel) rfl (SGn hS (by decide)) (SGk hS rfl) (by decide) rfl (SGr hS rfl) ?_
        refine Ev_iload_n hq_197 (show decode prog_7_method_71_code 87 = .ok (.iload_n 2, 1) by decide +kernel) rfl ?_
        refine Ev_iload_n hq_197 (show decode prog_7_method_71_code 88 = .ok (.iload_n 3, 1) by decide +kernel) rfl ?_
        refine Ev_iconst (v := 1) hq_197 (show decode prog_7_method_71_code 89 = .ok (.iconst 1, 1) by decide +kernel) (by decide) ?_
        refine Ev_icmp_ne (tgt := 98) hq_197 (show decode prog_7_method_71_code 90 = .ok (.if_icmp .ne 8, 3) by decide +kernel) (by decide) (fun c10 => ?_) (fun c10 => ?_)
        · have k := k.1 c10
          refine Ev_iload hq_197 (show decode prog_7_method_71_code 98 = .ok (.iload 6, 2) by decide +kernel) rfl ?_
          obtain ⟨h11, k⟩ := k
          refine Ev_iast hq_197 (show decode prog_7_method_71_code 100 = .ok (.iastore, 1) by decide +kernel) (SGn hS (by decide)) (SGk hS rfl) (SGi hS rfl h11) ?_
          obtain ⟨I12, eI12⟩ : ∃ I12 : zI, I12 = z_up I9 59 x2.toNatClampNeg x6 := ⟨_, rfl⟩
          have k := k I12 eI12
          rw [← eI12]
          refine Ev_iload hq_197 (show decode prog_7_method_71_code 101 = .ok (.iload 7, 2) by decide +kernel) rfl ?_
          refine Ev_aload_n hq_197 (show decode prog_7_method_71_code 103 = .ok (.aload_n 0, 1) by decide +kernel) rfl ?_
          refine Ev_iload_n hq_197 (show decode prog_7_method_71_code 104 = .ok (.iload_n 1, 1) by decide +kernel) rfl ?_
          refine Ev_iload_n hq_197 (show decode prog_7_method_71_code 105 = .ok (.iload_n 2, 1) by decide +kernel) rfl ?_
          obtain ⟨r15, I13, h14, k⟩ := k
          refine Ev_virt (as := [.int x1, .int x2]) hq_197 (show decode prog_7_method_71_code 106 = .ok (.invokevirtual 260, 3) by decide +kernel) rfl hq_194 rfl (z_le rfl) ⟨(SGn hS (by decide)), (SGk hS rfl), by decide⟩ h14 ?_
          refine Ev_iconst (v := (-1)) hq_197 (show decode prog_7_method_71_code 109 = .ok (.iconst (-1), 1) by decide +kernel) (by decide) ?_
          refine Ev_icmp_ne (tgt := 120) hq_197 (show decode prog_7_method_71_code 110 = .ok (.if_icmp .ne 10, 3) by decide +kernel) (by decide) (fun c16 => ?_) (fun c16 => ?_)
          · have k := k.1 c16
            refine Ev_iconst (v := 0) hq_197 (show decode prog_7_method_71_code 120 = .ok (.iconst 0, 1) by decide +kernel) (by decide) ?_
            refine Ev_ior hq_197 (show decode prog_7_method_71_code 121 = .ok (.ior, 1) by decide +kernel) ?_
            obtain ⟨y17, ey17⟩ : ∃ y17 : Int32, y17 = (x7 ||| 0) := ⟨_, rfl⟩
            have k := k y17 ey17
            rw [← ey17]
            refine Ev_istore (lo2 := [.ref 57, .int x1, .int x2, .int x3, .int x4, .int x5, .int x6, .int y17, .int x8]) hq_197 (show decode prog_7_method_71_code 122 = .ok (.istore 7, 2) by decide +kernel) (z_le rfl) rfl ?_
            obtain ⟨y18, ey18⟩ : ∃ y18 : Int32, y18 = x8 + 1 := ⟨_, rfl⟩
            have k := k y18 ey18
            refine Ev_iinc (v := y18) (lo2 := [.ref 57, .int x1, .int x2, .int x3, .int x4, .int x5, .int x6, .int y17, .int y18]) hq_197 (show decode prog_7_method_71_code 124 = .ok (.iinc 8 1, 3) by decide +kernel) rfl (by rw [ey18]; rfl) rfl ?_
            refine Ev_goto (tgt := 50) hq_197 (show decode prog_7_method_71_code 127 = .ok (.goto (-77), 3) by decide +kernel) (by decide) ?_
            exact k
          · have k := k.2 (Classical.not_not.mp c16)
            refine Ev_iconst (v := 1) hq_197 (show decode prog_7_method_71_code 113 = .ok (.iconst 1, 1) by decide +kernel) (by decide) ?_
            refine Ev_iload hq_197 (show decode prog_7_method_71_code 114 = .ok (.iload 8, 2) by decide +kernel) rfl ?_
            refine Ev_ishl hq_197 (show decode prog_7_method_71_code 116 = .ok (.ishl, 1) by decide +kernel) ?_
            refine Ev_goto (tgt := 121) hq_197 (show decode prog_7_method_71_code 117 = .ok (.goto 4, 3) by decide +kernel) (by decide) ?_
            refine Ev_ior hq_197 (show decode prog_7_method_71_code 121 = .ok (.ior, 1) by decide +kernel) ?_
            obtain ⟨y19, ey19⟩ : ∃ y19 : Int32, y19 = (x7 ||| (1 <<< (x8 &&& 31))) := ⟨_, rfl⟩
            have k := k y19 ey19
            rw [← ey19]
            refine Ev_istore (lo2 := [.ref 57, .int x1, .int x2, .int x3, .int x4, .int x5, .int x6, .int y19, .int x8]) hq_197 (show decode prog_7_method_71_code 122 = .ok (.istore 7, 2) by decide +kernel) (z_le rfl) rfl ?_
            obtain ⟨y20, ey20⟩ : ∃ y20 : Int32, y20 = x8 + 1 := ⟨_, rfl⟩
            have k := k y20 ey20
            refine Ev_iinc (v := y20) (lo2 := [.ref 57, .int x1, .int x2, .int x3, .int x4, .int x5, .int x6, .int y19, .int y20]) hq_197 (show decode prog_7_method_71_code 124 = .ok (.iinc 8 1, 3) by decide +kernel) rfl (by rw [ey20]; rfl) rfl ?_
            refine Ev_goto (tgt := 50) hq_197 (show decode prog_7_method_71_code 127 = .ok (.goto (-77), 3) by decide +kernel) (by decide) ?_
            exact k
        · have k := k.2 (Classical.not_not.mp c10)
          refine Ev_iload hq_197 (show decode prog_7_method_71_code 93 = .ok (.iload 8, 2) by decide +kernel) rfl ?_
          refine Ev_goto (tgt := 100) hq_197 (show decode prog_7_method_71_code 95 = .ok (.goto 5, 3) by decide +kernel) (by decide) ?_
          obtain ⟨h21, k⟩ := k
          refine Ev_iast hq_197 (show decode prog_7_method_71_code 100 = .ok (.iastore, 1) by decide +kernel) (SGn hS (by decide)) (SGk hS rfl) (SGi hS rfl h21) ?_
          obtain ⟨I22, eI22⟩ : ∃ I22 : zI, I22 = z_up I9 59 x2.toNatClampNeg x8 := ⟨_, rfl⟩
          have k := k I22 eI22
          rw [← eI22]
          refine Ev_iload hq_197 (show decode prog_7_method_71_code 101 = .ok (.iload 7, 2) by decide +kernel) rfl ?_
          refine Ev_aload_n hq_197 (show decode prog_7_method_71_code 103 = .ok (.aload_n 0, 1) by decide +kernel) rfl ?_
          refine Ev_iload_n hq_197 (show decode prog_7_method_71_code 104 = .ok (.iload_n 1, 1) by decide +kernel) rfl ?_
          refine Ev_iload_n hq_197 (show decode prog_7_method_71_code 105 = .ok (.iload_n 2, 1) by decide +kernel) rfl ?_
          obtain ⟨r25, I23, h24, k⟩ := k
          refine Ev_virt (as := [.int x1, .int x2]) hq_197 (show decode prog_7_method_71_code 106 = .ok (.invokevirtual 260, 3) by decide +kernel) rfl hq_194 rfl (z_le rfl) ⟨(SGn hS (by decide)), (SGk hS rfl), by decide⟩ h24 ?_
          refine Ev_iconst (v := (-1)) hq_197 (show decode prog_7_method_71_code 109 = .ok (.iconst (-1), 1) by decide +kernel) (by decide) ?_
          refine Ev_icmp_ne (tgt := 120) hq_197 (show decode prog_7_method_71_code 110 = .ok (.if_icmp .ne 10, 3) by decide +kernel) (by decide) (fun c26 => ?_) (fun c26 => ?_)
          · have k := k.1 c26
            refine Ev_iconst (v := 0) hq_197 (show decode prog_7_method_71_code 120 = .ok (.iconst 0, 1) by decide +kernel) (by decide) ?_
            refine Ev_ior hq_197 (show decode prog_7_method_71_code 121 = .ok (.ior, 1) by decide +kernel) ?_
            obtain ⟨y27, ey27⟩ : ∃ y27 : Int32, y27 = (x7 ||| 0) := ⟨_, rfl⟩
            have k := k y27 ey27
            rw [← ey27]
            refine Ev_istore (lo2 := [.ref 57, .int x1, .int x2, .int x3, .int x4, .int x5, .int x6, .int y27, .int x8]) hq_197 (show decode prog_7_method_71_code 122 = .ok (.istore 7, 2) by decide +kernel) (z_le rfl) rfl ?_
            obtain ⟨y28, ey28⟩ : ∃ y28 : Int32, y28 = x8 + 1 := ⟨_, rfl⟩
            have k := k y28 ey28
            refine Ev_iinc (v := y28) (lo2 := [.ref 57, .int x1, .int x2, .int x3, .int x4, .int x5, .int x6, .int y27, .int y28]) hq_197 (show decode prog_7_method_71_code 124 = .ok (.iinc 8 1, 3) by decide +kernel) rfl (by rw [ey28]; rfl) rfl ?_
            refine Ev_goto (tgt := 50) hq_197 (show decode prog_7_method_71_code 127 = .ok (.goto (-77), 3) by decide +kernel) (by decide) ?_
            exact k
          · have k := k.2 (Classical.not_not.mp c26)
            refine Ev_iconst (v := 1) hq_197 (show decode prog_7_method_71_code 113 = .ok (.iconst 1, 1) by decide +kernel) (by decide) ?_
            refine Ev_iload hq_197 (show decode prog_7_method_71_code 114 = .ok (.iload 8, 2) by decide +kernel) rfl ?_
            refine Ev_ishl hq_197 (show decode prog_7_method_71_code 116 = .ok (.ishl, 1) by decide +kernel) ?_
            refine Ev_goto (tgt := 121) hq_197 (show decode prog_7_method_71_code 117 = .ok (.goto 4, 3) by decide +kernel) (by decide) ?_
            refine Ev_ior hq_197 (show decode prog_7_method_71_code 121 = .ok (.ior, 1) by decide +kernel) ?_
            obtain ⟨y29, ey29⟩ : ∃ y29 : Int32, y29 = (x7 ||| (1 <<< (x8 &&& 31))) := ⟨_, rfl⟩
            have k := k y29 ey29
            rw [← ey29]
            refine Ev_istore (lo2 := [.ref 57, .int x1, .int x2, .int x3, .int x4, .int x5, .int x6, .int y29, .int x8]) hq_197 (show decode prog_7_method_71_code 122 = .ok (.istore 7, 2) by decide +kernel) (z_le rfl) rfl ?_
            obtain ⟨y30, ey30⟩ : ∃ y30 : Int32, y30 = x8 + 1 := ⟨_, rfl⟩
            have k := k y30 ey30
            refine Ev_iinc (v := y30) (lo2 := [.ref 57, .int x1, .int x2, .int x3, .int x4, .int x5, .int x6, .int y29, .int y30]) hq_197 (show decode prog_7_method_71_code 124 = .ok (.iinc 8 1, 3) by decide +kernel) rfl (by rw [ey30]; rfl) rfl ?_
            refine Ev_goto (tgt := 50) hq_197 (show decode prog_7_method_71_code 127 = .ok (.goto (-77), 3) by decide +kernel) (by decide) ?_
            exact k
      · have k := k.2 (Classical.not_not.mp c7)
        refine Ev_iload hq_197 (show decode prog_7_method_71_code 75 = .ok (.iload 8, 2) by decide +kernel) rfl ?_
        refine Ev_goto (tgt := 82) hq_197 (show decode prog_7_method_71_code 77 = .ok (.goto 5, 3) by decide +kernel) (by decide) ?_
        obtain ⟨h31, k⟩ := k
        refine Ev_iast hq_197 (show decode prog_7_method_71_code 82 = .ok (.iastore, 1) by decide +kernel) (SGn hS (by decide)) (SGk hS rfl) (SGi hS rfl h31) ?_
        obtain ⟨I32, eI32⟩ : ∃ I32 : zI, I32 = z_up I 58 x2.toNatClampNeg x8 := ⟨_, rfl⟩
        have k := k I32 eI32
        rw [← eI32]
        refine Ev_aload_n hq_197 (show decode prog_7_method_71_code 83 = .ok (.aload_n 0, 1) by decide +kernel) rfl ?_
        refine Ev_getR hq_197 (show decode prog_7_method_71_code 84 = .ok (.getfield 13, 3) by decide +kernel) rfl (SGn hS (by decide)) (SGk hS rfl) (by decide) rfl (SGr hS rfl) ?_
        refine Ev_iload_n hq_197 (show decode prog_7_method_71_code 87 = .ok (.iload_n 2, 1) by decide +kernel) rfl ?_
        refine Ev_iload_n hq_197 (show decode prog_7_method_71_code 88 = .ok (.iload_n 3, 1) by decide +kernel) rfl ?_
        refine Ev_iconst (v := 1) hq_197 (show decode prog_7_method_71_code 89 = .ok (.iconst 1, 1) by decide +kernel) (by decide) ?_
        refine Ev_icmp_ne (tgt := 98) hq_197 (show decode prog_7_method_71_code 90 = .ok (.if_icmp .ne 8, 3) by decide +kernel) (by decide) (fun c33 => ?_) (fun c33 => ?_)
        · have k := k.1 c33
          refine Ev_iload hq_197 (show decode prog_7_method_71_code 98 = .ok (.iload 6, 2) by decide +kernel) rfl ?_
          obtain ⟨h34, k⟩ := k
          refine Ev_iast hq_197 (show decode prog_7_method_71_code 100 = .ok (.iastore, 1) by decide +kernel) (SGn hS (by decide)) (SGk hS rfl) (SGi hS rfl h34) ?_
          obtain ⟨I35, eI35⟩ : ∃ I35 : zI, I35 = z_up I32 59 x2.toNatClampNeg x6 := ⟨_, rfl⟩
          have k := k I35 eI35
          rw [← eI35]
          refine Ev_iload hq_197 (show decode prog_7_method_71_code 101 = .ok (.iload 7, 2) by decide +kernel) rfl ?_
          refine Ev_aload_n hq_197 (show decode prog_7_method_71_code 103 = .ok (.aload_n 0, 1) by decide +kernel) rfl ?_
          refine Ev_iload_n hq_197 (show decode prog_7_method_71_code 104 = .ok (.iload_n 1, 1) by decide +kernel) rfl ?_
          refine Ev_iload_n hq_197 (show decode prog_7_method_71_code 105 = .ok (.iload_n 2, 1) by decide +kernel) rfl ?_
          obtain ⟨r38, I36, h37, k⟩ := k
          refine Ev_virt (as := [.int x1, .int x2]) hq_197 (show decode prog_7_method_71_code 106 = .ok (.invokevirtual 260, 3) by decide +kernel) rfl hq_194 rfl (z_le rfl) ⟨(SGn hS (by decide)), (SGk hS rfl), by decide⟩ h37 ?_
          refine Ev_iconst (v := (-1)) hq_197 (show decode prog_7_method_71_code 109 = .ok (.iconst (-1), 1) by decide +kernel) (by decide) ?_
          refine Ev_icmp_ne (tgt := 120) hq_197 (show decode prog_7_method_71_code 110 = .ok (.if_icmp .ne 10, 3) by decide +kernel) (by decide) (fun c39 => ?_) (fun c39 => ?_)
          · have k := k.1 c39
            refine Ev_iconst (v := 0) hq_197 (show decode prog_7_method_71_code 120 = .ok (.iconst 0, 1) by decide +kernel) (by decide) ?_
            refine Ev_ior hq_197 (show decode prog_7_method_71_code 121 = .ok (.ior, 1) by decide +kernel) ?_
            obtain ⟨y40, ey40⟩ : ∃ y40 : Int32, y40 = (x7 ||| 0) := ⟨_, rfl⟩
            have k := k y40 ey40
            rw [← ey40]
            refine Ev_istore (lo2 := [.ref 57, .int x1, .int x2, .int x3, .int x4, .int x5, .int x6, .int y40, .int x8]) hq_197 (show decode prog_7_method_71_code 122 = .ok (.istore 7, 2) by decide +kernel) (z_le rfl) rfl ?_
            obtain ⟨y41, ey41⟩ : ∃ y41 : Int32, y41 = x8 + 1 := ⟨_, rfl⟩
            have k := k y41 ey41
            refine Ev_iinc (v := y41) (lo2 := [.ref 57, .int x1, .int x2, .int x3, .int x4, .int x5, .int x6, .int y40, .int y41]) hq_197 (show decode prog_7_method_71_code 124 = .ok (.iinc 8 1, 3) by decide +kernel) rfl (by rw [ey41]; rfl) rfl ?_
            refine Ev_goto (tgt := 50) hq_197 (show decode prog_7_method_71_code 127 = .ok (.goto (-77), 3) by decide +kernel) (by decide) ?_
            exact k
          · have k := k.2 (Classical.not_not.mp c39)
            refine Ev_iconst (v := 1) hq_197 (show decode prog_7_method_71_code 113 = .ok (.iconst 1, 1) by decide +kernel) (by decide) ?_
            refine Ev_iload hq_197 (show decode prog_7_method_71_code 114 = .ok (.iload 8, 2) by decide +kernel) rfl ?_
            refine Ev_ishl hq_197 (show decode prog_7_method_71_code 116 = .ok (.ishl, 1) by decide +kernel) ?_
            refine Ev_goto (tgt := 121) hq_197 (show decode prog_7_method_71_code 117 = .ok (.goto 4, 3) by decide +kernel) (by decide) ?_
            refine Ev_ior hq_197 (show decode prog_7_method_71_code 121 = .ok (.ior, 1) by decide +kernel) ?_
            obtain ⟨y42, ey42⟩ : ∃ y42 : Int32, y42 = (x7 ||| (1 <<< (x8 &&& 31))) := ⟨_, rfl⟩
            have k := k y42 ey42
            rw [← ey42]
            refine Ev_istore (lo2 := [.ref 57, .int x1, .int x2, .int x3, .int x4, .int x5, .int x6, .int y42, .int x8]) hq_197 (show decode prog_7_method_71_code 122 = .ok (.istore 7, 2) by decide +kernel) (z_le rfl) rfl ?_
            obtain ⟨y43, ey43⟩ : ∃ y43 : Int32, y43 = x8 + 1 := ⟨_, rfl⟩
            have k := k y43 ey43
            refine Ev_iinc (v := y43) (lo2 := [.ref 57, .int x1, .int x2, .int x3, .int x4, .int x5, .int x6, .int y42, .int y43]) hq_197 (show decode prog_7_method_71_code 124 = .ok (.iinc 8 1, 3) by decide +kernel) rfl (by rw [ey43]; rfl) rfl ?_
            refine Ev_goto (tgt := 50) hq_197 (show decode prog_7_method_71_code 127 = .ok (.goto (-77), 3) by decide +kernel) (by decide) ?_
            exact k
        · have k := k.2 (Classical.not_not.mp c33)
          refine Ev_iload hq_197 (show decode prog_7_method_71_code 93 = .ok (.iload 8, 2) by decide +kernel) rfl ?_
          refine Ev_goto (tgt := 100) hq_197 (show decode prog_7_method_71_code 95 = .ok (.goto 5, 3) by decide +kernel) (by decide) ?_
          obtain ⟨h44, k⟩ := k
          refine Ev_iast hq_197 (show decode prog_7_method_71_code 100 = .ok (.iastore, 1) by decide +kernel) (SGn hS (by decide)) (SGk hS rfl) (SGi hS rfl h44) ?_
          obtain ⟨I45, eI45⟩ : ∃ I45 : zI, I45 = z_up I32 59 x2.toNatClampNeg x8 := ⟨_, rfl⟩
          have k := k I45 eI45
          rw [← eI45]
          refine Ev_iload hq_197 (show decode prog_7_method_71_code 101 = .ok (.iload 7, 2) by decide +kernel) rfl ?_
          refine Ev_aload_n hq_197 (show decode prog_7_method_71_code 103 = .ok (.aload_n 0, 1) by decide +kernel) rfl ?_
          refine Ev_iload_n hq_197 (show decode prog_7_method_71_code 104 = .ok (.iload_n 1, 1) by decide +kernel) rfl ?_
          refine Ev_iload_n hq_197 (show decode prog_7_method_71_code 105 = .ok (.iload_n 2, 1) by decide +kernel) rfl ?_
          obtain ⟨r48, I46, h47, k⟩ := k
          refine Ev_virt (as := [.int x1, .int x2]) hq_197 (show decode prog_7_method_71_code 106 = .ok (.invokevirtual 260, 3) by decide +kernel) rfl hq_194 rfl (z_le rfl) ⟨(SGn hS (by decide)), (SGk hS rfl), by decide⟩ h47 ?_
          refine Ev_iconst (v := (-1)) hq_197 (show decode prog_7_method_71_code 109 = .ok (.iconst (-1), 1) by decide +kernel) (by decide) ?_
          refine Ev_icmp_ne (tgt := 120) hq_197 (show decode prog_7_method_71_code 110 = .ok (.if_icmp .ne 10, 3) by decide +kernel) (by decide) (fun c49 => ?_) (fun c49 => ?_)
          · have k := k.1 c49
            refine Ev_iconst (v := 0) hq_197 (show decode prog_7_method_71_code 120 = .ok (.iconst 0, 1) by decide +kernel) (by decide) ?_
            refine Ev_ior hq_197 (show decode prog_7_method_71_code 121 = .ok (.ior, 1) by decide +kernel) ?_
            obtain ⟨y50, ey50⟩ : ∃ y50 : Int32, y50 = (x7 ||| 0) := ⟨_, rfl⟩
            have k := k y50 ey50
            rw [← ey50]
            refine Ev_istore (lo2 := [.ref 57, .int x1, .int x2, .int x3, .int x4, .int x5, .int x6, .int y50, .int x8]) hq_197 (show decode prog_7_method_71_code 122 = .ok (.istore 7, 2) by decide +kernel) (z_le rfl) rfl ?_
            obtain ⟨y51, ey51⟩ : ∃ y51 : Int32, y51 = x8 + 1 := ⟨_, rfl⟩
            have k := k y51 ey51
            refine Ev_iinc (v := y51) (lo2 := [.ref 57, .int x1, .int x2, .int x3, .int x4, .int x5, .int x6, .int y50, .int y51]) hq_197 (show decode prog_7_method_71_code 124 = .ok (.iinc 8 1, 3) by decide +kernel) rfl (by rw [ey51]; rfl) rfl ?_
            refine Ev_goto (tgt := 50) hq_197 (show decode prog_7_method_71_code 127 = .ok (.goto (-77), 3) by decide +kernel) (by decide) ?_
            exact k
          · have k := k.2 (Classical.not_not.mp c49)
            refine Ev_iconst (v := 1) hq_197 (show decode prog_7_method_71_code 113 = .ok (.iconst 1, 1) by decide +kernel) (by decide) ?_
            refine Ev_iload hq_197 (show decode prog_7_method_71_code 114 = .ok (.iload 8, 2) by decide +kernel) rfl ?_
            refine Ev_ishl hq_197 (show decode prog_7_method_71_code 116 = .ok (.ishl, 1) by decide +kernel) ?_
            refine Ev_goto (tgt := 121) hq_197 (show decode prog_7_method_71_code 117 = .ok (.goto 4, 3) by decide +kernel) (by decide) ?_
            refine Ev_ior hq_197 (show decode prog_7_method_71_code 121 = .ok (.ior, 1) by decide +kernel) ?_
            obtain ⟨y52, ey52⟩ : ∃ y52 : Int32, y52 = (x7 ||| (1 <<< (x8 &&& 31))) := ⟨_, rfl⟩
            have k := k y52 ey52
            rw [← ey52]
            refine Ev_istore (lo2 := [.ref 57, .int x1, .int x2, .int x3, .int x4, .int x5, .int x6, .int y52, .int x8]) hq_197 (show decode prog_7_method_71_code 122 = .ok (.istore 7, 2) by decide +kernel) (z_le rfl) rfl ?_
            obtain ⟨y53, ey53⟩ : ∃ y53 : Int32, y53 = x8 + 1 := ⟨_, rfl⟩
            have k := k y53 ey53
            refine Ev_iinc (v := y53) (lo2 := [.ref 57, .int x1, .int x2, .int x3, .int x4, .int x5, .int x6, .int y52, .int y53]) hq_197 (show decode prog_7_method_71_code 124 = .ok (.iinc 8 1, 3) by decide +kernel) rfl (by rw [ey53]; rfl) rfl ?_
            refine Ev_goto (tgt := 50) hq_197 (show decode prog_7_method_71_code 127 = .ok (.goto (-77), 3) by decide +kernel) (by decide) ?_
            exact k
  · have k := k.2 (Classical.not_not.mp c1)
    refine Ev_bipush (v := 6) hq_197 (show decode prog_7_method_71_code 56 = .ok (.bipush 6, 2) by decide +kernel) (by decide) ?_
    refine Ev_goto (tgt := 63) hq_197 (show decode prog_7_method_71_code 58 = .ok (.goto 5, 3) by decide +kernel) (by decide) ?_
    refine Ev_icmp_ge (tgt := 130) hq_197 (show decode prog_7_method_71_code 63 = .ok (.if_icmp .ge 67, 3) by decide +kernel) (by decide) (fun c54 => ?_) (fun c54 => ?_)
    · have k := k.1 c54
      refine Ev_aload_n hq_197 (show decode prog_7_method_71_code 130 = .ok (.aload_n 0, 1) by decide +kernel) rfl ?_
      refine Ev_getR hq_197 (show decode prog_7_method_71_code 131 = .ok (.getfield 7, 3) by decide +kernel) rfl (SGn hS (by decide)) (SGk hS rfl) (by decide) rfl (SGr hS rfl) ?_
      refine Ev_iload_n hq_197 (show decode prog_7_method_71_code 134 = .ok (.iload_n 2, 1) by decide +kernel) rfl ?_
      refine Ev_iload hq_197 (show decode prog_7_method_71_code 135 = .ok (.iload 5, 2) by decide +kernel) rfl ?_
      obtain ⟨h55, k⟩ := k
      refine Ev_iast hq_197 (show decode prog_7_method_71_code 137 = .ok (.iastore, 1) by decide +kernel) (SGn hS (by decide)) (SGk hS rfl) (SGi hS rfl h55) ?_
      obtain ⟨I56, eI56⟩ : ∃ I56 : zI, I56 = z_up I 58 x2.toNatClampNeg x5 := ⟨_, rfl⟩
      have k := k I56 eI56
      rw [← eI56]
      refine Ev_aload_n hq_197 (show decode prog_7_method_71_code 138 = .ok (.aload_n 0, 1) by decide +kernel) rfl ?_
      refine Ev_getR hq_197 (show decode prog_7_method_71_code 139 = .ok (.getfield 13, 3) by decide +kernel) rfl (SGn hS (by decide)) (SGk hS rfl) (by decide) rfl (SGr hS rfl) ?_
      refine Ev_iload_n hq_197 (show decode prog_7_method_71_code 142 = .ok (.iload_n 2, 1) by decide +kernel) rfl ?_
      refine Ev_iload hq_197 (show decode prog_7_method_71_code 143 = .ok (.iload 6, 2) by decide +kernel) rfl ?_
      obtain ⟨h57, k⟩ := k
      refine Ev_iast hq_197 (show decode prog_7_method_71_code 145 = .ok (.iastore, 1) by decide +kernel) (SGn hS (by decide)) (SGk hS rfl) (SGi hS rfl h57) ?_
      obtain ⟨I58, eI58⟩ : ∃ I58 : zI, I58 = z_up I56 59 x2.toNatClampNeg x6 := ⟨_, rfl⟩
      have k := k I58 eI58
      rw [← eI58]
      refine Ev_iload hq_197 (show decode prog_7_method_71_code 146 = .ok (.iload 7, 2) by decide +kernel) rfl ?_
      exact Ev_iret hq_197 (show decode prog_7_method_71_code 148 = .ok (.ireturn, 1) by decide +kernel) rfl k
    · have k := k.2 c54
      refine Ev_aload_n hq_197 (show decode prog_7_method_71_code 66 = .ok (.aload_n 0, 1) by decide +kernel) rfl ?_
      refine Ev_getR hq_197 (show decode prog_7_method_71_code 67 = .ok (.getfield 7, 3) by decide +kernel) rfl (SGn hS (by decide)) (SGk hS rfl) (by decide) rfl (SGr hS rfl) ?_
      refine Ev_iload_n hq_197 (show decode prog_7_method_71_code 70 = .ok (.iload_n 2, 1) by decide +kernel) rfl ?_
      refine Ev_iload_n hq_197 (show decode prog_7_method_71_code 71 = .ok (.iload_n 3, 1) by decide +kernel) rfl ?_
      refine Ev_if_ne (tgt := 80) hq_197 (show decode prog_7_method_71_code 72 = .ok (.ifCond .ne 8, 3) by decide +kernel) (by decide) (fun c59 => ?_) (fun c59 => ?_)
      · have k := k.1 c59
        refine Ev_iload hq_197 (show decode prog_7_method_71_code 80 = .ok (.iload 5, 2) by decide +kernel) rfl ?_
        obtain ⟨h60, k⟩ := k
        refine Ev_iast hq_197 (show decode prog_7_method_71_code 82 = .ok (.iastore, 1) by decide +kernel) (SGn hS (by decide)) (SGk hS rfl) (SGi hS rfl h60) ?_
        obtain ⟨I61, eI61⟩ : ∃ I61 : zI, I61 = z_up I 58 x2.toNatClampNeg x5 := ⟨_, rfl⟩
        have k := k I61 eI61
        rw [← eI61]
        refine Ev_aload_n hq_197 (show decode prog_7_method_71_code 83 = .ok (.aload_n 0, 1) by decide +kernel) rfl ?_
        refine Ev_getR hq_197 (show decode prog_7_method_71_code 84 = .ok (.getfield 13, 3) by decide +kernel) rfl (SGn hS (by decide)) (SGk hS rfl) (by decide) rfl (SGr hS rfl) ?_
        refine Ev_iload_n hq_197 (show decode prog_7_method_71_code 87 = .ok (.iload_n 2, 1) by decide +kernel) rfl ?_
        refine Ev_iload_n hq_197 (show decode prog_7_method_71_code 88 = .ok (.iload_n 3, 1) by decide +kernel) rfl ?_
        refine Ev_iconst (v := 1) hq_197 (show decode prog_7_method_71_code 89 = .ok (.iconst 1, 1) by decide +kernel) (by decide) ?_
        refine Ev_icmp_ne (tgt := 98) hq_197 (show decode prog_7_method_71_code 90 = .ok (.if_icmp .ne 8, 3) by decide +kernel) (by decide) (fun c62 => ?_) (fun c62 => ?_)
        · have k := k.1 c62
          refine Ev_iload hq_197 (show decode prog_7_method_71_code 98 = .ok (.iload 6, 2) by decide +kernel) rfl ?_
          obtain ⟨h63, k⟩ := k
          refine Ev_iast hq_197 (show decode prog_7_method_71_code 100 = .ok (.iastore, 1) by decide +kernel) (SGn hS (by decide)) (SGk hS rfl) (SGi hS rfl h63) ?_
          obtain ⟨I64, eI64⟩ : ∃ I64 : zI, I64 = z_up I61 59 x2.toNatClampNeg x6 := ⟨_, rfl⟩
          have k := k I64 eI64
          rw [← eI64]
          refine Ev_iload hq_197 (show decode prog_7_method_71_code 101 = .ok (.iload 7, 2) by decide +kernel) rfl ?_
          refine Ev_aload_n hq_197 (show decode prog_7_method_71_code 103 = .ok (.aload_n 0, 1) by decide +kernel) rfl ?_
          refine Ev_iload_n hq_197 (show decode prog_7_method_71_code 104 = .ok (.iload_n 1, 1) by decide +kernel) rfl ?_
          refine Ev_iload_n hq_197 (show decode prog_7_method_71_code 105 = .ok (.iload_n 2, 1) by decide +kernel) rfl ?_
          obtain ⟨r67, I65, h66, k⟩ := k
          refine Ev_virt (as := [.int x1, .int x2]) hq_197 (show decode prog_7_method_71_code 106 = .ok (.invokevirtual 260, 3) by decide +kernel) rfl hq_194 rfl (z_le rfl) ⟨(SGn hS (by decide)), (SGk hS rfl), by decide⟩ h66 ?_
          refine Ev_iconst (v := (-1)) hq_197 (show decode prog_7_method_71_code 109 = .ok (.iconst (-1), 1) by decide +kernel) (by decide) ?_
          refine Ev_icmp_ne (tgt := 120) hq_197 (show decode prog_7_method_71_code 110 = .ok (.if_icmp .ne 10, 3) by decide +kernel) (by decide) (fun c68 => ?_) (fun c68 => ?_)
          · have k := k.1 c68
            refine Ev_iconst (v := 0) hq_197 (show decode prog_7_method_71_code 120 = .ok (.iconst 0, 1) by decide +kernel) (by decide) ?_
            refine Ev_ior hq_197 (show decode prog_7_method_71_code 121 = .ok (.ior, 1) by decide +kernel) ?_
            obtain ⟨y69, ey69⟩ : ∃ y69 : Int32, y69 = (x7 ||| 0) := ⟨_, rfl⟩
            have k := k y69 ey69
            rw [← ey69]
            refine Ev_istore (lo2 := [.ref 57, .int x1, .int x2, .int x3, .int x4, .int x5, .int x6, .int y69, .int x8]) hq_197 (show decode prog_7_method_71_code 122 = .ok (.istore 7, 2) by decide +kernel) (z_le rfl) rfl ?_
            obtain ⟨y70, ey70⟩ : ∃ y70 : Int32, y70 = x8 + 1 := ⟨_, rfl⟩
            have k := k y70 ey70
            refine Ev_iinc (v := y70) (lo2 := [.ref 57, .int x1, .int x2, .int x3, .int x4, .int x5, .int x6, .int y69, .int y70]) hq_197 (show decode prog_7_method_71_code 124 = .ok (.iinc 8 1, 3) by decide +kernel) rfl (by rw [ey70]; rfl) rfl ?_
            refine Ev_goto (tgt := 50) hq_197 (show decode prog_7_method_71_code 127 = .ok (.goto (-77), 3) by decide +kernel) (by decide) ?_
            exact k
          · have k := k.2 (Classical.not_not.mp c68)
            refine Ev_iconst (v := 1) hq_197 (show decode prog_7_method_71_code 113 = .ok (.iconst 1, 1) by decide +kernel) (by decide) ?_
            refine Ev_iload hq_197 (show decode prog_7_method_71_code 114 = .ok (.iload 8, 2) by decide +kernel) rfl ?_
            refine Ev_ishl hq_197 (show decode prog_7_method_71_code 116 = .ok (.ishl, 1) by decide +kernel) ?_
            refine Ev_goto (tgt := 121) hq_197 (show decode prog_7_method_71_code 117 = .ok (.goto 4, 3) by decide +kernel) (by decide) ?_
            refine Ev_ior hq_197 (show decode prog_7_method_71_code 121 = .ok (.ior, 1) by decide +kernel) ?_
            obtain ⟨y71, ey71⟩ : ∃ y71 : Int32, y71 = (x7 ||| (1 <<< (x8 &&& 31))) := ⟨_, rfl⟩
            have k := k y71 ey71
            rw [← ey71]
            refine Ev_istore (lo2 := [.ref 57, .int x1, .int x2, .int x3, .int x4, .int x5, .int x6, .int y71, .int x8]) hq_197 (show decode prog_7_method_71_code 122 = .ok (.istore 7, 2) by decide +kernel) (z_le rfl) rfl ?_
            obtain ⟨y72, ey72⟩ : ∃ y72 : Int32, y72 = x8 + 1 := ⟨_, rfl⟩
            have k := k y72 ey72
            refine Ev_iinc (v := y72) (lo2 := [.ref 57, .int x1, .int x2, .int x3, .int x4, .int x5, .int x6, .int y71, .int y72]) hq_197 (show decode prog_7_method_71_code 124 = .ok (.iinc 8 1, 3) by decide +kernel) rfl (by rw [ey72]; rfl) rfl ?_
            refine Ev_goto (tgt := 50) hq_197 (show decode prog_7_method_71_code 127 = .ok (.goto (-77), 3) by decide +kernel) (by decide) ?_
            exact k
        · have k := k.2 (Classical.not_not.mp c62)
          refine Ev_iload hq_197 (show decode prog_7_method_71_code 93 = .ok (.iload 8, 2) by decide +kernel) rfl ?_
          refine Ev_goto (tgt := 100) hq_197 (show decode prog_7_method_71_code 95 = .ok (.goto 5, 3) by decide +kernel) (by decide) ?_
          obtain ⟨h73, k⟩ := k
          refine Ev_iast hq_197 (show decode prog_7_method_71_code 100 = .ok (.iastore, 1) by decide +kernel) (SGn hS (by decide)) (SGk hS rfl) (SGi hS rfl h73) ?_
          obtain ⟨I74, eI74⟩ : ∃ I74 : zI, I74 = z_up I61 59 x2.toNatClampNeg x8 := ⟨_, rfl⟩
          have k := k I74 eI74
          rw [← eI74]
          refine Ev_iload hq_197 (show decode prog_7_method_71_code 101 = .ok (.iload 7, 2) by decide +kernel) rfl ?_
          refine Ev_aload_n hq_197 (show decode prog_7_method_71_code 103 = .ok (.aload_n 0, 1) by decide +kernel) rfl ?_
          refine Ev_iload_n hq_197 (show decode prog_7_method_71_code 104 = .ok (.iload_n 1, 1) by decide +kernel) rfl ?_
          refine Ev_iload_n hq_197 (show decode prog_7_method_71_code 105 = .ok (.iload_n 2, 1) by decide +kernel) rfl ?_
          obtain ⟨r77, I75, h76, k⟩ := k
          refine Ev_virt (as := [.int x1, .int x2]) hq_197 (show decode prog_7_method_71_code 106 = .ok (.invokevirtual 260, 3) by decide +kernel) rfl hq_194 rfl (z_le rfl) ⟨(SGn hS (by decide)), (SGk hS rfl), by decide⟩ h76 ?_
          refine Ev_iconst (v := (-1)) hq_197 (show decode prog_7_method_71_code 109 = .ok (.iconst (-1), 1) by decide +kernel) (by decide) ?_
          refine Ev_icmp_ne (tgt := 120) hq_197 (show decode prog_7_method_71_code 110 = .ok (.if_icmp .ne 10, 3) by decide +kernel) (by decide) (fun c78 => ?_) (fun c78 => ?_)
          · have k := k.1 c78
            refine Ev_iconst (v := 0) hq_197 (show decode prog_7_method_71_code 120 = .ok (.iconst 0, 1) by decide +kernel) (by decide) ?_
            refine Ev_ior hq_197 (show decode prog_7_method_71_code 121 = .ok (.ior, 1) by decide +kernel) ?_
            obtain ⟨y79, ey79⟩ : ∃ y79 : Int32, y79 = (x7 ||| 0) := ⟨_, rfl⟩
            have k := k y79 ey79
            rw [← ey79]
            refine Ev_istore (lo2 := [.ref 57, .int x1, .int x2, .int x3, .int x4, .int x5, .int x6, .int y79, .int x8]) hq_197 (show decode prog_7_method_71_code 122 = .ok (.istore 7, 2) by decide +kernel) (z_le rfl) rfl ?_
            obtain ⟨y80, ey80⟩ : ∃ y80 : Int32, y80 = x8 + 1 := ⟨_, rfl⟩
            have k := k y80 ey80
            refine Ev_iinc (v := y80) (lo2 := [.ref 57, .int x1, .int x2, .int x3, .int x4, .int x5, .int x6, .int y79, .int y80]) hq_197 (show decode prog_7_method_71_code 124 = .ok (.iinc 8 1, 3) by decide +kernel) rfl (by rw [ey80]; rfl) rfl ?_
            refine Ev_goto (tgt := 50) hq_197 (show decode prog_7_method_71_code 127 = .ok (.goto (-77), 3) by decide +kernel) (by decide) ?_
            exact k
          · have k := k.2 (Classical.not_not.mp c78)
            refine Ev_iconst (v := 1) hq_197 (show decode prog_7_method_71_code 113 = .ok (.iconst 1, 1) by decide +kernel) (by decide) ?_
            refine Ev_iload hq_197 (show decode prog_7_method_71_code 114 = .ok (.iload 8, 2) by decide +kernel) rfl ?_
            refine Ev_ishl hq_197 (show decode prog_7_method_71_code 116 = .ok (.ishl, 1) by decide +kernel) ?_
            refine Ev_goto (tgt := 121) hq_197 (show decode prog_7_method_71_code 117 = .ok (.goto 4, 3) by decide +kernel) (by decide) ?_
            refine Ev_ior hq_197 (show decode prog_7_method_71_code 121 = .ok (.ior, 1) by decide +kernel) ?_
            obtain ⟨y81, ey81⟩ : ∃ y81 : Int32, y81 = (x7 ||| (1 <<< (x8 &&& 31))) := ⟨_, rfl⟩
            have k := k y81 ey81
            rw [← ey81]
            refine Ev_istore (lo2 := [.ref 57, .int x1, .int x2, .int x3, .int x4, .int x5, .int x6, .int y81, .int x8]) hq_197 (show decode prog_7_method_71_code 122 = .ok (.istore 7, 2) by decide +kernel) (z_le rfl) rfl ?_
            obtain ⟨y82, ey82⟩ : ∃ y82 : Int32, y82 = x8 + 1 := ⟨_, rfl⟩
            have k := k y82 ey82
            refine Ev_iinc (v := y82) (lo2 := [.ref 57, .int x1, .int x2, .int x3, .int x4, .int x5, .int x6, .int y81, .int y82]) hq_197 (show decode prog_7_method_71_code 124 = .ok (.iinc 8 1, 3) by decide +kernel) rfl (by rw [ey82]; rfl) rfl ?_
            refine Ev_goto (tgt := 50) hq_197 (show decode prog_7_method_71_code 127 = .ok (.goto (-77), 3) by decide +kernel) (by decide) ?_
            exact k
      · have k := k.2 (Classical.not_not.mp c59)
        refine Ev_iload hq_197 (show decode prog_7_method_71_code 75 = .ok (.iload 8, 2) by decide +kernel) rfl ?_
        refine Ev_goto (tgt := 82) hq_197 (show decode prog_7_method_71_code 77 = .ok (.goto 5, 3) by decide +kernel) (by decide) ?_
        obtain ⟨h83, k⟩ := k
        refine Ev_iast hq_197 (show decode prog_7_method_71_code 82 = .ok (.iastore, 1) by decide +kernel) (SGn hS (by decide)) (SGk hS rfl) (SGi hS rfl h83) ?_
        obtain ⟨I84, eI84⟩ : ∃ I84 : zI, I84 = z_up I 58 x2.toNatClampNeg x8 := ⟨_, rfl⟩
        have k := k I84 eI84
        rw [← eI84]
        refine Ev_aload_n hq_197 (show decode prog_7_method_71_code 83 = .ok (.aload_n 0, 1) by decide +kernel) rfl ?_
        refine Ev_getR hq_197 (show decode prog_7_method_71_code 84 = .ok (.getfield 13, 3) by decide +kernel) rfl (SGn hS (by decide)) (SGk hS rfl) (by decide) rfl (SGr hS rfl) ?_
        refine Ev_iload_n hq_197 (show decode prog_7_method_71_code 87 = .ok (.iload_n 2, 1) by decide +kernel) rfl ?_
        refine Ev_iload_n hq_197 (show decode prog_7_method_71_code 88 = .ok (.iload_n 3, 1) by decide +kernel) rfl ?_
        refine Ev_iconst (v := 1) hq_197 (show decode prog_7_method_71_code 89 = .ok (.iconst 1, 1) by decide +kernel) (by decide) ?_
        refine Ev_icmp_ne (tgt := 98) hq_197 (show decode prog_7_method_71_code 90 = .ok (.if_icmp .ne 8, 3) by decide +kernel) (by decide) (fun c85 => ?_) (fun c85 => ?_)
        · have k := k.1 c85
          refine Ev_iload hq_197 (show decode prog_7_method_71_code 98 = .ok (.iload 6, 2) by decide +kernel) rfl ?_
          obtain ⟨h86, k⟩ := k
          refine Ev_iast hq_197 (show decode prog_7_method_71_code 100 = .ok (.iastore, 1) by decide +kernel) (SGn hS (by decide)) (SGk hS rfl) (SGi hS rfl h86) ?_
          obtain ⟨I87, eI87⟩ : ∃ I87 : zI, I87 = z_up I84 59 x2.toNatClampNeg x6 := ⟨_, rfl⟩
          have k := k I87 eI87
          rw [← eI87]
          refine Ev_iload hq_197 (show decode prog_7_method_71_code 101 = .ok (.iload 7, 2) by decide +kernel) rfl ?_
          refine Ev_aload_n hq_197 (show decode prog_7_method_71_code 103 = .ok (.aload_n 0, 1) by decide +kernel) rfl ?_
          refine Ev_iload_n hq_197 (show decode prog_7_method_71_code 104 = .ok (.iload_n 1, 1) by decide +kernel) rfl ?_
          refine Ev_iload_n hq_197 (show decode prog_7_method_71_code 105 = .ok (.iload_n 2, 1) by decide +kernel) rfl ?_
          obtain ⟨r90, I88, h89, k⟩ := k
          refine Ev_virt (as := [.int x1, .int x2]) hq_197 (show decode prog_7_method_71_code 106 = .ok (.invokevirtual 260, 3) by decide +kernel) rfl hq_194 rfl (z_le rfl) ⟨(SGn hS (by decide)), (SGk hS rfl), by decide⟩ h89 ?_
          refine Ev_iconst (v := (-1)) hq_197 (show decode prog_7_method_71_code 109 = .ok (.iconst (-1), 1) by decide +kernel) (by decide) ?_
          refine Ev_icmp_ne (tgt := 120) hq_197 (show decode prog_7_method_71_code 110 = .ok (.if_icmp .ne 10, 3) by decide +kernel) (by decide) (fun c91 => ?_) (fun c91 => ?_)
          · have k := k.1 c91
            refine Ev_iconst (v := 0) hq_197 (show decode prog_7_method_71_code 120 = .ok (.iconst 0, 1) by decide +kernel) (by decide) ?_
            refine Ev_ior hq_197 (show decode prog_7_method_71_code 121 = .ok (.ior, 1) by decide +kernel) ?_
            obtain ⟨y92, ey92⟩ : ∃ y92 : Int32, y92 = (x7 ||| 0) := ⟨_, rfl⟩
            have k := k y92 ey92
            rw [← ey92]
            refine Ev_istore (lo2 := [.ref 57, .int x1, .int x2, .int x3, .int x4, .int x5, .int x6, .int y92, .int x8]) hq_197 (show decode prog_7_method_71_code 122 = .ok (.istore 7, 2) by decide +kernel) (z_le rfl) rfl ?_
            obtain ⟨y93, ey93⟩ : ∃ y93 : Int32, y93 = x8 + 1 := ⟨_, rfl⟩
            have k := k y93 ey93
            refine Ev_iinc (v := y93) (lo2 := [.ref 57, .int x1, .int x2, .int x3, .int x4, .int x5, .int x6, .int y92, .int y93]) hq_197 (show decode prog_7_method_71_code 124 = .ok (.iinc 8 1, 3) by decide +kernel) rfl (by rw [ey93]; rfl) rfl ?_
            refine Ev_goto (tgt := 50) hq_197 (show decode prog_7_method_71_code 127 = .ok (.goto (-77), 3) by decide +kernel) (by decide) ?_
            exact k
          · have k := k.2 (Classical.not_not.mp c91)
            refine Ev_iconst (v := 1) hq_197 (show decode prog_7_method_71_code 113 = .ok (.iconst 1, 1) by decide +kernel) (by decide) ?_
            refine Ev_iload hq_197 (show decode prog_7_method_71_code 114 = .ok (.iload 8, 2) by decide +kernel) rfl ?_
            refine Ev_ishl hq_197 (show decode prog_7_method_71_code 116 = .ok (.ishl, 1) by decide +kernel) ?_
            refine Ev_goto (tgt := 121) hq_197 (show decode prog_7_method_71_code 117 = .ok (.goto 4, 3) by decide +kernel) (by decide) ?_
            refine Ev_ior hq_197 (show decode prog_7_method_71_code 121 = .ok (.ior, 1) by decide +kernel) ?_
            obtain ⟨y94, ey94⟩ : ∃ y94 : Int32, y94 = (x7 ||| (1 <<< (x8 &&& 31))) := ⟨_, rfl⟩
            have k := k y94 ey94
            rw [← ey94]
            refine Ev_istore (lo2 := [.ref 57, .int x1, .int x2, .int x3, .int x4, .int x5, .int x6, .int y94, .int x8]) hq_197 (show decode prog_7_method_71_code 122 = .ok (.istore 7, 2) by decide +kernel) (z_le rfl) rfl ?_
            obtain ⟨y95, ey95⟩ : ∃ y95 : Int32, y95 = x8 + 1 := ⟨_, rfl⟩
            have k := k y95 ey95
            refine Ev_iinc (v := y95) (lo2 := [.ref 57, .int x1, .int x2, .int x3, .int x4, .int x5, .int x6, .int y94, .int y95]) hq_197 (show decode prog_7_method_71_code 124 = .ok (.iinc 8 1, 3) by decide +kernel) rfl (by rw [ey95]; rfl) rfl ?_
            refine Ev_goto (tgt := 50) hq_197 (show decode prog_7_method_71_code 127 = .ok (.goto (-77), 3) by decide +kernel) (by decide) ?_
            exact k
        · have k := k.2 (Classical.not_not.mp c85)
          refine Ev_iload hq_197 (show decode prog_7_method_71_code 93 = .ok (.iload 8, 2) by decide +kernel) rfl ?_
          refine Ev_goto (tgt := 100) hq_197 (show decode prog_7_method_71_code 95 = .ok (.goto 5, 3) by decide +kernel) (by decide) ?_
          obtain ⟨h96, k⟩ := k
          refine Ev_iast hq_197 (show decode prog_7_method_71_code 100 = .ok (.iastore, 1) by decide +kernel) (SGn hS (by decide)) (SGk hS rfl) (SGi hS rfl h96) ?_
          obtain ⟨I97, eI97⟩ : ∃ I97 : zI, I97 = z_up I84 59 x2.toNatClampNeg x8 := ⟨_, rfl⟩
          have k := k I97 eI97
          rw [← eI97]
          refine Ev_iload hq_197 (show decode prog_7_method_71_code 101 = .ok (.iload 7, 2) by decide +kernel) rfl ?_
          refine Ev_aload_n hq_197 (show decode prog_7_method_71_code 103 = .ok (.aload_n 0, 1) by decide +kernel) rfl ?_
          refine Ev_iload_n hq_197 (show decode prog_7_method_71_code 104 = .ok (.iload_n 1, 1) by decide +kernel) rfl ?_
          refine Ev_iload_n hq_197 (show decode prog_7_method_71_code 105 = .ok (.iload_n 2, 1) by decide +kernel) rfl ?_
          obtain ⟨r100, I98, h99, k⟩ := k
          refine Ev_virt (as := [.int x1, .int x2]) hq_197 (show decode prog_7_method_71_code 106 = .ok (.invokevirtual 260, 3) by decide +kernel) rfl hq_194 rfl (z_le rfl) ⟨(SGn hS (by decide)), (SGk hS rfl), by decide⟩ h99 ?_
          refine Ev_iconst (v := (-1)) hq_197 (show decode prog_7_method_71_code 109 = .ok (.iconst (-1), 1) by decide +kernel) (by decide) ?_
          refine Ev_icmp_ne (tgt := 120) hq_197 (show decode prog_7_method_71_code 110 = .ok (.if_icmp .ne 10, 3) by decide +kernel) (by decide) (fun c101 => ?_) (fun c101 => ?_)
          · have k := k.1 c101
            refine Ev_iconst (v := 0) hq_197 (show decode prog_7_method_71_code 120 = .ok (.iconst 0, 1) by decide +kernel) (by decide) ?_
            refine Ev_ior hq_197 (show decode prog_7_method_71_code 121 = .ok (.ior, 1) by decide +kernel) ?_
            obtain ⟨y102, ey102⟩ : ∃ y102 : Int32, y102 = (x7 ||| 0) := ⟨_, rfl⟩
            have k := k y102 ey102
            rw [← ey102]
            refine Ev_istore (lo2 := [.ref 57, .int x1, .int x2, .int x3, .int x4, .int x5, .int x6, .int y102, .int x8]) hq_197 (show decode prog_7_method_71_code 122 = .ok (.istore 7, 2) by decide +kernel) (z_le rfl) rfl ?_
            obtain ⟨y103, ey103⟩ : ∃ y103 : Int32, y103 = x8 + 1 := ⟨_, rfl⟩
            have k := k y103 ey103
            refine Ev_iinc (v := y103) (lo2 := [.ref 57, .int x1, .int x2, .int x3, .int x4, .int x5, .int x6, .int y102, .int y103]) hq_197 (show decode prog_7_method_71_code 124 = .ok (.iinc 8 1, 3) by decide +kernel) rfl (by rw [ey103]; rfl) rfl ?_
            refine Ev_goto (tgt := 50) hq_197 (show decode prog_7_method_71_code 127 = .ok (.goto (-77), 3) by decide +kernel) (by decide) ?_
            exact k
          · have k := k.2 (Classical.not_not.mp c101)
            refine Ev_iconst (v := 1) hq_197 (show decode prog_7_method_71_code 113 = .ok (.iconst 1, 1) by decide +kernel) (by decide) ?_
            refine Ev_iload hq_197 (show decode prog_7_method_71_code 114 = .ok (.iload 8, 2) by decide +kernel) rfl ?_
            refine Ev_ishl hq_197 (show decode prog_7_method_71_code 116 = .ok (.ishl, 1) by decide +kernel) ?_
            refine Ev_goto (tgt := 121) hq_197 (show decode prog_7_method_71_code 117 = .ok (.goto 4, 3) by decide +kernel) (by decide) ?_
            refine Ev_ior hq_197 (show decode prog_7_method_71_code 121 = .ok (.ior, 1) by decide +kernel) ?_
            obtain ⟨y104, ey104⟩ : ∃ y104 : Int32, y104 = (x7 ||| (1 <<< (x8 &&& 31))) := ⟨_, rfl⟩
            have k := k y104 ey104
            rw [← ey104]
            refine Ev_istore (lo2 := [.ref 57, .int x1, .int x2, .int x3, .int x4, .int x5, .int x6, .int y104, .int x8]) hq_197 (show decode prog_7_method_71_code 122 = .ok (.istore 7, 2) by decide +kernel) (z_le rfl) rfl ?_
            obtain ⟨y105, ey105⟩ : ∃ y105 : Int32, y105 = x8 + 1 := ⟨_, rfl⟩
            have k := k y105 ey105
            refine Ev_iinc (v := y105) (lo2 := [.ref 57, .int x1, .int x2, .int x3, .int x4, .int x5, .int x6, .int y104, .int y105]) hq_197 (show decode prog_7_method_71_code 124 = .ok (.iinc 8 1, 3) by decide +kernel) rfl (by rw [ey105]; rfl) rfl ?_
            refine Ev_goto (tgt := 50) hq_197 (show decode prog_7_method_71_code 127 = .ok (.goto (-77), 3) by decide +kernel) (by decide) ?_
            exact k
set_option maxRecDepth 20000 in
theorem wp_Z_laws {X : Nat × (Nat → Int32)} {d : Nat} {G : zG} {I : zI} {res : Option Value × zG × zI} (x1 : Int32) (x2 : Int32) (hS : SG G) 
    (k : ∃ (r3 : Int32) (I1 : zI), Cv X d 192 [.ref 57, .int x1, .int x2] G I (some (.int r3), G, I1) ∧ ((r3 = 0 → ∀ y5 : Int32, y5 = (I1 57 9) → Ev X (d + 1) 198 25 [.ref 57, .int x1, .int x2, .int r3, .int y5, .int 0, .int 0] [] G I1 res) ∧ (¬ r3 = 0 → res = (some (.int r3), G, I1)))) :
    Ev X (d + 1) 198 0 [.ref 57, .int x1, .int x2, zU, zU, zU, zU] [] G I res := by
  refine Ev_aload_n hq_198 (show decode prog_7_method_72_code 0 = .ok (.aload_n 0, 1) by decide +kernel) rfl ?_
  refine Ev_iload_n hq_198 (show decode prog_7_method_72_code 1 = .ok (.iload_n 1, 1) by decide +kernel) rfl ?_
  refine Ev_iload_n hq_198 (show decode prog_7_method_72_code 2 = .ok (.iload_n 2, 1) by decide +kernel) rfl ?_
  obtain ⟨r3, I1, h2, k⟩ := k
  refine Ev_virt (as := [.int x1, .int x2]) hq_198 (show decode prog_7_method_72_code 3 = .ok (.invokevirtual 257, 3) by decide +kernel) rfl hq_192 rfl (z_le rfl) ⟨(SGn hS (by decide)), (SGk hS rfl), by decide⟩ h2 ?_
  refine Ev_istore_n (lo2 := [.ref 57, .int x1, .int x2, .int r3, zU, zU, zU]) hq_198 (show decode prog_7_method_72_code 6 = .ok (.istore_n 3, 1) by decide +kernel) (z_le rfl) rfl ?_
  refine Ev_iload_n hq_198 (show decode prog_7_method_72_code 7 = .ok (.iload_n 3, 1) by decide +kernel) rfl ?_
  refine Ev_if_eq (tgt := 13) hq_198 (show decode prog_7_method_72_code 8 = .ok (.ifCond .eq 5, 3) by decide +kernel) (by decide) (fun c4 => ?_) (fun c4 => ?_)
  · have k := k.1 c4
    refine Ev_aload_n hq_198 (show decode prog_7_method_72_code 13 = .ok (.aload_n 0, 1) by decide +kernel) rfl ?_
    refine Ev_getI hq_198 (show decode prog_7_method_72_code 14 = .ok (.getfield 104, 3) by decide +kernel) rfl (SGn hS (by decide)) (SGk hS rfl) (by decide) rfl ?_
    obtain ⟨y5, ey5⟩ : ∃ y5 : Int32, y5 = (I1 57 9) := ⟨_, rfl⟩
    have k := k y5 ey5
    rw [← ey5]
    refine Ev_istore (lo2 := [.ref 57, .int x1, .int x2, .int r3, .int y5, zU, zU]) hq_198 (show decode prog_7_method_72_code 17 = .ok (.istore 4, 2) by decide +kernel) (z_le rfl) rfl ?_
    refine Ev_iconst (v := 0) hq_198 (show decode prog_7_method_72_code 19 = .ok (.iconst 0, 1) by decide +kernel) (by decide) ?_
    refine Ev_istore (lo2 := [.ref 57, .int x1, .int x2, .int r3, .int y5, .int 0, zU]) hq_198 (show decode prog_7_method_72_code 20 = .ok (.istore 5, 2) by decide +kernel) (z_le rfl) rfl ?_
    refine Ev_iconst (v := 0) hq_198 (show decode prog_7_method_72_code 22 = .ok (.iconst 0, 1) by decide +kernel) (by decide) ?_
    refine Ev_istore (lo2 := [.ref 57, .int x1, .int x2, .int r3, .int y5, .int 0, .int 0]) hq_198 (show decode prog_7_method_72_code 23 = .ok (.istore 6, 2) by decide +kernel) (z_le rfl) rfl ?_
    exact k
  · have k := k.2 c4
    refine Ev_iload_n hq_198 (show decode prog_7_method_72_code 11 = .ok (.iload_n 3, 1) by decide +kernel) rfl ?_
    exact Ev_iret hq_198 (show decode prog_7_method_72_code 12 = .ok (.ireturn, 1) by decide +kernel) rfl k
set_option maxRecDepth 20000 in
theorem wp_Z_laws_25 {X : Nat × (Nat → Int32)} {d : Nat} {G : zG} {I : zI} {res : Option Value × zG × zI} (x1 : Int32) (x2 : Int32) (x3 : Int32) (x4 : Int32) (x5 : Int32) (x6 : Int32) (hS : SG G) 
    (k : ((I 57 8) ≤ x6 → (∀ I2 : zI, I2 = z_up I 57 9 x4 → res = (some (.int x5), G, I2))) ∧ (¬ (I 57 8) ≤ x6 → (∀ I3 : zI, I3 = z_up I 57 9 x6 → ∃ (r6 : Int32) (I4 : zI), Cv X d 194 [.ref 57, .int x1, .int x2] G I3 (some (.int r6), G, I4) ∧ ((¬ r6 = (-1) → ∀ y8 : Int32, y8 = (x5 ||| 0) → ∀ y9 : Int32, y9 = x6 + 1 → Ev X (d + 1) 198 25 [.ref 57, .int x1, .int x2, .int x3, .int x4, .int y8, .int y9] [] G I4 res) ∧ (r6 = (-1) → ∀ y10 : Int32, y10 = (x5 ||| (1 <<< (x6 &&& 31))) → ∀ y11 : Int32, y11 = x6 + 1 → Ev X (d + 1) 198 25 [.ref 57, .int x1, .int x2, .int x3, .int x4, .int y10, .int y11] [] G I4 res))))) :
    Ev X (d + 1) 198 25 [.ref 57, .int x1, .int x2, .int x3, .int x4, .int x5, .int x6] [] G I res := by
  refine Ev_iload hq_198 (show decode prog_7_method_72_code 25 = .ok (.iload 6, 2) by decide +kernel) rfl ?_
  refine Ev_aload_n hq_198 (show decode prog_7_method_72_code 27 = .ok (.aload_n 0, 1) by decide +kernel) rfl ?_
  refine Ev_getI hq_198 (show decode prog_7_method_72_code 28 = .ok (.getfield 101, 3) by decide +kernel) rfl (SGn hS (by decide)) (SGk hS rfl) (by decide) rfl ?_
  refine Ev_icmp_ge (tgt := 69) hq_198 (show decode prog_7_method_72_code 31 = .ok (.if_icmp .ge 38, 3) by decide +kernel) (by decide) (fun c1 => ?_) (fun c1 => ?_)
  · have k := k.1 c1
    refine Ev_aload_n hq_198 (show decode prog_7_method_72_code 69 = .ok (.aload_n 0, 1) by decide +kernel) rfl ?_
    refine Ev_iload hq_198 (show decode prog_7_method_72_code 70 = .ok (.iload 4, 2) by decide +kernel) rfl ?_
    refine Ev_putI hq_198 (show decode prog_7_method_72_code 72 = .ok (.putfield 104, 3) by decide +kernel) rfl (SGn hS (by decide)) (SGk hS rfl) (by decide) (by decide) rfl (fun hz => by cases hz) ?_
    obtain ⟨I2, eI2⟩ : ∃ I2 : zI, I2 = z_up I 57 9 x4 := ⟨_, rfl⟩
    have k := k I2 eI2
    rw [← eI2]
    refine Ev_iload hq_198 (show decode prog_7_method_72_code 75 = .ok (.iload 5, 2) by decide +kernel) rfl ?_
    exact Ev_iret hq_198 (show decode prog_7_method_72_code 77 = .ok (.ireturn, 1) by decide +kernel) rfl k
  · have k := k.2 c1
    refine Ev_aload_n hq_198 (show decode prog_7_method_72_code 34 = .ok (.aload_n 0, 1) by decide +kernel) rfl ?_
    refine Ev_iload hq_198 (show decode prog_7_method_72_code 35 = .ok (.iload 6, 2) by decide +kernel) rfl ?_
    refine Ev_putI hq_198 (show decode prog_7_method_72_code 37 = .ok (.putfield 104, 3) by decide +kernel) rfl (SGn hS (by decide)) (SGk hS rfl) (by decide) (by decide) rfl (fun hz => by cases hz) ?_
    obtain ⟨I3, eI3⟩ : ∃ I3 : zI, I3 = z_up I 57 9 x6 := ⟨_, rfl⟩
    have k := k I3 eI3
    rw [← eI3]
    refine Ev_iload hq_198 (show decode prog_7_method_72_code 40 = .ok (.iload 5, 2) by decide +kernel) rfl ?_
    refine Ev_aload_n hq_198 (show decode prog_7_method_72_code 42 = .ok (.aload_n 0, 1) by decide +kernel) rfl ?_
    refine Ev_iload_n hq_198 (show decode prog_7_method_72_code 43 = .ok (.iload_n 1, 1) by decide +kernel) rfl ?_
    refine Ev_iload_n hq_198 (show decode prog_7_method_72_code 44 = .ok (.iload_n 2, 1) by decide +kernel) rfl ?_
    obtain ⟨r6, I4, h5, k⟩ := k
    refine Ev_virt (as := [.int x1, .int x2]) hq_198 (show decode prog_7_method_72_code 45 = .ok (.invokevirtual 260, 3) by decide +kernel) rfl hq_194 rfl (z_le rfl) ⟨(SGn hS (by decide)), (SGk hS rfl), by decide⟩ h5 ?_
    refine Ev_iconst (v := (-1)) hq_198 (show decode prog_7_method_72_code 48 = .ok (.iconst (-1), 1) by decide +kernel) (by decide) ?_
    refine Ev_icmp_ne (tgt := 59) hq_198 (show decode prog_7_method_72_code 49 = .ok (.if_icmp .ne 10, 3) by decide +kernel) (by decide) (fun c7 => ?_) (fun c7 => ?_)
    · have k := k.1 c7
      refine Ev_iconst (v := 0) hq_198 (show decode prog_7_method_72_code 59 = .ok (.iconst 0, 1) by decide +kernel) (by decide) ?_
      refine Ev_ior hq_198 (show decode prog_7_method_72_code 60 = .ok (.ior, 1) by decide +kernel) ?_
      obtain ⟨y8, ey8⟩ : ∃ y8 : Int32, y8 = (x5 ||| 0) := ⟨_, rfl⟩
      have k := k y8 ey8
      rw [← ey8]
      refine Ev_istore (lo2 := [.ref 57, .int x1, .int x2, .int x3, .int x4, .int y8, .int x6]) hq_198 (show decode prog_7_method_72_code 61 = .ok (.istore 5, 2) by decide +kernel) (z_le rfl) rfl ?_
      obtain ⟨y9, ey9⟩ : ∃ y9 : Int32, y9 = x6 + 1 := ⟨_, rfl⟩
      have k := k y9 ey9
      refine Ev_iinc (v := y9) (lo2 := [.ref 57, .int x1, .int x2, .int x3, .int x4, .int y8, .int y9]) hq_198 (show decode prog_7_method_72_code 63 = .ok (.iinc 6 1, 3) by decide +kernel) rfl (by rw [ey9]; rfl) rfl ?_
      refine Ev_goto (tgt := 25) hq_198 (show decode prog_7_method_72_code 66 = .ok (.goto (-41), 3) by decide +kernel) (by decide) ?_
      exact k
    · have k := k.2 (Classical.not_not.mp c7)
      refine Ev_iconst (v := 1) hq_198 (show decode prog_7_method_72_code 52 = .ok (.iconst 1, 1) by decide +kernel) (by decide) ?_
      refine Ev_iload hq_198 (show decode prog_7_method_72_code 53 = .ok (.iload 6, 2) by decide +kernel) rfl ?_
      refine Ev_ishl hq_198 (show decode prog_7_method_72_code 55 = .ok (.ishl, 1) by decide +kernel) ?_
      refine Ev_goto (tgt := 60) hq_198 (show decode prog_7_method_72_code 56 = .ok (.goto 4, 3) by decide +kernel) (by decide) ?_
      refine Ev_ior hq_198 (show decode prog_7_method_72_code 60 = .ok (.ior, 1) by decide +kernel) ?_
      obtain ⟨y10, ey10⟩ : ∃ y10 : Int32, y10 = (x5 ||| (1 <<< (x6 &&& 31))) := ⟨_, rfl⟩
      have k := k y10 ey10
      rw [← ey10]
      refine Ev_istore (lo2 := [.ref 57, .int x1, .int x2, .int x3, .int x4, .int y10, .int x6]) hq_198 (show decode prog_7_method_72_code 61 = .ok (.istore 5, 2) by decide +kernel) (z_le rfl) rfl ?_
      obtain ⟨y11, ey11⟩ : ∃ y11 : Int32, y11 = x6 + 1 := ⟨_, rfl⟩
      have k := k y11 ey11
      refine Ev_iinc (v := y11) (lo2 := [.ref 57, .int x1, .int x2, .int x3, .int x4, .int y10, .int y11]) hq_198 (show decode prog_7_method_72_code 63 = .ok (.iinc 6 1, 3) by decide +kernel) rfl (by rw [ey11]; rfl) rfl ?_
      refine Ev_goto (tgt := 25) hq_198 (show decode prog_7_method_72_code 66 = .ok (.goto (-41), 3) by decide +kernel) (by decide) ?_
      exact k
set_option maxRecDepth 20000 in
theorem wp_Z_film {X : Nat × (Nat → Int32)} {d : Nat} {G : zG} {I : zI} {res : Option Value × zG × zI} (x1 : Int32) (x2 : Int32) (x3 : Int32) (hd : 1 ≤ d) (hS : SG G) 
    (k : (¬ (f_Z_in x1 0 3) = 0 → (¬ (f_Z_isShower I x2) = 0 → (¬ (f_Z_in x3 0 30) = 0 → ∃ (I4 : zI), Cv X d 159 [.ref 57, .int 30] G I (none, G, I4) ∧ (z_inr x1 4 ∧ (∀ I7 : zI, I7 = z_up I4 65 x1.toNatClampNeg 2 → z_inr x1 4 ∧ (∀ I9 : zI, I9 = z_up I7 66 x1.toNatClampNeg x3 → Ev X (d + 1) 199 59 [.ref 57, .int x1, .int x2, .int x3, .int 0] [] G I9 res)))) ∧ ((f_Z_in x3 0 30) = 0 → res = (some (.int (-7)), G, I))) ∧ ((f_Z_isShower I x2) = 0 → res = (some (.int (-5)), G, I))) ∧ ((f_Z_in x1 0 3) = 0 → res = (some (.int (-2)), G, I))) :
    Ev X (d + 1) 199 0 [.ref 57, .int x1, .int x2, .int x3, zU] [] G I res := by
  refine Ev_iload_n hq_199 (show decode prog_7_method_73_code 0 = .ok (.iload_n 1, 1) by decide +kernel) rfl ?_
  refine Ev_iconst (v := 0) hq_199 (show decode prog_7_method_73_code 1 = .ok (.iconst 0, 1) by decide +kernel) (by decide) ?_
  refine Ev_iconst (v := 3) hq_199 (show decode prog_7_method_73_code 2 = .ok (.iconst 3, 1) by decide +kernel) (by decide) ?_
  refine Ev_stat (as := [.int x1, .int 0, .int 3]) hq_199 (show decode prog_7_method_73_code 3 = .ok (.invokestatic 90, 3) by decide +kernel) rfl (Or.inl rfl) hq_131 rfl (z_le rfl) (c_Z_in x1 0 3) ?_
  refine Ev_if_ne (tgt := 12) hq_199 (show decode prog_7_method_73_code 6 = .ok (.ifCond .ne 6, 3) by decide +kernel) (by decide) (fun c1 => ?_) (fun c1 => ?_)
  · have k := k.1 c1
    refine Ev_aload_n hq_199 (show decode prog_7_method_73_code 12 = .ok (.aload_n 0, 1) by decide +kernel) rfl ?_
    refine Ev_iload_n hq_199 (show decode prog_7_method_73_code 13 = .ok (.iload_n 2, 1) by decide +kernel) rfl ?_
    refine Ev_virt (as := [.int x2]) hq_199 (show decode prog_7_method_73_code 14 = .ok (.invokevirtual 176, 3) by decide +kernel) rfl hq_148 rfl (z_le rfl) ⟨(SGn hS (by decide)), (SGk hS rfl), by decide⟩ (c_Z_isShower (by omega) hS x2) ?_
    refine Ev_if_ne (tgt := 23) hq_199 (show decode prog_7_method_73_code 17 = .ok (.ifCond .ne 6, 3) by decide +kernel) (by decide) (fun c2 => ?_) (fun c2 => ?_)
    · have k := k.1 c2
      refine Ev_iload_n hq_199 (show decode prog_7_method_73_code 23 = .ok (.iload_n 3, 1) by decide +kernel) rfl ?_
      refine Ev_iconst (v := 0) hq_199 (show decode prog_7_method_73_code 24 = .ok (.iconst 0, 1) by decide +kernel) (by decide) ?_
      refine Ev_bipush (v := 30) hq_199 (show decode prog_7_method_73_code 25 = .ok (.bipush 30, 2) by decide +kernel) (by decide) ?_
      refine Ev_stat (as := [.int x3, .int 0, .int 30]) hq_199 (show decode prog_7_method_73_code 27 = .ok (.invokestatic 90, 3) by decide +kernel) rfl (Or.inl rfl) hq_131 rfl (z_le rfl) (c_Z_in x3 0 30) ?_
      refine Ev_if_ne (tgt := 36) hq_199 (show decode prog_7_method_73_code 30 = .ok (.ifCond .ne 6, 3) by decide +kernel) (by decide) (fun c3 => ?_) (fun c3 => ?_)
      · have k := k.1 c3
        refine Ev_aload_n hq_199 (show decode prog_7_method_73_code 36 = .ok (.aload_n 0, 1) by decide +kernel) rfl ?_
        refine Ev_bipush (v := 30) hq_199 (show decode prog_7_method_73_code 37 = .ok (.bipush 30, 2) by decide +kernel) (by decide) ?_
        obtain ⟨I4, h5, k⟩ := k
        refine Ev_virt (as := [.int 30]) hq_199 (show decode prog_7_method_73_code 39 = .ok (.invokevirtual 205, 3) by decide +kernel) rfl hq_159 rfl (z_le rfl) ⟨(SGn hS (by decide)), (SGk hS rfl), by decide⟩ h5 ?_
        refine Ev_aload_n hq_199 (show decode prog_7_method_73_code 42 = .ok (.aload_n 0, 1) by decide +kernel) rfl ?_
        refine Ev_getR hq_199 (show decode prog_7_method_73_code 43 = .ok (.getfield 31, 3) by decide +kernel) rfl (SGn hS (by decide)) (SGk hS rfl) (by decide) rfl (SGr hS rfl) ?_
        refine Ev_iload_n hq_199 (show decode prog_7_method_73_code 46 = .ok (.iload_n 1, 1) by decide +kernel) rfl ?_
        refine Ev_iconst (v := 2) hq_199 (show decode prog_7_method_73_code 47 = .ok (.iconst 2, 1) by decide +kernel) (by decide) ?_
        obtain ⟨h6, k⟩ := k
        refine Ev_iast hq_199 (show decode prog_7_method_73_code 48 = .ok (.iastore, 1) by decide +kernel) (SGn hS (by decide)) (SGk hS rfl) (SGi hS rfl h6) ?_
        obtain ⟨I7, eI7⟩ : ∃ I7 : zI, I7 = z_up I4 65 x1.toNatClampNeg 2 := ⟨_, rfl⟩
        have k := k I7 eI7
        rw [← eI7]
        refine Ev_aload_n hq_199 (show decode prog_7_method_73_code 49 = .ok (.aload_n 0, 1) by decide +kernel) rfl ?_
        refine Ev_getR hq_199 (show decode prog_7_method_73_code 50 = .ok (.getfield 34, 3) by decide +kernel) rfl (SGn hS (by decide)) (SGk hS rfl) (by decide) rfl (SGr hS rfl) ?_
        refine Ev_iload_n hq_199 (show decode prog_7_method_73_code 53 = .ok (.iload_n 1, 1) by decide +kernel) rfl ?_
        refine Ev_iload_n hq_199 (show decode prog_7_method_73_code 54 = .ok (.iload_n 3, 1) by decide +kernel) rfl ?_
        obtain ⟨h8, k⟩ := k
        refine Ev_iast hq_199 (show decode prog_7_method_73_code 55 = .ok (.iastore, 1) by decide +kernel) (SGn hS (by decide)) (SGk hS rfl) (SGi hS rfl h8) ?_
        obtain ⟨I9, eI9⟩ : ∃ I9 : zI, I9 = z_up I7 66 x1.toNatClampNeg x3 := ⟨_, rfl⟩
        have k := k I9 eI9
        rw [← eI9]
        refine Ev_iconst (v := 0) hq_199 (show decode prog_7_method_73_code 56 = .ok (.iconst 0, 1) by decide +kernel) (by decide) ?_
        refine Ev_istore (lo2 := [.ref 57, .int x1, .int x2, .int x3, .int 0]) hq_199 (show decode prog_7_method_73_code 57 = .ok (.istore 4, 2) by decide +kernel) (z_le rfl) rfl ?_
        exact k
      · have k := k.2 (Classical.not_not.mp c3)
        refine Ev_bipush (v := (-7)) hq_199 (show decode prog_7_method_73_code 33 = .ok (.bipush (-7), 2) by decide +kernel) (by decide) ?_
        exact Ev_iret hq_199 (show decode prog_7_method_73_code 35 = .ok (.ireturn, 1) by decide +kernel) rfl k
    · have k := k.2 (Classical.not_not.mp c2)
      refine Ev_bipush (v := (-5)) hq_199 (show decode prog_7_method_73_code 20 = .ok (.bipush (-5), 2) by decide +kernel) (by decide) ?_
      exact Ev_iret hq_199 (show decode prog_7_method_73_code 22 = .ok (.ireturn, 1) by decide +kernel) rfl k
  · have k := k.2 (Classical.not_not.mp c1)
    refine Ev_bipush (v := (-2)) hq_199 (show decode prog_7_method_73_code 9 = .ok (.bipush (-2), 2) by decide +kernel) (by decide) ?_
    exact Ev_iret hq_199 (show decode prog_7_method_73_code 11 = .ok (.ireturn, 1) by decide +kernel) rfl k
set_option maxRecDepth 20000 in
theorem wp_Z_film_59 {X : Nat × (Nat → Int32)} {d : Nat} {G : zG} {I : zI} {res : Option Value × zG × zI} (x1 : Int32) (x2 : Int32) (x3 : Int32) (x4 : Int32) (hS : SG G) 
    (k : (40 ≤ x4 → res = (some (.int x3), G, I)) ∧ (¬ 40 ≤ x4 → (x3 ≤ x4 → z_inr ((40 * x1) + x4) 160 ∧ (∀ I4 : zI, I4 = z_up I 67 ((40 * x1) + x4).toNatClampNeg 0 → ∀ y5 : Int32, y5 = x4 + 1 → Ev X d 199 59 [.ref 57, .int x1, .int x2, .int x3, .int y5] [] G I4 res)) ∧ (¬ x3 ≤ x4 → z_inr ((4 * x4) + x2) 120 ∧ (z_inr ((40 * x1) + x4) 160 ∧ (∀ I8 : zI, I8 = z_up I 67 ((40 * x1) + x4).toNatClampNeg (I 74 ((4 * x4) + x2).toNatClampNeg) → ∀ y9 : Int32, y9 = x4 + 1 → Ev X d 199 59 [.ref 57, .int x1, .int x2, .int x3, .int y9] [] G I8 res))))) :
    Ev X d 199 59 [.ref 57, .int x1, .int x2, .int x3, .int x4] [] G I res := by
  refine Ev_iload hq_199 (show decode prog_7_method_73_code 59 = .ok (.iload 4, 2) by decide +kernel) rfl ?_
  refine Ev_bipush (v := 40) hq_199 (show decode prog_7_method_73_code 61 = .ok (.bipush 40, 2) by decide +kernel) (by decide) ?_
  refine Ev_icmp_ge (tgt := 105) hq_199 (show decode prog_7_method_73_code 63 = .ok (.if_icmp .ge 42, 3) by decide +kernel) (by decide) (fun c1 => ?_) (fun c1 => ?_)
  · have k := k.1 c1
    refine Ev_iload_n hq_199 (show decode prog_7_method_73_code 105 = .ok (.iload_n 3, 1) by decide +kernel) rfl ?_
    exact Ev_iret hq_199 (show decode prog_7_method_73_code 106 = .ok (.ireturn, 1) by decide +kernel) rfl k
  · have k := k.2 c1
    refine Ev_aload_n hq_199 (show decode prog_7_method_73_code 66 = .ok (.aload_n 0, 1) by decide +kernel) rfl ?_
    refine Ev_getR hq_199 (show decode prog_7_method_73_code 67 = .ok (.getfield 37, 3) by decide +kernel) rfl (SGn hS (by decide)) (SGk hS rfl) (by decide) rfl (SGr hS rfl) ?_
    refine Ev_bipush (v := 40) hq_199 (show decode prog_7_method_73_code 70 = .ok (.bipush 40, 2) by decide +kernel) (by decide) ?_
    refine Ev_iload_n hq_199 (show decode prog_7_method_73_code 72 = .ok (.iload_n 1, 1) by decide +kernel) rfl ?_
    refine Ev_imul hq_199 (show decode prog_7_method_73_code 73 = .ok (.imul, 1) by decide +kernel) ?_
    refine Ev_iload hq_199 (show decode prog_7_method_73_code 74 = .ok (.iload 4, 2) by decide +kernel) rfl ?_
    refine Ev_iadd hq_199 (show decode prog_7_method_73_code 76 = .ok (.iadd, 1) by decide +kernel) ?_
    refine Ev_iload hq_199 (show decode prog_7_method_73_code 77 = .ok (.iload 4, 2) by decide +kernel) rfl ?_
    refine Ev_iload_n hq_199 (show decode prog_7_method_73_code 79 = .ok (.iload_n 3, 1) by decide +kernel) rfl ?_
    refine Ev_icmp_ge (tgt := 97) hq_199 (show decode prog_7_method_73_code 80 = .ok (.if_icmp .ge 17, 3) by decide +kernel) (by decide) (fun c2 => ?_) (fun c2 => ?_)
    · have k := k.1 c2
      refine Ev_iconst (v := 0) hq_199 (show decode prog_7_method_73_code 97 = .ok (.iconst 0, 1) by decide +kernel) (by decide) ?_
      obtain ⟨h3, k⟩ := k
      refine Ev_iast hq_199 (show decode prog_7_method_73_code 98 = .ok (.iastore, 1) by decide +kernel) (SGn hS (by decide)) (SGk hS rfl) (SGi hS rfl h3) ?_
      obtain ⟨I4, eI4⟩ : ∃ I4 : zI, I4 = z_up I 67 ((40 * x1) + x4).toNatClampNeg 0 := ⟨_, rfl⟩
      have k := k I4 eI4
      rw [← eI4]
      obtain ⟨y5, ey5⟩ : ∃ y5 : Int32, y5 = x4 + 1 := ⟨_, rfl⟩
      have k := k y5 ey5
      refine Ev_iinc (v := y5) (lo2 := [.ref 57, .int x1, .int x2, .int x3, .int y5]) hq_199 (show decode prog_7_method_73_code 99 = .ok (.iinc 4 1, 3) by decide +kernel) rfl (by rw [ey5]; rfl) rfl ?_
      refine Ev_goto (tgt := 59) hq_199 (show decode prog_7_method_73_code 102 = .ok (.goto (-43), 3) by decide +kernel) (by decide) ?_
      exact k
    · have k := k.2 c2
      refine Ev_aload_n hq_199 (show decode prog_7_method_73_code 83 = .ok (.aload_n 0, 1) by decide +kernel) rfl ?_
      refine Ev_getR hq_199 (show decode prog_7_method_73_code 84 = .ok (.getfield 58, 3) by decide +kernel) rfl (SGn hS (by decide)) (SGk hS rfl) (by decide) rfl (SGr hS rfl) ?_
      refine Ev_iconst (v := 4) hq_199 (show decode prog_7_method_73_code 87 = .ok (.iconst 4, 1) by decide +kernel) (by decide) ?_
      refine Ev_iload hq_199 (show decode prog_7_method_73_code 88 = .ok (.iload 4, 2) by decide +kernel) rfl ?_
      refine Ev_imul hq_199 (show decode prog_7_method_73_code 90 = .ok (.imul, 1) by decide +kernel) ?_
      refine Ev_iload_n hq_199 (show decode prog_7_method_73_code 91 = .ok (.iload_n 2, 1) by decide +kernel) rfl ?_
      refine Ev_iadd hq_199 (show decode prog_7_method_73_code 92 = .ok (.iadd, 1) by decide +kernel) ?_
      obtain ⟨h6, k⟩ := k
      refine Ev_iald hq_199 (show decode prog_7_method_73_code 93 = .ok (.iaload, 1) by decide +kernel) (SGn hS (by decide)) (SGk hS rfl) (SGi hS rfl h6) ?_
      refine Ev_goto (tgt := 98) hq_199 (show decode prog_7_method_73_code 94 = .ok (.goto 4, 3) by decide +kernel) (by decide) ?_
      obtain ⟨h7, k⟩ := k
      refine Ev_iast hq_199 (show decode prog_7_method_73_code 98 = .ok (.iastore, 1) by decide +kernel) (SGn hS (by decide)) (SGk hS rfl) (SGi hS rfl h7) ?_
      obtain ⟨I8, eI8⟩ : ∃ I8 : zI, I8 = z_up I 67 ((40 * x1) + x4).toNatClampNeg (I 74 ((4 * x4) + x2).toNatClampNeg) := ⟨_, rfl⟩
      have k := k I8 eI8
      rw [← eI8]
      obtain ⟨y9, ey9⟩ : ∃ y9 : Int32, y9 = x4 + 1 := ⟨_, rfl⟩
      have k := k y9 ey9
      refine Ev_iinc (v := y9) (lo2 := [.ref 57, .int x1, .int x2, .int x3, .int y9]) hq_199 (show decode prog_7_method_73_code 99 = .ok (.iinc 4 1, 3) by decide +kernel) rfl (by rw [ey9]; rfl) rfl ?_
      refine Ev_goto (tgt := 59) hq_199 (show decode prog_7_method_73_code 102 = .ok (.goto (-43), 3) by decide +kernel) (by decide) ?_
      exact k
set_option maxRecDepth 20000 in
theorem wp_Z_criers {X : Nat × (Nat → Int32)} {d : Nat} {G : zG} {I : zI} {res : Option Value × zG × zI} (x1 : Int32) (hS : SG G) 
    (k : ∃ (r3 : Int32) (I1 : zI), Cv X d 193 [.ref 57, .int x1] G I (some (.int r3), G, I1) ∧ ((r3 = 0 → ∃ (I5 : zI), Cv X d 159 [.ref 57, .int 30] G I1 (none, G, I5) ∧ (∀ y7 : Int32, y7 = ((1 <<< ((I5 57 0) &&& 31)) - 1) → Ev X (d + 1) 200 30 [.ref 57, .int x1, .int r3, .int y7, .int 0, zU, zU, zU] [] G I5 res)) ∧ (¬ r3 = 0 → res = (some (.int r3), G, I1)))) :
    Ev X (d + 1) 200 0 [.ref 57, .int x1, zU, zU, zU, zU, zU, zU] [] G I res := by
  refine Ev_aload_n hq_200 (show decode prog_7_method_74_code 0 = .ok (.aload_n 0, 1) by decide +kernel) rfl ?_
  refine Ev_iload_n hq_200 (show decode prog_7_method_74_code 1 = .ok (.iload_n 1, 1) by decide +kernel) rfl ?_
  obtain ⟨r3, I1, h2, k⟩ := k
  refine Ev_virt (as := [.int x1]) hq_200 (show decode prog_7_method_74_code 2 = .ok (.invokevirtual 254, 3) by decide +kernel) rfl hq_193 rfl (z_le rfl) ⟨(SGn hS (by decide)), (SGk hS rfl), by decide⟩ h2 ?_
  refine Ev_istore_n (lo2 := [.ref 57, .int x1, .int r3, zU, zU, zU, zU, zU]) hq_200 (show decode prog_7_method_74_code 5 = .ok (.istore_n 2, 1) by decide +kernel) (z_le rfl) rfl ?_
  refine Ev_iload_n hq_200 (show decode prog_7_method_74_code 6 = .ok (.iload_n 2, 1) by decide +kernel) rfl ?_
  refine Ev_if_eq (tgt := 12) hq_200 (show decode prog_7_method_74_code 7 = .ok (.ifCond .eq 5, 3) by decide +kernel) (by decide) (fun c4 => ?_) (fun c4 => ?_)
  · have k := k.1 c4
    refine Ev_aload_n hq_200 (show decode prog_7_method_74_code 12 = .ok (.aload_n 0, 1) by decide +kernel) rfl ?_
    refine Ev_bipush (v := 30) hq_200 (show decode prog_7_method_74_code 13 = .ok (.bipush 30, 2) by decide +kernel) (by decide) ?_
    obtain ⟨I5, h6, k⟩ := k
    refine Ev_virt (as := [.int 30]) hq_200 (show decode prog_7_method_74_code 15 = .ok (.invokevirtual 205, 3) by decide +kernel) rfl hq_159 rfl (z_le rfl) ⟨(SGn hS (by decide)), (SGk hS rfl), by decide⟩ h6 ?_
    refine Ev_iconst (v := 1) hq_200 (show decode prog_7_method_74_code 18 = .ok (.iconst 1, 1) by decide +kernel) (by decide) ?_
    refine Ev_aload_n hq_200 (show decode prog_7_method_74_code 19 = .ok (.aload_n 0, 1) by decide +kernel) rfl ?_
    refine Ev_getI hq_200 (show decode prog_7_method_74_code 20 = .ok (.getfield 87, 3) by decide +kernel) rfl (SGn hS (by decide)) (SGk hS rfl) (by decide) rfl ?_
    refine Ev_ishl hq_200 (show decode prog_7_method_74_code 23 = .ok (.ishl, 1) by decide +kernel) ?_
    refine Ev_iconst (v := 1) hq_200 (show decode prog_7_method_74_code 24 = .ok (.iconst 1, 1) by decide +kernel) (by decide) ?_
    refine Ev_isub hq_200 (show decode prog_7_method_74_code 25 = .ok (.isub, 1) by decide +kernel) ?_
    obtain ⟨y7, ey7⟩ : ∃ y7 : Int32, y7 = ((1 <<< ((I5 57 0) &&& 31)) - 1) := ⟨_, rfl⟩
    have k := k y7 ey7
    rw [← ey7]
    refine Ev_istore_n (lo2 := [.ref 57, .int x1, .int r3, .int y7, zU, zU, zU, zU]) hq_200 (show decode prog_7_method_74_code 26 = .ok (.istore_n 3, 1) by decide +kernel) (z_le rfl) rfl ?_
    refine Ev_iconst (v := 0) hq_200 (show decode prog_7_method_74_code 27 = .ok (.iconst 0, 1) by decide +kernel) (by decide) ?_
    refine Ev_istore (lo2 := [.ref 57, .int x1, .int r3, .int y7, .int 0, zU, zU, zU]) hq_200 (show decode prog_7_method_74_code 28 = .ok (.istore 4, 2) by decide +kernel) (z_le rfl) rfl ?_
    exact k
  · have k := k.2 c4
    refine Ev_iload_n hq_200 (show decode prog_7_method_74_code 10 = .ok (.iload_n 2, 1) by decide +kernel) rfl ?_
    exact Ev_iret hq_200 (show decode prog_7_method_74_code 11 = .ok (.ireturn, 1) by decide +kernel) rfl k
set_option maxRecDepth 20000 in
theorem wp_Z_criers_30 {X : Nat × (Nat → Int32)} {d : Nat} {G : zG} {I : zI} {res : Option Value × zG × zI} (x1 : Int32) (x2 : Int32) (x3 : Int32) (x4 : Int32) (v5 : Value) (cv5 : v5.category = 1) (v6 : Value) (cv6 : v6.category = 1) (v7 : Value) (cv7 : v7.category = 1) (hS : SG G) 
    (k : z_inr x1 4 ∧ (((I 66 x1.toNatClampNeg) ≤ x4 → res = (some (.int x3), G, I)) ∧ (¬ (I 66 x1.toNatClampNeg) ≤ x4 → z_inr ((40 * x1) + x4) 160 ∧ (∀ y4 : Int32, y4 = (I 67 ((40 * x1) + x4).toNatClampNeg) → Ev X d 200 58 [.ref 57, .int x1, .int x2, .int x3, .int x4, .int y4, .int 0, v7] [] G I res)))) :
    Ev X d 200 30 [.ref 57, .int x1, .int x2, .int x3, .int x4, v5, v6, v7] [] G I res := by
  refine Ev_iload hq_200 (show decode prog_7_method_74_code 30 = .ok (.iload 4, 2) by decide +kernel) rfl ?_
  refine Ev_aload_n hq_200 (show decode prog_7_method_74_code 32 = .ok (.aload_n 0, 1) by decide +kernel) rfl ?_
  refine Ev_getR hq_200 (show decode prog_7_method_74_code 33 = .ok (.getfield 34, 3) by decide +kernel) rfl (SGn hS (by decide)) (SGk hS rfl) (by decide) rfl (SGr hS rfl) ?_
  refine Ev_iload_n hq_200 (show decode prog_7_method_74_code 36 = .ok (.iload_n 1, 1) by decide +kernel) rfl ?_
  obtain ⟨h1, k⟩ := k
  refine Ev_iald hq_200 (show decode prog_7_method_74_code 37 = .ok (.iaload, 1) by decide +kernel) (SGn hS (by decide)) (SGk hS rfl) (SGi hS rfl h1) ?_
  refine Ev_icmp_ge (tgt := 137) hq_200 (show decode prog_7_method_74_code 38 = .ok (.if_icmp .ge 99, 3) by decide +kernel) (by decide) (fun c2 => ?_) (fun c2 => ?_)
  · have k := k.1 c2
    refine Ev_iload_n hq_200 (show decode prog_7_method_74_code 137 = .ok (.iload_n 3, 1) by decide +kernel) rfl ?_
    exact Ev_iret hq_200 (show decode prog_7_method_74_code 138 = .ok (.ireturn, 1) by decide +kernel) rfl k
  · have k := k.2 c2
    refine Ev_aload_n hq_200 (show decode prog_7_method_74_code 41 = .ok (.aload_n 0, 1) by decide +kernel) rfl ?_
    refine Ev_getR hq_200 (show decode prog_7_method_74_code 42 = .ok (.getfield 37, 3) by decide +kernel) rfl (SGn hS (by decide)) (SGk hS rfl) (by decide) rfl (SGr hS rfl) ?_
    refine Ev_bipush (v := 40) hq_200 (show decode prog_7_method_74_code 45 = .ok (.bipush 40, 2) by decide +kernel) (by decide) ?_
    refine Ev_iload_n hq_200 (show decode prog_7_method_74_code 47 = .ok (.iload_n 1, 1) by decide +kernel) rfl ?_
    refine Ev_imul hq_200 (show decode prog_7_method_74_code 48 = .ok (.imul, 1) by decide +kernel) ?_
    refine Ev_iload hq_200 (show decode prog_7_method_74_code 49 = .ok (.iload 4, 2) by decide +kernel) rfl ?_
    refine Ev_iadd hq_200 (show decode prog_7_method_74_code 51 = .ok (.iadd, 1) by decide +kernel) ?_
    obtain ⟨h3, k⟩ := k
    refine Ev_iald hq_200 (show decode prog_7_method_74_code 52 = .ok (.iaload, 1) by decide +kernel) (SGn hS (by decide)) (SGk hS rfl) (SGi hS rfl h3) ?_
    obtain ⟨y4, ey4⟩ : ∃ y4 : Int32, y4 = (I 67 ((40 * x1) + x4).toNatClampNeg) := ⟨_, rfl⟩
    have k := k y4 ey4
    rw [← ey4]
    refine Ev_istore (lo2 := [.ref 57, .int x1, .int x2, .int x3, .int x4, .int y4, v6, v7]) hq_200 (show decode prog_7_method_74_code 53 = .ok (.istore 5, 2) by decide +kernel) (z_le rfl) rfl ?_
    refine Ev_iconst (v := 0) hq_200 (show decode prog_7_method_74_code 55 = .ok (.iconst 0, 1) by decide +kernel) (by decide) ?_
    refine Ev_istore (lo2 := [.ref 57, .int x1, .int x2, .int x3, .int x4, .int y4, .int 0, v7]) hq_200 (show decode prog_7_method_74_code 56 = .ok (.istore 6, 2) by decide +kernel) (z_le rfl) rfl ?_
    exact k
set_option maxRecDepth 20000 in
theorem wp_Z_criers_58 {X : Nat × (Nat → Int32)} {d : Nat} {G : zG} {I : zI} {res : Option Value × zG × zI} (x1 : Int32) (x2 : Int32) (x3 : Int32) (x4 : Int32) (x5 : Int32) (x6 : Int32) (v7 : Value) (cv7 : v7.category = 1) (hS : SG G) 
    (k : ((I 57 0) ≤ x6 → ∀ y2 : Int32, y2 = x4 + 1 → Ev X (d + 1) 200 30 [.ref 57, .int x1, .int x2, .int x3, .int y2, .int x5, .int x6, v7] [] G I res) ∧ (¬ (I 57 0) ≤ x6 → ((f_Z_in x5 0 29) = 0 → ∀ y4 : Int32, y4 = (x3 &&& ((1 <<< (x6 &&& 31)) ^^^ (-1))) → ∀ y5 : Int32, y5 = x6 + 1 → Ev X (d + 1) 200 58 [.ref 57, .int x1, .int x2, .int y4, .int x4, .int x5, .int y5, .int 0] [] G I res) ∧ (¬ (f_Z_in x5 0 29) = 0 → z_inr x6 4 ∧ ((¬ (((I 76 x6.toNatClampNeg) >>> ((f_Z_within x5 0 29) &&& 31)) &&& 1) = 1 → ∀ y8 : Int32, y8 = (x3 &&& ((1 <<< (x6 &&& 31)) ^^^ (-1))) → ∀ y9 : Int32, y9 = x6 + 1 → Ev X (d + 1) 200 58 [.ref 57, .int x1, .int x2, .int y8, .int x4, .int x5, .int y9, .int 0] [] G I res) ∧ ((((I 76 x6.toNatClampNeg) >>> ((f_Z_within x5 0 29) &&& 31)) &&& 1) = 1 → ∀ y10 : Int32, y10 = x6 + 1 → Ev X (d + 1) 200 58 [.ref 57, .int x1, .int x2, .int x3, .int x4, .int x5, .int y10, .int 1] [] G I res))))) :
    Ev X (d + 1) 200 58 [.ref 57, .int x1, .int x2, .int x3, .int x4, .int x5, .int x6, v7] [] G I res := by
  refine Ev_iload hq_200 (show decode prog_7_method_74_code 58 = .ok (.iload 6, 2) by decide +kernel) rfl ?_
  refine Ev_aload_n hq_200 (show decode prog_7_method_74_code 60 = .ok (.aload_n 0, 1) by decide +kernel) rfl ?_
  refine Ev_getI hq_200 (show decode prog_7_method_74_code 61 = .ok (.getfield 87, 3) by decide +kernel) rfl (SGn hS (by decide)) (SGk hS rfl) (by decide) rfl ?_
  refine Ev_icmp_ge (tgt := 131) hq_200 (show decode prog_7_method_74_code 64 = .ok (.if_icmp .ge 67, 3) by decide +kernel) (by decide) (fun c1 => ?_) (fun c1 => ?_)
  · have k := k.1 c1
    obtain ⟨y2, ey2⟩ : ∃ y2 : Int32, y2 = x4 + 1 := ⟨_, rfl⟩
    have k := k y2 ey2
    refine Ev_iinc (v := y2) (lo2 := [.ref 57, .int x1, .int x2, .int x3, .int y2, .int x5, .int x6, v7]) hq_200 (show decode prog_7_method_74_code 131 = .ok (.iinc 4 1, 3) by decide +kernel) rfl (by rw [ey2]; rfl) rfl ?_
    refine Ev_goto (tgt := 30) hq_200 (show decode prog_7_method_74_code 134 = .ok (.goto (-104), 3) by decide +kernel) (by decide) ?_
    exact k
  · have k := k.2 c1
    refine Ev_iload hq_200 (show decode prog_7_method_74_code 67 = .ok (.iload 5, 2) by decide +kernel) rfl ?_
    refine Ev_iconst (v := 0) hq_200 (show decode prog_7_method_74_code 69 = .ok (.iconst 0, 1) by decide +kernel) (by decide) ?_
    refine Ev_bipush (v := 29) hq_200 (show decode prog_7_method_74_code 70 = .ok (.bipush 29, 2) by decide +kernel) (by decide) ?_
    refine Ev_stat (as := [.int x5, .int 0, .int 29]) hq_200 (show decode prog_7_method_74_code 72 = .ok (.invokestatic 90, 3) by decide +kernel) rfl (Or.inl rfl) hq_131 rfl (z_le rfl) (c_Z_in x5 0 29) ?_
    refine Ev_if_eq (tgt := 104) hq_200 (show decode prog_7_method_74_code 75 = .ok (.ifCond .eq 29, 3) by decide +kernel) (by decide) (fun c3 => ?_) (fun c3 => ?_)
    · have k := k.1 c3
      refine Ev_iconst (v := 0) hq_200 (show decode prog_7_method_74_code 104 = .ok (.iconst 0, 1) by decide +kernel) (by decide) ?_
      refine Ev_istore (lo2 := [.ref 57, .int x1, .int x2, .int x3, .int x4, .int x5, .int x6, .int 0]) hq_200 (show decode prog_7_method_74_code 105 = .ok (.istore 7, 2) by decide +kernel) (z_le rfl) rfl ?_
      refine Ev_iload hq_200 (show decode prog_7_method_74_code 107 = .ok (.iload 7, 2) by decide +kernel) rfl ?_
      refine Ev_if_eq (tgt := 116) hq_200 (show decode prog_7_method_74_code 109 = .ok (.ifCond .eq 7, 3) by decide +kernel) (by decide) (fun _ => ?_) (fun hz => absurd (by decide) hz)
      refine Ev_iload_n hq_200 (show decode prog_7_method_74_code 116 = .ok (.iload_n 3, 1) by decide +kernel) rfl ?_
      refine Ev_iconst (v := 1) hq_200 (show decode prog_7_method_74_code 117 = .ok (.iconst 1, 1) by decide +kernel) (by decide) ?_
      refine Ev_iload hq_200 (show decode prog_7_method_74_code 118 = .ok (.iload 6, 2) by decide +kernel) rfl ?_
      refine Ev_ishl hq_200 (show decode prog_7_method_74_code 120 = .ok (.ishl, 1) by decide +kernel) ?_
      refine Ev_iconst (v := (-1)) hq_200 (show decode prog_7_method_74_code 121 = .ok (.iconst (-1), 1) by decide +kernel) (by decide) ?_
      refine Ev_ixor hq_200 (show decode prog_7_method_74_code 122 = .ok (.ixor, 1) by decide +kernel) ?_
      refine Ev_iand hq_200 (show decode prog_7_method_74_code 123 = .ok (.iand, 1) by decide +kernel) ?_
      obtain ⟨y4, ey4⟩ : ∃ y4 : Int32, y4 = (x3 &&& ((1 <<< (x6 &&& 31)) ^^^ (-1))) := ⟨_, rfl⟩
      have k := k y4 ey4
      rw [← ey4]
      refine Ev_istore_n (lo2 := [.ref 57, .int x1, .int x2, .int y4, .int x4, .int x5, .int x6, .int 0]) hq_200 (show decode prog_7_method_74_code 124 = .ok (.istore_n 3, 1) by decide +kernel) (z_le rfl) rfl ?_
      obtain ⟨y5, ey5⟩ : ∃ y5 : Int32, y5 = x6 + 1 := ⟨_, rfl⟩
      have k := k y5 ey5
      refine Ev_iinc (v := y5) (lo2 := [.ref 57, .int x1, .int x2, .int y4, .int x4, .int x5, .int y5, .int 0]) hq_200 (show decode prog_7_method_74_code 125 = .ok (.iinc 6 1, 3) by decide +kernel) rfl (by rw [ey5]; rfl) rfl ?_
      refine Ev_goto (tgt := 58) hq_200 (show decode prog_7_method_74_code 128 = .ok (.goto (-70), 3) by decide +kernel) (by decide) ?_
      exact k
    · have k := k.2 c3
      refine Ev_aload_n hq_200 (show decode prog_7_method_74_code 78 = .ok (.aload_n 0, 1) by decide +kernel) rfl ?_
      refine Ev_getR hq_200 (show decode prog_7_method_74_code 79 = .ok (.getfield 64, 3) by decide +kernel) rfl (SGn hS (by decide)) (SGk hS rfl) (by decide) rfl (SGr hS rfl) ?_
      refine Ev_iload hq_200 (show decode prog_7_method_74_code 82 = .ok (.iload 6, 2) by decide +kernel) rfl ?_
      obtain ⟨h6, k⟩ := k
      refine Ev_iald hq_200 (show decode prog_7_method_74_code 84 = .ok (.iaload, 1) by decide +kernel) (SGn hS (by decide)) (SGk hS rfl) (SGi hS rfl h6) ?_
      refine Ev_iload hq_200 (show decode prog_7_method_74_code 85 = .ok (.iload 5, 2) by decide +kernel) rfl ?_
      refine Ev_iconst (v := 0) hq_200 (show decode prog_7_method_74_code 87 = .ok (.iconst 0, 1) by decide +kernel) (by decide) ?_
      refine Ev_bipush (v := 29) hq_200 (show decode prog_7_method_74_code 88 = .ok (.bipush 29, 2) by decide +kernel) (by decide) ?_
      refine Ev_stat (as := [.int x5, .int 0, .int 29]) hq_200 (show decode prog_7_method_74_code 90 = .ok (.invokestatic 173, 3) by decide +kernel) rfl (Or.inl rfl) hq_152 rfl (z_le rfl) (c_Z_within x5 0 29) ?_
      refine Ev_ishr hq_200 (show decode prog_7_method_74_code 93 = .ok (.ishr, 1) by decide +kernel) ?_
      refine Ev_iconst (v := 1) hq_200 (show decode prog_7_method_74_code 94 = .ok (.iconst 1, 1) by decide +kernel) (by decide) ?_
      refine Ev_iand hq_200 (show decode prog_7_method_74_code 95 = .ok (.iand, 1) by decide +kernel) ?_
      refine Ev_iconst (v := 1) hq_200 (show decode prog_7_method_74_code 96 = .ok (.iconst 1, 1) by decide +kernel) (by decide) ?_
      refine Ev_icmp_ne (tgt := 104) hq_200 (show decode prog_7_method_74_code 97 = .ok (.if_icmp .ne 7, 3) by decide +kernel) (by decide) (fun c7 => ?_) (fun c7 => ?_)
      · have k := k.1 c7
        refine Ev_iconst (v := 0) hq_200 (show decode prog_7_method_74_code 104 = .ok (.iconst 0, 1) by decide +kernel) (by decide) ?_
        refine Ev_istore (lo2 := [.ref 57, .int x1, .int x2, .int x3, .int x4, .int x5, .int x6, .int 0]) hq_200 (show decode prog_7_method_74_code 105 = .ok (.istore 7, 2) by decide +kernel) (z_le rfl) rfl ?_
        refine Ev_iload hq_200 (show decode prog_7_method_74_code 107 = .ok (.iload 7, 2) by decide +kernel) rfl ?_
        refine Ev_if_eq (tgt := 116) hq_200 (show decode prog_7_method_74_code 109 = .ok (.ifCond .eq 7, 3) by decide +kernel) (by decide) (fun _ => ?_) (fun hz => absurd (by decide) hz)
        refine Ev_iload_n hq_200 (show decode prog_7_method_74_code 116 = .ok (.iload_n 3, 1) by decide +kernel) rfl ?_
        refine Ev_iconst (v := 1) hq_200 (show decode prog_7_method_74_code 117 = .ok (.iconst 1, 1) by decide +kernel) (by decide) ?_
        refine Ev_iload hq_200 (show decode prog_7_method_74_code 118 = .ok (.iload 6, 2) by decide +kernel) rfl ?_
        refine Ev_ishl hq_200 (show decode prog_7_method_74_code 120 = .ok (.ishl, 1) by decide +kernel) ?_
        refine Ev_iconst (v := (-1)) hq_200 (show decode prog_7_method_74_code 121 = .ok (.iconst (-1), 1) by decide +kernel) (by decide) ?_
        refine Ev_ixor hq_200 (show decode prog_7_method_74_code 122 = .ok (.ixor, 1) by decide +kernel) ?_
        refine Ev_iand hq_200 (show decode prog_7_method_74_code 123 = .ok (.iand, 1) by decide +kernel) ?_
        obtain ⟨y8, ey8⟩ : ∃ y8 : Int32, y8 = (x3 &&& ((1 <<< (x6 &&& 31)) ^^^ (-1))) := ⟨_, rfl⟩
        have k := k y8 ey8
        rw [← ey8]
        refine Ev_istore_n (lo2 := [.ref 57, .int x1, .int x2, .int y8, .int x4, .int x5, .int x6, .int 0]) hq_200 (show decode prog_7_method_74_code 124 = .ok (.istore_n 3, 1) by decide +kernel) (z_le rfl) rfl ?_
        obtain ⟨y9, ey9⟩ : ∃ y9 : Int32, y9 = x6 + 1 := ⟨_, rfl⟩
        have k := k y9 ey9
        refine Ev_iinc (v := y9) (lo2 := [.ref 57, .int x1, .int x2, .int y8, .int x4, .int x5, .int y9, .int 0]) hq_200 (show decode prog_7_method_74_code 125 = .ok (.iinc 6 1, 3) by decide +kernel) rfl (by rw [ey9]; rfl) rfl ?_
        refine Ev_goto (tgt := 58) hq_200 (show decode prog_7_method_74_code 128 = .ok (.goto (-70), 3) by decide +kernel) (by decide) ?_
        exact k
      · have k := k.2 (Classical.not_not.mp c7)
        refine Ev_iconst (v := 1) hq_200 (show decode prog_7_method_74_code 100 = .ok (.iconst 1, 1) by decide +kernel) (by decide) ?_
        refine Ev_goto (tgt := 105) hq_200 (show decode prog_7_method_74_code 101 = .ok (.goto 4, 3) by decide +kernel) (by decide) ?_
        refine Ev_istore (lo2 := [.ref 57, .int x1, .int x2, .int x3, .int x4, .int x5, .int x6, .int 1]) hq_200 (show decode prog_7_method_74_code 105 = .ok (.istore 7, 2) by decide +kernel) (z_le rfl) rfl ?_
        refine Ev_iload hq_200 (show decode prog_7_method_74_code 107 = .ok (.iload 7, 2) by decide +kernel) rfl ?_
        refine Ev_if_eq (tgt := 116) hq_200 (show decode prog_7_method_74_code 109 = .ok (.ifCond .eq 7, 3) by decide +kernel) (by decide) (fun hz => absurd hz (by decide)) (fun _ => ?_)
        refine Ev_iload_n hq_200 (show decode prog_7_method_74_code 112 = .ok (.iload_n 3, 1) by decide +kernel) rfl ?_
        refine Ev_goto (tgt := 124) hq_200 (show decode prog_7_method_74_code 113 = .ok (.goto 11, 3) by decide +kernel) (by decide) ?_
        refine Ev_istore_n (lo2 := [.ref 57, .int x1, .int x2, .int x3, .int x4, .int x5, .int x6, .int 1]) hq_200 (show decode prog_7_method_74_code 124 = .ok (.istore_n 3, 1) by decide +kernel) (z_le rfl) rfl ?_
        obtain ⟨y10, ey10⟩ : ∃ y10 : Int32, y10 = x6 + 1 := ⟨_, rfl⟩
        have k := k y10 ey10
        refine Ev_iinc (v := y10) (lo2 := [.ref 57, .int x1, .int x2, .int x3, .int x4, .int x5, .int y10, .int 1]) hq_200 (show decode prog_7_method_74_code 125 = .ok (.iinc 6 1, 3) by decide +kernel) rfl (by rw [ey10]; rfl) rfl ?_
        refine Ev_goto (tgt := 58) hq_200 (show decode prog_7_method_74_code 128 = .ok (.goto (-70), 3) by decide +kernel) (by decide) ?_
        exact k
set_option maxRecDepth 20000 in
theorem wp_Z_heard {X : Nat × (Nat → Int32)} {d : Nat} {G : zG} {I : zI} {res : Option Value × zG × zI} (x1 : Int32) (x2 : Int32) (hS : SG G) 
    (k : ∃ (r3 : Int32) (I1 : zI), Cv X d 192 [.ref 57, .int x1, .int x2] G I (some (.int r3), G, I1) ∧ ((r3 = 0 → Ev X (d + 1) 201 19 [.ref 57, .int x1, .int x2, .int r3, .int 0, .int 0, zU, zU] [] G I1 res) ∧ (¬ r3 = 0 → res = (some (.int r3), G, I1)))) :
    Ev X (d + 1) 201 0 [.ref 57, .int x1, .int x2, zU, zU, zU, zU, zU] [] G I res := by
  refine Ev_aload_n hq_201 (show decode prog_7_method_75_code 0 = .ok (.aload_n 0, 1) by decide +kernel) rfl ?_
  refine Ev_iload_n hq_201 (show decode prog_7_method_75_code 1 = .ok (.iload_n 1, 1) by decide +kernel) rfl ?_
  refine Ev_iload_n hq_201 (show decode prog_7_method_75_code 2 = .ok (.iload_n 2, 1) by decide +kernel) rfl ?_
  obtain ⟨r3, I1, h2, k⟩ := k
  refine Ev_virt (as := [.int x1, .int x2]) hq_201 (show decode prog_7_method_75_code 3 = .ok (.invokevirtual 257, 3) by decide +kernel) rfl hq_192 rfl (z_le rfl) ⟨(SGn hS (by decide)), (SGk hS rfl), by decide⟩ h2 ?_
  refine Ev_istore_n (lo2 := [.ref 57, .int x1, .int x2, .int r3, zU, zU, zU, zU]) hq_201 (show decode prog_7_method_75_code 6 = .ok (.istore_n 3, 1) by decide +kernel) (z_le rfl) rfl ?_
  refine Ev_iload_n hq_201 (show decode prog_7_method_75_code 7 = .ok (.iload_n 3, 1) by decide +kernel) rfl ?_
  refine Ev_if_eq (tgt := 13) hq_201 (show decode prog_7_method_75_code 8 = .ok (.ifCond .eq 5, 3) by decide +kernel) (by decide) (fun c4 => ?_) (fun c4 => ?_)
  · have k := k.1 c4
    refine Ev_iconst (v := 0) hq_201 (show decode prog_7_method_75_code 13 = .ok (.iconst 0, 1) by decide +kernel) (by decide) ?_
    refine Ev_istore (lo2 := [.ref 57, .int x1, .int x2, .int r3, .int 0, zU, zU, zU]) hq_201 (show decode prog_7_method_75_code 14 = .ok (.istore 4, 2) by decide +kernel) (z_le rfl) rfl ?_
    refine Ev_iconst (v := 0) hq_201 (show decode prog_7_method_75_code 16 = .ok (.iconst 0, 1) by decide +kernel) (by decide) ?_
    refine Ev_istore (lo2 := [.ref 57, .int x1, .int x2, .int r3, .int 0, .int 0, zU, zU]) hq_201 (show decode prog_7_method_75_code 17 = .ok (.istore 5, 2) by decide +kernel) (z_le rfl) rfl ?_
    exact k
  · have k := k.2 c4
    refine Ev_iload_n hq_201 (show decode prog_7_method_75_code 11 = .ok (.iload_n 3, 1) by decide +kernel) rfl ?_
    exact Ev_iret hq_201 (show decode prog_7_method_75_code 12 = .ok (.ireturn, 1) by decide +kernel) rfl k
set_option maxRecDepth 20000 in
theorem wp_Z_heard_19 {X : Nat × (Nat → Int32)} {d : Nat} {G : zG} {I : zI} {res : Option Value × zG × zI} (x1 : Int32) (x2 : Int32) (x3 : Int32) (x4 : Int32) (x5 : Int32) (v6 : Value) (cv6 : v6.category = 1) (hS : SG G) 
    (k : z_inr x1 4 ∧ (((I 66 x1.toNatClampNeg) ≤ x5 → z_inr (5 * x2) 20 ∧ (∀ y4 : Int32, y4 = (I 60 (5 * x2).toNatClampNeg) → Ev X (d + 1) 201 90 [.ref 57, .int x1, .int x2, .int x3, .int x4, .int y4, .int 0, .int 0] [] G I res)) ∧ (¬ (I 66 x1.toNatClampNeg) ≤ x5 → z_inr ((40 * x1) + x5) 160 ∧ (∀ y6 : Int32, y6 = (I 67 ((40 * x1) + x5).toNatClampNeg) → ((f_Z_in y6 0 29) = 0 → ∀ y8 : Int32, y8 = (x4 ||| 0) → ∀ y9 : Int32, y9 = x5 + 1 → Ev X (d + 1) 201 19 [.ref 57, .int x1, .int x2, .int x3, .int y8, .int y9, .int y6, zU] [] G I res) ∧ (¬ (f_Z_in y6 0 29) = 0 → ∀ y10 : Int32, y10 = (x4 ||| (1 <<< (y6 &&& 31))) → ∀ y11 : Int32, y11 = x5 + 1 → Ev X (d + 1) 201 19 [.ref 57, .int x1, .int x2, .int x3, .int y10, .int y11, .int y6, zU] [] G I res))))) :
    Ev X (d + 1) 201 19 [.ref 57, .int x1, .int x2, .int x3, .int x4, .int x5, v6, zU] [] G I res := by
  refine Ev_iload hq_201 (show decode prog_7_method_75_code 19 = .ok (.iload 5, 2) by decide +kernel) rfl ?_
  refine Ev_aload_n hq_201 (show decode prog_7_method_75_code 21 = .ok (.aload_n 0, 1) by decide +kernel) rfl ?_
  refine Ev_getR hq_201 (show decode prog_7_method_75_code 22 = .ok (.getfield 34, 3) by decide +kernel) rfl (SGn hS (by decide)) (SGk hS rfl) (by decide) rfl (SGr hS rfl) ?_
  refine Ev_iload_n hq_201 (show decode prog_7_method_75_code 25 = .ok (.iload_n 1, 1) by decide +kernel) rfl ?_
  obtain ⟨h1, k⟩ := k
  refine Ev_iald hq_201 (show decode prog_7_method_75_code 26 = .ok (.iaload, 1) by decide +kernel) (SGn hS (by decide)) (SGk hS rfl) (SGi hS rfl h1) ?_
  refine Ev_icmp_ge (tgt := 74) hq_201 (show decode prog_7_method_75_code 27 = .ok (.if_icmp .ge 47, 3) by decide +kernel) (by decide) (fun c2 => ?_) (fun c2 => ?_)
  · have k := k.1 c2
    refine Ev_aload_n hq_201 (show decode prog_7_method_75_code 74 = .ok (.aload_n 0, 1) by decide +kernel) rfl ?_
    refine Ev_getR hq_201 (show decode prog_7_method_75_code 75 = .ok (.getfield 16, 3) by decide +kernel) rfl (SGn hS (by decide)) (SGk hS rfl) (by decide) rfl (SGr hS rfl) ?_
    refine Ev_iconst (v := 5) hq_201 (show decode prog_7_method_75_code 78 = .ok (.iconst 5, 1) by decide +kernel) (by decide) ?_
    refine Ev_iload_n hq_201 (show decode prog_7_method_75_code 79 = .ok (.iload_n 2, 1) by decide +kernel) rfl ?_
    refine Ev_imul hq_201 (show decode prog_7_method_75_code 80 = .ok (.imul, 1) by decide +kernel) ?_
    obtain ⟨h3, k⟩ := k
    refine Ev_iald hq_201 (show decode prog_7_method_75_code 81 = .ok (.iaload, 1) by decide +kernel) (SGn hS (by decide)) (SGk hS rfl) (SGi hS rfl h3) ?_
    obtain ⟨y4, ey4⟩ : ∃ y4 : Int32, y4 = (I 60 (5 * x2).toNatClampNeg) := ⟨_, rfl⟩
    have k := k y4 ey4
    rw [← ey4]
    refine Ev_istore (lo2 := [.ref 57, .int x1, .int x2, .int x3, .int x4, .int y4, v6, zU]) hq_201 (show decode prog_7_method_75_code 82 = .ok (.istore 5, 2) by decide +kernel) (z_le rfl) rfl ?_
    refine Ev_iconst (v := 0) hq_201 (show decode prog_7_method_75_code 84 = .ok (.iconst 0, 1) by decide +kernel) (by decide) ?_
    refine Ev_istore (lo2 := [.ref 57, .int x1, .int x2, .int x3, .int x4, .int y4, .int 0, zU]) hq_201 (show decode prog_7_method_75_code 85 = .ok (.istore 6, 2) by decide +kernel) (z_le rfl) rfl ?_
    refine Ev_iconst (v := 0) hq_201 (show decode prog_7_method_75_code 87 = .ok (.iconst 0, 1) by decide +kernel) (by decide) ?_
    refine Ev_istore (lo2 := [.ref 57, .int x1, .int x2, .int x3, .int x4, .int y4, .int 0, .int 0]) hq_201 (show decode prog_7_method_75_code 88 = .ok (.istore 7, 2) by decide +kernel) (z_le rfl) rfl ?_
    exact k
  · have k := k.2 c2
    refine Ev_aload_n hq_201 (show decode prog_7_method_75_code 30 = .ok (.aload_n 0, 1) by decide +kernel) rfl ?_
    refine Ev_getR hq_201 (show decode prog_7_method_75_code 31 = .ok (.getfield 37, 3) by decide +kernel) rfl (SGn hS (by decide)) (SGk hS rfl) (by decide) rfl (SGr hS rfl) ?_
    refine Ev_bipush (v := 40) hq_201 (show decode prog_7_method_75_code 34 = .ok (.bipush 40, 2) by decide +kernel) (by decide) ?_
    refine Ev_iload_n hq_201 (show decode prog_7_method_75_code 36 = .ok (.iload_n 1, 1) by decide +kernel) rfl ?_
    refine Ev_imul hq_201 (show decode prog_7_method_75_code 37 = .ok (.imul, 1) by decide +kernel) ?_
    refine Ev_iload hq_201 (show decode prog_7_method_75_code 38 = .ok (.iload 5, 2) by decide +kernel) rfl ?_
    refine Ev_iadd hq_201 (show decode prog_7_method_75_code 40 = .ok (.iadd, 1) by decide +kernel) ?_
    obtain ⟨h5, k⟩ := k
    refine Ev_iald hq_201 (show decode prog_7_method_75_code 41 = .ok (.iaload, 1) by decide +kernel) (SGn hS (by decide)) (SGk hS rfl) (SGi hS rfl h5) ?_
    obtain ⟨y6, ey6⟩ : ∃ y6 : Int32, y6 = (I 67 ((40 * x1) + x5).toNatClampNeg) := ⟨_, rfl⟩
    have k := k y6 ey6
    rw [← ey6]
    refine Ev_istore (lo2 := [.ref 57, .int x1, .int x2, .int x3, .int x4, .int x5, .int y6, zU]) hq_201 (show decode prog_7_method_75_code 42 = .ok (.istore 6, 2) by decide +kernel) (z_le rfl) rfl ?_
    refine Ev_iload hq_201 (show decode prog_7_method_75_code 44 = .ok (.iload 4, 2) by decide +kernel) rfl ?_
    refine Ev_iload hq_201 (show decode prog_7_method_75_code 46 = .ok (.iload 6, 2) by decide +kernel) rfl ?_
    refine Ev_iconst (v := 0) hq_201 (show decode prog_7_method_75_code 48 = .ok (.iconst 0, 1) by decide +kernel) (by decide) ?_
    refine Ev_bipush (v := 29) hq_201 (show decode prog_7_method_75_code 49 = .ok (.bipush 29, 2) by decide +kernel) (by decide) ?_
    refine Ev_stat (as := [.int y6, .int 0, .int 29]) hq_201 (show decode prog_7_method_75_code 51 = .ok (.invokestatic 90, 3) by decide +kernel) rfl (Or.inl rfl) hq_131 rfl (z_le rfl) (c_Z_in y6 0 29) ?_
    refine Ev_if_eq (tgt := 64) hq_201 (show decode prog_7_method_75_code 54 = .ok (.ifCond .eq 10, 3) by decide +kernel) (by decide) (fun c7 => ?_) (fun c7 => ?_)
    · have k := k.1 c7
      refine Ev_iconst (v := 0) hq_201 (show decode prog_7_method_75_code 64 = .ok (.iconst 0, 1) by decide +kernel) (by decide) ?_
      refine Ev_ior hq_201 (show decode prog_7_method_75_code 65 = .ok (.ior, 1) by decide +kernel) ?_
      obtain ⟨y8, ey8⟩ : ∃ y8 : Int32, y8 = (x4 ||| 0) := ⟨_, rfl⟩
      have k := k y8 ey8
      rw [← ey8]
      refine Ev_istore (lo2 := [.ref 57, .int x1, .int x2, .int x3, .int y8, .int x5, .int y6, zU]) hq_201 (show decode prog_7_method_75_code 66 = .ok (.istore 4, 2) by decide +kernel) (z_le rfl) rfl ?_
      obtain ⟨y9, ey9⟩ : ∃ y9 : Int32, y9 = x5 + 1 := ⟨_, rfl⟩
      have k := k y9 ey9
      refine Ev_iinc (v := y9) (lo2 := [.ref 57, .int x1, .int x2, .int x3, .int y8, .int y9, .int y6, zU]) hq_201 (show decode prog_7_method_75_code 68 = .ok (.iinc 5 1, 3) by decide +kernel) rfl (by rw [ey9]; rfl) rfl ?_
      refine Ev_goto (tgt := 19) hq_201 (show decode prog_7_method_75_code 71 = .ok (.goto (-52), 3) by decide +kernel) (by decide) ?_
      exact k
    · have k := k.2 c7
      refine Ev_iconst (v := 1) hq_201 (show decode prog_7_method_75_code 57 = .ok (.iconst 1, 1) by decide +kernel) (by decide) ?_
      refine Ev_iload hq_201 (show decode prog_7_method_75_code 58 = .ok (.iload 6, 2) by decide +kernel) rfl ?_
      refine Ev_ishl hq_201 (show decode prog_7_method_75_code 60 = .ok (.ishl, 1) by decide +kernel) ?_
      refine Ev_goto (tgt := 65) hq_201 (show decode prog_7_method_75_code 61 = .ok (.goto 4, 3) by decide +kernel) (by decide) ?_
      refine Ev_ior hq_201 (show decode prog_7_method_75_code 65 = .ok (.ior, 1) by decide +kernel) ?_
      obtain ⟨y10, ey10⟩ : ∃ y10 : Int32, y10 = (x4 ||| (1 <<< (y6 &&& 31))) := ⟨_, rfl⟩
      have k := k y10 ey10
      rw [← ey10]
      refine Ev_istore (lo2 := [.ref 57, .int x1, .int x2, .int x3, .int y10, .int x5, .int y6, zU]) hq_201 (show decode prog_7_method_75_code 66 = .ok (.istore 4, 2) by decide +kernel) (z_le rfl) rfl ?_
      obtain ⟨y11, ey11⟩ : ∃ y11 : Int32, y11 = x5 + 1 := ⟨_, rfl⟩
      have k := k y11 ey11
      refine Ev_iinc (v := y11) (lo2 := [.ref 57, .int x1, .int x2, .int x3, .int y10, .int y11, .int y6, zU]) hq_201 (show decode prog_7_method_75_code 68 = .ok (.iinc 5 1, 3) by decide +kernel) rfl (by rw [ey11]; rfl) rfl ?_
      refine Ev_goto (tgt := 19) hq_201 (show decode prog_7_method_75_code 71 = .ok (.goto (-52), 3) by decide +kernel) (by decide) ?_
      exact k
set_option maxRecDepth 20000 in
theorem wp_Z_heard_90 {X : Nat × (Nat → Int32)} {d : Nat} {G : zG} {I : zI} {res : Option Value × zG × zI} (x1 : Int32) (x2 : Int32) (x3 : Int32) (x4 : Int32) (x5 : Int32) (x6 : Int32) (x7 : Int32) (hS : SG G) 
    (k : (4 < x7 → z_inr (5 * x2) 20 ∧ (∀ I3 : zI, I3 = z_up I 60 (5 * x2).toNatClampNeg x5 → res = (some (.int x6), G, I3))) ∧ (¬ 4 < x7 → z_inr (5 * x2) 20 ∧ (∀ I5 : zI, I5 = z_up I 60 (5 * x2).toNatClampNeg x7 → ∃ (I6 : zI), Cv X d 159 [.ref 57, .int 30] G I5 (none, G, I6) ∧ (z_inr x2 4 ∧ ((¬ (I6 76 x2.toNatClampNeg) = x4 → ∀ y10 : Int32, y10 = (x6 ||| 0) → ∀ y11 : Int32, y11 = x7 + 1 → Ev X (d + 1) 201 90 [.ref 57, .int x1, .int x2, .int x3, .int x4, .int x5, .int y10, .int y11] [] G I6 res) ∧ ((I6 76 x2.toNatClampNeg) = x4 → ∀ y12 : Int32, y12 = (x6 ||| (1 <<< (x7 &&& 31))) → ∀ y13 : Int32, y13 = x7 + 1 → Ev X (d + 1) 201 90 [.ref 57, .int x1, .int x2, .int x3, .int x4, .int x5, .int y12, .int y13] [] G I6 res)))))) :
    Ev X (d + 1) 201 90 [.ref 57, .int x1, .int x2, .int x3, .int x4, .int x5, .int x6, .int x7] [] G I res := by
  refine Ev_iload hq_201 (show decode prog_7_method_75_code 90 = .ok (.iload 7, 2) by decide +kernel) rfl ?_
  refine Ev_iconst (v := 4) hq_201 (show decode prog_7_method_75_code 92 = .ok (.iconst 4, 1) by decide +kernel) (by decide) ?_
  refine Ev_icmp_gt (tgt := 142) hq_201 (show decode prog_7_method_75_code 93 = .ok (.if_icmp .gt 49, 3) by decide +kernel) (by decide) (fun c1 => ?_) (fun c1 => ?_)
  · have k := k.1 c1
    refine Ev_aload_n hq_201 (show decode prog_7_method_75_code 142 = .ok (.aload_n 0, 1) by decide +kernel) rfl ?_
    refine Ev_getR hq_201 (show decode prog_7_method_75_code 143 = .ok (.getfield 16, 3) by decide +kernel) rfl (SGn hS (by decide)) (SGk hS rfl) (by decide) rfl (SGr hS rfl) ?_
    refine Ev_iconst (v := 5) hq_201 (show decode prog_7_method_75_code 146 = .ok (.iconst 5, 1) by decide +kernel) (by decide) ?_
    refine Ev_iload_n hq_201 (show decode prog_7_method_75_code 147 = .ok (.iload_n 2, 1) by decide +kernel) rfl ?_
    refine Ev_imul hq_201 (show decode prog_7_method_75_code 148 = .ok (.imul, 1) by decide +kernel) ?_
    refine Ev_iload hq_201 (show decode prog_7_method_75_code 149 = .ok (.iload 5, 2) by decide +kernel) rfl ?_
    obtain ⟨h2, k⟩ := k
    refine Ev_iast hq_201 (show decode prog_7_method_75_code 151 = .ok (.iastore, 1) by decide +kernel) (SGn hS (by decide)) (SGk hS rfl) (SGi hS rfl h2) ?_
    obtain ⟨I3, eI3⟩ : ∃ I3 : zI, I3 = z_up I 60 (5 * x2).toNatClampNeg x5 := ⟨_, rfl⟩
    have k := k I3 eI3
    rw [← eI3]
    refine Ev_iload hq_201 (show decode prog_7_method_75_code 152 = .ok (.iload 6, 2) by decide +kernel) rfl ?_
    exact Ev_iret hq_201 (show decode prog_7_method_75_code 154 = .ok (.ireturn, 1) by decide +kernel) rfl k
  · have k := k.2 c1
    refine Ev_aload_n hq_201 (show decode prog_7_method_75_code 96 = .ok (.aload_n 0, 1) by decide +kernel) rfl ?_
    refine Ev_getR hq_201 (show decode prog_7_method_75_code 97 = .ok (.getfield 16, 3) by decide +kernel) rfl (SGn hS (by decide)) (SGk hS rfl) (by decide) rfl (SGr hS rfl) ?_
    refine Ev_iconst (v := 5) hq_201 (show decode prog_7_method_75_code 100 = .ok (.iconst 5, 1) by decide +kernel) (by decide) ?_
    refine Ev_iload_n hq_201 (show decode prog_7_method_75_code 101 = .ok (.iload_n 2, 1) by decide +kernel) rfl ?_
    refine Ev_imul hq_201 (show decode prog_7_method_75_code 102 = .ok (.imul, 1) by decide +kernel) ?_
    refine Ev_iload hq_201 (show decode prog_7_method_75_code 103 = .ok (.iload 7, 2) by decide +kernel) rfl ?_
    obtain ⟨h4, k⟩ := k
    refine Ev_iast hq_201 (show decode prog_7_method_75_code 105 = .ok (.iastore, 1) by decide +kernel) (SGn hS (by decide)) (SGk hS rfl) (SGi hS rfl h4) ?_
    obtain ⟨I5, eI5⟩ : ∃ I5 : zI, I5 = z_up I 60 (5 * x2).toNatClampNeg x7 := ⟨_, rfl⟩
    have k := k I5 eI5
    rw [← eI5]
    refine Ev_aload_n hq_201 (show decode prog_7_method_75_code 106 = .ok (.aload_n 0, 1) by decide +kernel) rfl ?_
    refine Ev_bipush (v := 30) hq_201 (show decode prog_7_method_75_code 107 = .ok (.bipush 30, 2) by decide +kernel) (by decide) ?_
    obtain ⟨I6, h7, k⟩ := k
    refine Ev_virt (as := [.int 30]) hq_201 (show decode prog_7_method_75_code 109 = .ok (.invokevirtual 205, 3) by decide +kernel) rfl hq_159 rfl (z_le rfl) ⟨(SGn hS (by decide)), (SGk hS rfl), by decide⟩ h7 ?_
    refine Ev_iload hq_201 (show decode prog_7_method_75_code 112 = .ok (.iload 6, 2) by decide +kernel) rfl ?_
    refine Ev_aload_n hq_201 (show decode prog_7_method_75_code 114 = .ok (.aload_n 0, 1) by decide +kernel) rfl ?_
    refine Ev_getR hq_201 (show decode prog_7_method_75_code 115 = .ok (.getfield 64, 3) by decide +kernel) rfl (SGn hS (by decide)) (SGk hS rfl) (by decide) rfl (SGr hS rfl) ?_
    refine Ev_iload_n hq_201 (show decode prog_7_method_75_code 118 = .ok (.iload_n 2, 1) by decide +kernel) rfl ?_
    obtain ⟨h8, k⟩ := k
    refine Ev_iald hq_201 (show decode prog_7_method_75_code 119 = .ok (.iaload, 1) by decide +kernel) (SGn hS (by decide)) (SGk hS rfl) (SGi hS rfl h8) ?_
    refine Ev_iload hq_201 (show decode prog_7_method_75_code 120 = .ok (.iload 4, 2) by decide +kernel) rfl ?_
    refine Ev_icmp_ne (tgt := 132) hq_201 (show decode prog_7_method_75_code 122 = .ok (.if_icmp .ne 10, 3) by decide +kernel) (by decide) (fun c9 => ?_) (fun c9 => ?_)
    · have k := k.1 c9
      refine Ev_iconst (v := 0) hq_201 (show decode prog_7_method_75_code 132 = .ok (.iconst 0, 1) by decide +kernel) (by decide) ?_
      refine Ev_ior hq_201 (show decode prog_7_method_75_code 133 = .ok (.ior, 1) by decide +kernel) ?_
      obtain ⟨y10, ey10⟩ : ∃ y10 : Int32, y10 = (x6 ||| 0) := ⟨_, rfl⟩
      have k := k y10 ey10
      rw [← ey10]
      refine Ev_istore (lo2 := [.ref 57, .int x1, .int x2, .int x3, .int x4, .int x5, .int y10, .int x7]) hq_201 (show decode prog_7_method_75_code 134 = .ok (.istore 6, 2) by decide +kernel) (z_le rfl) rfl ?_
      obtain ⟨y11, ey11⟩ : ∃ y11 : Int32, y11 = x7 + 1 := ⟨_, rfl⟩
      have k := k y11 ey11
      refine Ev_iinc (v := y11) (lo2 := [.ref 57, .int x1, .int x2, .int x3, .int x4, .int x5, .int y10, .int y11]) hq_201 (show decode prog_7_method_75_code 136 = .ok (.iinc 7 1, 3) by decide +kernel) rfl (by rw [ey11]; rfl) rfl ?_
      refine Ev_goto (tgt := 90) hq_201 (show decode prog_7_method_75_code 139 = .ok (.goto (-49), 3) by decide +kernel) (by decide) ?_
      exact k
    · have k := k.2 (Classical.not_not.mp c9)
      refine Ev_iconst (v := 1) hq_201 (show decode prog_7_method_75_code 125 = .ok (.iconst 1, 1) by decide +kernel) (by decide) ?_
      refine Ev_iload hq_201 (show decode prog_7_method_75_code 126 = .ok (.iload 7, 2) by decide +kernel) rfl ?_
      refine Ev_ishl hq_201 (show decode prog_7_method_75_code 128 = .ok (.ishl, 1) by decide +kernel) ?_
      refine Ev_goto (tgt := 133) hq_201 (show decode prog_7_method_75_code 129 = .ok (.goto 4, 3) by decide +kernel) (by decide) ?_
      refine Ev_ior hq_201 (show decode prog_7_method_75_code 133 = .ok (.ior, 1) by decide +kernel) ?_
      obtain ⟨y12, ey12⟩ : ∃ y12 : Int32, y12 = (x6 ||| (1 <<< (x7 &&& 31))) := ⟨_, rfl⟩
      have k := k y12 ey12
      rw [← ey12]
      refine Ev_istore (lo2 := [.ref 57, .int x1, .int x2, .int x3, .int x4, .int x5, .int y12, .int x7]) hq_201 (show decode prog_7_method_75_code 134 = .ok (.istore 6, 2) by decide +kernel) (z_le rfl) rfl ?_
      obtain ⟨y13, ey13⟩ : ∃ y13 : Int32, y13 = x7 + 1 := ⟨_, rfl⟩
      have k := k y13 ey13
      refine Ev_iinc (v := y13) (lo2 := [.ref 57, .int x1, .int x2, .int x3, .int x4, .int x5, .int y12, .int y13]) hq_201 (show decode prog_7_method_75_code 136 = .ok (.iinc 7 1, 3) by decide +kernel) rfl (by rw [ey13]; rfl) rfl ?_
      refine Ev_goto (tgt := 90) hq_201 (show decode prog_7_method_75_code 139 = .ok (.goto (-49), 3) by decide +kernel) (by decide) ?_
      exact k
set_option maxRecDepth 20000 in
theorem wp_Z_runsBy {X : Nat × (Nat → Int32)} {d : Nat} {G : zG} {I : zI} {res : Option Value × zG × zI} (x1 : Int32) 
    (k : ∀ y1 : Int64, y1 = ((x1.toInt64) + 1) → Ev X d 203 8 [.ref 57, .int x1, .long y1, zU, .int 0] [] G I res) :
    Ev X d 203 0 [.ref 57, .int x1, zU, zU, zU] [] G I res := by
  refine Ev_iload_n hq_203 (show decode prog_7_method_76_code 0 = .ok (.iload_n 1, 1) by decide +kernel) rfl ?_
  refine Ev_i2l hq_203 (show decode prog_7_method_76_code 1 = .ok (.i2l, 1) by decide +kernel) ?_
  refine Ev_lconst (v := 1) hq_203 (show decode prog_7_method_76_code 2 = .ok (.lconst 1, 1) by decide +kernel) (by decide) ?_
  refine Ev_ladd hq_203 (show decode prog_7_method_76_code 3 = .ok (.ladd, 1) by decide +kernel) ?_
  obtain ⟨y1, ey1⟩ : ∃ y1 : Int64, y1 = ((x1.toInt64) + 1) := ⟨_, rfl⟩
  have k := k y1 ey1
  rw [← ey1]
  refine Ev_lstore_n (lo2 := [.ref 57, .int x1, .long y1, zU, zU]) hq_203 (show decode prog_7_method_76_code 4 = .ok (.lstore_n 2, 1) by decide +kernel) (z_le rfl) rfl ?_
  refine Ev_iconst (v := 0) hq_203 (show decode prog_7_method_76_code 5 = .ok (.iconst 0, 1) by decide +kernel) (by decide) ?_
  refine Ev_istore (lo2 := [.ref 57, .int x1, .long y1, zU, .int 0]) hq_203 (show decode prog_7_method_76_code 6 = .ok (.istore 4, 2) by decide +kernel) (z_le rfl) rfl ?_
  exact k
set_option maxRecDepth 20000 in
theorem wp_Z_runsBy_8 {X : Nat × (Nat → Int32)} {d : Nat} {G : zG} {I : zI} {res : Option Value × zG × zI} (x1 : Int32) (x2 : Int64) (x4 : Int32) (hS : SG G) 
    (k : ((I 57 0) ≤ x4 → ∃ (I2 : zI), Cv X d 159 [.ref 57, .int 30] G I (none, G, I2) ∧ (Ev X (d + 1) 203 77 [.ref 57, .int x1, .long x2, zU, .int 0] [] G I2 res)) ∧ (¬ (I 57 0) ≤ x4 → ∀ y4 : Int64, y4 = ((x2 * 48271) - (x2 * 48271) / 2147483647 * 2147483647) → z_inr ((5 * x4) + 2) 20 ∧ (z_inr x4 4 ∧ (∀ I7 : zI, I7 = z_up I 79 x4.toNatClampNeg (I 60 ((5 * x4) + 2).toNatClampNeg) → z_inr ((5 * x4) + 2) 20 ∧ (∀ I9 : zI, I9 = z_up I7 60 ((5 * x4) + 2).toNatClampNeg ((y4 - y4 / 1000 * 1000).toInt32) → ∀ y10 : Int32, y10 = x4 + 1 → Ev X (d + 1) 203 8 [.ref 57, .int x1, .long y4, zU, .int y10] [] G I9 res))))) :
    Ev X (d + 1) 203 8 [.ref 57, .int x1, .long x2, zU, .int x4] [] G I res := by
  refine Ev_iload hq_203 (show decode prog_7_method_76_code 8 = .ok (.iload 4, 2) by decide +kernel) rfl ?_
  refine Ev_aload_n hq_203 (show decode prog_7_method_76_code 10 = .ok (.aload_n 0, 1) by decide +kernel) rfl ?_
  refine Ev_getI hq_203 (show decode prog_7_method_76_code 11 = .ok (.getfield 87, 3) by decide +kernel) rfl (SGn hS (by decide)) (SGk hS rfl) (by decide) rfl ?_
  refine Ev_icmp_ge (tgt := 68) hq_203 (show decode prog_7_method_76_code 14 = .ok (.if_icmp .ge 54, 3) by decide +kernel) (by decide) (fun c1 => ?_) (fun c1 => ?_)
  · have k := k.1 c1
    refine Ev_aload_n hq_203 (show decode prog_7_method_76_code 68 = .ok (.aload_n 0, 1) by decide +kernel) rfl ?_
    refine Ev_bipush (v := 30) hq_203 (show decode prog_7_method_76_code 69 = .ok (.bipush 30, 2) by decide +kernel) (by decide) ?_
    obtain ⟨I2, h3, k⟩ := k
    refine Ev_virt (as := [.int 30]) hq_203 (show decode prog_7_method_76_code 71 = .ok (.invokevirtual 205, 3) by decide +kernel) rfl hq_159 rfl (z_le rfl) ⟨(SGn hS (by decide)), (SGk hS rfl), by decide⟩ h3 ?_
    refine Ev_iconst (v := 0) hq_203 (show decode prog_7_method_76_code 74 = .ok (.iconst 0, 1) by decide +kernel) (by decide) ?_
    refine Ev_istore (lo2 := [.ref 57, .int x1, .long x2, zU, .int 0]) hq_203 (show decode prog_7_method_76_code 75 = .ok (.istore 4, 2) by decide +kernel) (z_le rfl) rfl ?_
    exact k
  · have k := k.2 c1
    refine Ev_lload_n hq_203 (show decode prog_7_method_76_code 17 = .ok (.lload_n 2, 1) by decide +kernel) rfl ?_
    refine Ev_ldc2 (v := 48271) hq_203 (show decode prog_7_method_76_code 18 = .ok (.ldc2_w 263, 3) by decide +kernel) rfl ?_
    refine Ev_lmul hq_203 (show decode prog_7_method_76_code 21 = .ok (.lmul, 1) by decide +kernel) ?_
    refine Ev_ldc2 (v := 2147483647) hq_203 (show decode prog_7_method_76_code 22 = .ok (.ldc2_w 265, 3) by decide +kernel) rfl ?_
    refine Ev_lrem hq_203 (show decode prog_7_method_76_code 25 = .ok (.lrem, 1) by decide +kernel) (by decide) ?_
    obtain ⟨y4, ey4⟩ : ∃ y4 : Int64, y4 = ((x2 * 48271) - (x2 * 48271) / 2147483647 * 2147483647) := ⟨_, rfl⟩
    have k := k y4 ey4
    rw [← ey4]
    refine Ev_lstore_n (lo2 := [.ref 57, .int x1, .long y4, zU, .int x4]) hq_203 (show decode prog_7_method_76_code 26 = .ok (.lstore_n 2, 1) by decide +kernel) (z_le rfl) rfl ?_
    refine Ev_aload_n hq_203 (show decode prog_7_method_76_code 27 = .ok (.aload_n 0, 1) by decide +kernel) rfl ?_
    refine Ev_getR hq_203 (show decode prog_7_method_76_code 28 = .ok (.getfield 77, 3) by decide +kernel) rfl (SGn hS (by decide)) (SGk hS rfl) (by decide) rfl (SGr hS rfl) ?_
    refine Ev_iload hq_203 (show decode prog_7_method_76_code 31 = .ok (.iload 4, 2) by decide +kernel) rfl ?_
    refine Ev_aload_n hq_203 (show decode prog_7_method_76_code 33 = .ok (.aload_n 0, 1) by decide +kernel) rfl ?_
    refine Ev_getR hq_203 (show decode prog_7_method_76_code 34 = .ok (.getfield 16, 3) by decide +kernel) rfl (SGn hS (by decide)) (SGk hS rfl) (by decide) rfl (SGr hS rfl) ?_
    refine Ev_iconst (v := 5) hq_203 (show decode prog_7_method_76_code 37 = .ok (.iconst 5, 1) by decide +kernel) (by decide) ?_
    refine Ev_iload hq_203 (show decode prog_7_method_76_code 38 = .ok (.iload 4, 2) by decide +kernel) rfl ?_
    refine Ev_imul hq_203 (show decode prog_7_method_76_code 40 = .ok (.imul, 1) by decide +kernel) ?_
    refine Ev_iconst (v := 2) hq_203 (show decode prog_7_method_76_code 41 = .ok (.iconst 2, 1) by decide +kernel) (by decide) ?_
    refine Ev_iadd hq_203 (show decode prog_7_method_76_code 42 = .ok (.iadd, 1) by decide +kernel) ?_
    obtain ⟨h5, k⟩ := k
    refine Ev_iald hq_203 (show decode prog_7_method_76_code 43 = .ok (.iaload, 1) by decide +kernel) (SGn hS (by decide)) (SGk hS rfl) (SGi hS rfl h5) ?_
    obtain ⟨h6, k⟩ := k
    refine Ev_iast hq_203 (show decode prog_7_method_76_code 44 = .ok (.iastore, 1) by decide +kernel) (SGn hS (by decide)) (SGk hS rfl) (SGi hS rfl h6) ?_
    obtain ⟨I7, eI7⟩ : ∃ I7 : zI, I7 = z_up I 79 x4.toNatClampNeg (I 60 ((5 * x4) + 2).toNatClampNeg) := ⟨_, rfl⟩
    have k := k I7 eI7
    rw [← eI7]
    refine Ev_aload_n hq_203 (show decode prog_7_method_76_code 45 = .ok (.aload_n 0, 1) by decide +kernel) rfl ?_
    refine Ev_getR hq_203 (show decode prog_7_method_76_code 46 = .ok (.getfield 16, 3) by decide +kernel) rfl (SGn hS (by decide)) (SGk hS rfl) (by decide) rfl (SGr hS rfl) ?_
    refine Ev_iconst (v := 5) hq_203 (show decode prog_7_method_76_code 49 = .ok (.iconst 5, 1) by decide +kernel) (by decide) ?_
    refine Ev_iload hq_203 (show decode prog_7_method_76_code 50 = .ok (.iload 4, 2) by decide +kernel) rfl ?_
    refine Ev_imul hq_203 (show decode prog_7_method_76_code 52 = .ok (.imul, 1) by decide +kernel) ?_
    refine Ev_iconst (v := 2) hq_203 (show decode prog_7_method_76_code 53 = .ok (.iconst 2, 1) by decide +kernel) (by decide) ?_
    refine Ev_iadd hq_203 (show decode prog_7_method_76_code 54 = .ok (.iadd, 1) by decide +kernel) ?_
    refine Ev_lload_n hq_203 (show decode prog_7_method_76_code 55 = .ok (.lload_n 2, 1) by decide +kernel) rfl ?_
    refine Ev_ldc2 (v := 1000) hq_203 (show decode prog_7_method_76_code 56 = .ok (.ldc2_w 267, 3) by decide +kernel) rfl ?_
    refine Ev_lrem hq_203 (show decode prog_7_method_76_code 59 = .ok (.lrem, 1) by decide +kernel) (by decide) ?_
    refine Ev_l2i hq_203 (show decode prog_7_method_76_code 60 = .ok (.l2i, 1) by decide +kernel) ?_
    obtain ⟨h8, k⟩ := k
    refine Ev_iast hq_203 (show decode prog_7_method_76_code 61 = .ok (.iastore, 1) by decide +kernel) (SGn hS (by decide)) (SGk hS rfl) (SGi hS rfl h8) ?_
    obtain ⟨I9, eI9⟩ : ∃ I9 : zI, I9 = z_up I7 60 ((5 * x4) + 2).toNatClampNeg ((y4 - y4 / 1000 * 1000).toInt32) := ⟨_, rfl⟩
    have k := k I9 eI9
    rw [← eI9]
    obtain ⟨y10, ey10⟩ : ∃ y10 : Int32, y10 = x4 + 1 := ⟨_, rfl⟩
    have k := k y10 ey10
    refine Ev_iinc (v := y10) (lo2 := [.ref 57, .int x1, .long y4, zU, .int y10]) hq_203 (show decode prog_7_method_76_code 62 = .ok (.iinc 4 1, 3) by decide +kernel) rfl (by rw [ey10]; rfl) rfl ?_
    refine Ev_goto (tgt := 8) hq_203 (show decode prog_7_method_76_code 65 = .ok (.goto (-57), 3) by decide +kernel) (by decide) ?_
    exact k
set_option maxRecDepth 20000 in
theorem wp_Z_runsBy_77 {X : Nat × (Nat → Int32)} {d : Nat} {G : zG} {I : zI} {res : Option Value × zG × zI} (x1 : Int32) (x2 : Int64) (x4 : Int32) (hS : SG G) 
    (k : ((I 57 0) ≤ x4 → res = (none, G, I)) ∧ (¬ (I 57 0) ≤ x4 → z_inr x4 4 ∧ (z_inr ((5 * x4) + 2) 20 ∧ (∀ I4 : zI, I4 = z_up I 60 ((5 * x4) + 2).toNatClampNeg (I 79 x4.toNatClampNeg) → ∀ y5 : Int32, y5 = x4 + 1 → Ev X d 203 77 [.ref 57, .int x1, .long x2, zU, .int y5] [] G I4 res)))) :
    Ev X d 203 77 [.ref 57, .int x1, .long x2, zU, .int x4] [] G I res := by
  refine Ev_iload hq_203 (show decode prog_7_method_76_code 77 = .ok (.iload 4, 2) by decide +kernel) rfl ?_
  refine Ev_aload_n hq_203 (show decode prog_7_method_76_code 79 = .ok (.aload_n 0, 1) by decide +kernel) rfl ?_
  refine Ev_getI hq_203 (show decode prog_7_method_76_code 80 = .ok (.getfield 87, 3) by decide +kernel) rfl (SGn hS (by decide)) (SGk hS rfl) (by decide) rfl ?_
  refine Ev_icmp_ge (tgt := 110) hq_203 (show decode prog_7_method_76_code 83 = .ok (.if_icmp .ge 27, 3) by decide +kernel) (by decide) (fun c1 => ?_) (fun c1 => ?_)
  · have k := k.1 c1
    exact Ev_vret hq_203 (show decode prog_7_method_76_code 110 = .ok (.return_, 1) by decide +kernel) k
  · have k := k.2 c1
    refine Ev_aload_n hq_203 (show decode prog_7_method_76_code 86 = .ok (.aload_n 0, 1) by decide +kernel) rfl ?_
    refine Ev_getR hq_203 (show decode prog_7_method_76_code 87 = .ok (.getfield 16, 3) by decide +kernel) rfl (SGn hS (by decide)) (SGk hS rfl) (by decide) rfl (SGr hS rfl) ?_
    refine Ev_iconst (v := 5) hq_203 (show decode prog_7_method_76_code 90 = .ok (.iconst 5, 1) by decide +kernel) (by decide) ?_
    refine Ev_iload hq_203 (show decode prog_7_method_76_code 91 = .ok (.iload 4, 2) by decide +kernel) rfl ?_
    refine Ev_imul hq_203 (show decode prog_7_method_76_code 93 = .ok (.imul, 1) by decide +kernel) ?_
    refine Ev_iconst (v := 2) hq_203 (show decode prog_7_method_76_code 94 = .ok (.iconst 2, 1) by decide +kernel) (by decide) ?_
    refine Ev_iadd hq_203 (show decode prog_7_method_76_code 95 = .ok (.iadd, 1) by decide +kernel) ?_
    refine Ev_aload_n hq_203 (show decode prog_7_method_76_code 96 = .ok (.aload_n 0, 1) by decide +kernel) rfl ?_
    refine Ev_getR hq_203 (show decode prog_7_method_76_code 97 = .ok (.getfield 77, 3) by decide +kernel) rfl (SGn hS (by decide)) (SGk hS rfl) (by decide) rfl (SGr hS rfl) ?_
    refine Ev_iload hq_203 (show decode prog_7_method_76_code 100 = .ok (.iload 4, 2) by decide +kernel) rfl ?_
    obtain ⟨h2, k⟩ := k
    refine Ev_iald hq_203 (show decode prog_7_method_76_code 102 = .ok (.iaload, 1) by decide +kernel) (SGn hS (by decide)) (SGk hS rfl) (SGi hS rfl h2) ?_
    obtain ⟨h3, k⟩ := k
    refine Ev_iast hq_203 (show decode prog_7_method_76_code 103 = .ok (.iastore, 1) by decide +kernel) (SGn hS (by decide)) (SGk hS rfl) (SGi hS rfl h3) ?_
    obtain ⟨I4, eI4⟩ : ∃ I4 : zI, I4 = z_up I 60 ((5 * x4) + 2).toNatClampNeg (I 79 x4.toNatClampNeg) := ⟨_, rfl⟩
    have k := k I4 eI4
    rw [← eI4]
    obtain ⟨y5, ey5⟩ : ∃ y5 : Int32, y5 = x4 + 1 := ⟨_, rfl⟩
    have k := k y5 ey5
    refine Ev_iinc (v := y5) (lo2 := [.ref 57, .int x1, .long x2, zU, .int y5]) hq_203 (show decode prog_7_method_76_code 104 = .ok (.iinc 4 1, 3) by decide +kernel) rfl (by rw [ey5]; rfl) rfl ?_
    refine Ev_goto (tgt := 77) hq_203 (show decode prog_7_method_76_code 107 = .ok (.goto (-30), 3) by decide +kernel) (by decide) ?_
    exact k
set_option maxRecDepth 20000 in
theorem wp_Z_drawn {X : Nat × (Nat → Int32)} {d : Nat} {G : zG} {I : zI} {res : Option Value × zG × zI} (x1 : Int32) (x2 : Int32) (hS : SG G) 
    (k : ((f_Z_in x1 0 99999) = 0 → res = (some (.int (-2)), G, I)) ∧ (¬ (f_Z_in x1 0 99999) = 0 → (¬ (f_Z_in x2 0 1) = 0 → ∃ (I3 : zI), Cv X d 203 [.ref 57, .int x1] G I (none, G, I3) ∧ ((¬ x2 = 0 → ∃ (r8 : Int32) (I6 : zI), Cv X d 174 [.ref 57] G I3 (some (.int r8), G, I6) ∧ (res = (some (.int r8), G, I6))) ∧ (x2 = 0 → ∃ (r11 : Int32) (I9 : zI), Cv X d 173 [.ref 57] G I3 (some (.int r11), G, I9) ∧ (res = (some (.int r11), G, I9))))) ∧ ((f_Z_in x2 0 1) = 0 → res = (some (.int (-2)), G, I)))) :
    Ev X (d + 1) 202 0 [.ref 57, .int x1, .int x2] [] G I res := by
  refine Ev_iload_n hq_202 (show decode prog_7_method_77_code 0 = .ok (.iload_n 1, 1) by decide +kernel) rfl ?_
  refine Ev_iconst (v := 0) hq_202 (show decode prog_7_method_77_code 1 = .ok (.iconst 0, 1) by decide +kernel) (by decide) ?_
  refine Ev_ldcw (v := 99999) hq_202 (show decode prog_7_method_77_code 2 = .ok (.ldc_w 269, 3) by decide +kernel) rfl ?_
  refine Ev_stat (as := [.int x1, .int 0, .int 99999]) hq_202 (show decode prog_7_method_77_code 5 = .ok (.invokestatic 90, 3) by decide +kernel) rfl (Or.inl rfl) hq_131 rfl (z_le rfl) (c_Z_in x1 0 99999) ?_
  refine Ev_if_eq (tgt := 20) hq_202 (show decode prog_7_method_77_code 8 = .ok (.ifCond .eq 12, 3) by decide +kernel) (by decide) (fun c1 => ?_) (fun c1 => ?_)
  · have k := k.1 c1
    refine Ev_bipush (v := (-2)) hq_202 (show decode prog_7_method_77_code 20 = .ok (.bipush (-2), 2) by decide +kernel) (by decide) ?_
    exact Ev_iret hq_202 (show decode prog_7_method_77_code 22 = .ok (.ireturn, 1) by decide +kernel) rfl k
  · have k := k.2 c1
    refine Ev_iload_n hq_202 (show decode prog_7_method_77_code 11 = .ok (.iload_n 2, 1) by decide +kernel) rfl ?_
    refine Ev_iconst (v := 0) hq_202 (show decode prog_7_method_77_code 12 = .ok (.iconst 0, 1) by decide +kernel) (by decide) ?_
    refine Ev_iconst (v := 1) hq_202 (show decode prog_7_method_77_code 13 = .ok (.iconst 1, 1) by decide +kernel) (by decide) ?_
    refine Ev_stat (as := [.int x2, .int 0, .int 1]) hq_202 (show decode prog_7_method_77_code 14 = .ok (.invokestatic 90, 3) by decide +kernel) rfl (Or.inl rfl) hq_131 rfl (z_le rfl) (c_Z_in x2 0 1) ?_
    refine Ev_if_ne (tgt := 23) hq_202 (show decode prog_7_method_77_code 17 = .ok (.ifCond .ne 6, 3) by decide +kernel) (by decide) (fun c2 => ?_) (fun c2 => ?_)
    · have k := k.1 c2
      refine Ev_aload_n hq_202 (show decode prog_7_method_77_code 23 = .ok (.aload_n 0, 1) by decide +kernel) rfl ?_
      refine Ev_iload_n hq_202 (show decode prog_7_method_77_code 24 = .ok (.iload_n 1, 1) by decide +kernel) rfl ?_
      obtain ⟨I3, h4, k⟩ := k
      refine Ev_virt (as := [.int x1]) hq_202 (show decode prog_7_method_77_code 25 = .ok (.invokevirtual 270, 3) by decide +kernel) rfl hq_203 rfl (z_le rfl) ⟨(SGn hS (by decide)), (SGk hS rfl), by decide⟩ h4 ?_
      refine Ev_iload_n hq_202 (show decode prog_7_method_77_code 28 = .ok (.iload_n 2, 1) by decide +kernel) rfl ?_
      refine Ev_if_ne (tgt := 39) hq_202 (show decode prog_7_method_77_code 29 = .ok (.ifCond .ne 10, 3) by decide +kernel) (by decide) (fun c5 => ?_) (fun c5 => ?_)
      · have k := k.1 c5
        refine Ev_aload_n hq_202 (show decode prog_7_method_77_code 39 = .ok (.aload_n 0, 1) by decide +kernel) rfl ?_
        obtain ⟨r8, I6, h7, k⟩ := k
        refine Ev_virt (as := []) hq_202 (show decode prog_7_method_77_code 40 = .ok (.invokevirtual 226, 3) by decide +kernel) rfl hq_174 rfl (z_le rfl) ⟨(SGn hS (by decide)), (SGk hS rfl), by decide⟩ h7 ?_
        exact Ev_iret hq_202 (show decode prog_7_method_77_code 43 = .ok (.ireturn, 1) by decide +kernel) rfl k
      · have k := k.2 (Classical.not_not.mp c5)
        refine Ev_aload_n hq_202 (show decode prog_7_method_77_code 32 = .ok (.aload_n 0, 1) by decide +kernel) rfl ?_
        obtain ⟨r11, I9, h10, k⟩ := k
        refine Ev_virt (as := []) hq_202 (show decode prog_7_method_77_code 33 = .ok (.invokevirtual 208, 3) by decide +kernel) rfl hq_173 rfl (z_le rfl) ⟨(SGn hS (by decide)), (SGk hS rfl), by decide⟩ h10 ?_
        refine Ev_goto (tgt := 43) hq_202 (show decode prog_7_method_77_code 36 = .ok (.goto 7, 3) by decide +kernel) (by decide) ?_
        exact Ev_iret hq_202 (show decode prog_7_method_77_code 43 = .ok (.ireturn, 1) by decide +kernel) rfl k
    · have k := k.2 (Classical.not_not.mp c2)
      refine Ev_bipush (v := (-2)) hq_202 (show decode prog_7_method_77_code 20 = .ok (.bipush (-2), 2) by decide +kernel) (by decide) ?_
      exact Ev_iret hq_202 (show decode prog_7_method_77_code 22 = .ok (.ireturn, 1) by decide +kernel) rfl k
set_option maxRecDepth 20000 in
theorem wp_Z_allRest {X : Nat × (Nat → Int32)} {d : Nat} {G : zG} {I : zI} {res : Option Value × zG × zI} (x1 : Int32) 
    (k : Ev X d 205 2 [.ref 57, .int x1, .int 0] [] G I res) :
    Ev X d 205 0 [.ref 57, .int x1, zU] [] G I res := by
  refine Ev_iconst (v := 0) hq_205 (show decode prog_7_method_78_code 0 = .ok (.iconst 0, 1) by decide +kernel) (by decide) ?_
  refine Ev_istore_n (lo2 := [.ref 57, .int x1, .int 0]) hq_205 (show decode prog_7_method_78_code 1 = .ok (.istore_n 2, 1) by decide +kernel) (z_le rfl) rfl ?_
  exact k
set_option maxRecDepth 20000 in
theorem wp_Z_allRest_2 {X : Nat × (Nat → Int32)} {d : Nat} {G : zG} {I : zI} {res : Option Value × zG × zI} (x1 : Int32) (x2 : Int32) (hS : SG G) 
    (k : ((I 57 0) ≤ x2 → res = (some (.int 1), G, I)) ∧ (¬ (I 57 0) ≤ x2 → ∃ (r4 : Int32) (I2 : zI), Cv X d 143 [.ref 57, .int x2] G I (some (.int r4), G, I2) ∧ ((r4 = 0 → ∀ y6 : Int32, y6 = x2 + 1 → Ev X (d + 1) 205 2 [.ref 57, .int x1, .int y6] [] G I2 res) ∧ (¬ r4 = 0 → ∃ (r9 : Int32) (I7 : zI), Cv X d 170 [.ref 57, .int x2, .int x1] G I2 (some (.int r9), G, I7) ∧ ((¬ r9 = (-1) → ∀ y11 : Int32, y11 = x2 + 1 → Ev X (d + 1) 205 2 [.ref 57, .int x1, .int y11] [] G I7 res) ∧ (r9 = (-1) → res = (some (.int 0), G, I7))))))) :
    Ev X (d + 1) 205 2 [.ref 57, .int x1, .int x2] [] G I res := by
  refine Ev_iload_n hq_205 (show decode prog_7_method_78_code 2 = .ok (.iload_n 2, 1) by decide +kernel) rfl ?_
  refine Ev_aload_n hq_205 (show decode prog_7_method_78_code 3 = .ok (.aload_n 0, 1) by decide +kernel) rfl ?_
  refine Ev_getI hq_205 (show decode prog_7_method_78_code 4 = .ok (.getfield 87, 3) by decide +kernel) rfl (SGn hS (by decide)) (SGk hS rfl) (by decide) rfl ?_
  refine Ev_icmp_ge (tgt := 36) hq_205 (show decode prog_7_method_78_code 7 = .ok (.if_icmp .ge 29, 3) by decide +kernel) (by decide) (fun c1 => ?_) (fun c1 => ?_)
  · have k := k.1 c1
    refine Ev_iconst (v := 1) hq_205 (show decode prog_7_method_78_code 36 = .ok (.iconst 1, 1) by decide +kernel) (by decide) ?_
    exact Ev_iret hq_205 (show decode prog_7_method_78_code 37 = .ok (.ireturn, 1) by decide +kernel) rfl k
  · have k := k.2 c1
    refine Ev_aload_n hq_205 (show decode prog_7_method_78_code 10 = .ok (.aload_n 0, 1) by decide +kernel) rfl ?_
    refine Ev_iload_n hq_205 (show decode prog_7_method_78_code 11 = .ok (.iload_n 2, 1) by decide +kernel) rfl ?_
    obtain ⟨r4, I2, h3, k⟩ := k
    refine Ev_virt (as := [.int x2]) hq_205 (show decode prog_7_method_78_code 12 = .ok (.invokevirtual 94, 3) by decide +kernel) rfl hq_143 rfl (z_le rfl) ⟨(SGn hS (by decide)), (SGk hS rfl), by decide⟩ h3 ?_
    refine Ev_if_eq (tgt := 30) hq_205 (show decode prog_7_method_78_code 15 = .ok (.ifCond .eq 15, 3) by decide +kernel) (by decide) (fun c5 => ?_) (fun c5 => ?_)
    · have k := k.1 c5
      obtain ⟨y6, ey6⟩ : ∃ y6 : Int32, y6 = x2 + 1 := ⟨_, rfl⟩
      have k := k y6 ey6
      refine Ev_iinc (v := y6) (lo2 := [.ref 57, .int x1, .int y6]) hq_205 (show decode prog_7_method_78_code 30 = .ok (.iinc 2 1, 3) by decide +kernel) rfl (by rw [ey6]; rfl) rfl ?_
      refine Ev_goto (tgt := 2) hq_205 (show decode prog_7_method_78_code 33 = .ok (.goto (-31), 3) by decide +kernel) (by decide) ?_
      exact k
    · have k := k.2 c5
      refine Ev_aload_n hq_205 (show decode prog_7_method_78_code 18 = .ok (.aload_n 0, 1) by decide +kernel) rfl ?_
      refine Ev_iload_n hq_205 (show decode prog_7_method_78_code 19 = .ok (.iload_n 2, 1) by decide +kernel) rfl ?_
      refine Ev_iload_n hq_205 (show decode prog_7_method_78_code 20 = .ok (.iload_n 1, 1) by decide +kernel) rfl ?_
      obtain ⟨r9, I7, h8, k⟩ := k
      refine Ev_virt (as := [.int x2, .int x1]) hq_205 (show decode prog_7_method_78_code 21 = .ok (.invokevirtual 217, 3) by decide +kernel) rfl hq_170 rfl (z_le rfl) ⟨(SGn hS (by decide)), (SGk hS rfl), by decide⟩ h8 ?_
      refine Ev_iconst (v := (-1)) hq_205 (show decode prog_7_method_78_code 24 = .ok (.iconst (-1), 1) by decide +kernel) (by decide) ?_
      refine Ev_icmp_ne (tgt := 30) hq_205 (show decode prog_7_method_78_code 25 = .ok (.if_icmp .ne 5, 3) by decide +kernel) (by decide) (fun c10 => ?_) (fun c10 => ?_)
      · have k := k.1 c10
        obtain ⟨y11, ey11⟩ : ∃ y11 : Int32, y11 = x2 + 1 := ⟨_, rfl⟩
        have k := k y11 ey11
        refine Ev_iinc (v := y11) (lo2 := [.ref 57, .int x1, .int y11]) hq_205 (show decode prog_7_method_78_code 30 = .ok (.iinc 2 1, 3) by decide +kernel) rfl (by rw [ey11]; rfl) rfl ?_
        refine Ev_goto (tgt := 2) hq_205 (show decode prog_7_method_78_code 33 = .ok (.goto (-31), 3) by decide +kernel) (by decide) ?_
        exact k
      · have k := k.2 (Classical.not_not.mp c10)
        refine Ev_iconst (v := 0) hq_205 (show decode prog_7_method_78_code 28 = .ok (.iconst 0, 1) by decide +kernel) (by decide) ?_
        exact Ev_iret hq_205 (show decode prog_7_method_78_code 29 = .ok (.ireturn, 1) by decide +kernel) rfl k
set_option maxRecDepth 20000 in
theorem wp_Z_lowest {X : Nat × (Nat → Int32)} {d : Nat} {G : zG} {I : zI} {res : Option Value × zG × zI} (x0 : Int64) (x2 : Int64) (x4 : Int32) 
    (k : (¬ (lg_cmp x0 0) = 0 → Ev X d 206 16 [.long x0, zU, .long x2, zU, .int x4, .long x0, zU, .long x2, zU, zU, zU] [] G I res) ∧ ((lg_cmp x0 0) = 0 → res = (some (.long (x4.toInt64)), G, I))) :
    Ev X d 206 0 [.long x0, zU, .long x2, zU, .int x4, zU, zU, zU, zU, zU, zU] [] G I res := by
  refine Ev_lload_n hq_206 (show decode prog_7_method_79_code 0 = .ok (.lload_n 0, 1) by decide +kernel) rfl ?_
  refine Ev_lconst (v := 0) hq_206 (show decode prog_7_method_79_code 1 = .ok (.lconst 0, 1) by decide +kernel) (by decide) ?_
  refine Ev_lcmp hq_206 (show decode prog_7_method_79_code 2 = .ok (.lcmp, 1) by decide +kernel) ?_
  refine Ev_if_ne (tgt := 10) hq_206 (show decode prog_7_method_79_code 3 = .ok (.ifCond .ne 7, 3) by decide +kernel) (by decide) (fun c1 => ?_) (fun c1 => ?_)
  · have k := k.1 c1
    refine Ev_lload_n hq_206 (show decode prog_7_method_79_code 10 = .ok (.lload_n 0, 1) by decide +kernel) rfl ?_
    refine Ev_lstore (lo2 := [.long x0, zU, .long x2, zU, .int x4, .long x0, zU, zU, zU, zU, zU]) hq_206 (show decode prog_7_method_79_code 11 = .ok (.lstore 5, 2) by decide +kernel) (z_le rfl) rfl ?_
    refine Ev_lload_n hq_206 (show decode prog_7_method_79_code 13 = .ok (.lload_n 2, 1) by decide +kernel) rfl ?_
    refine Ev_lstore (lo2 := [.long x0, zU, .long x2, zU, .int x4, .long x0, zU, .long x2, zU, zU, zU]) hq_206 (show decode prog_7_method_79_code 14 = .ok (.lstore 7, 2) by decide +kernel) (z_le rfl) rfl ?_
    exact k
  · have k := k.2 (Classical.not_not.mp c1)
    refine Ev_iload hq_206 (show decode prog_7_method_79_code 6 = .ok (.iload 4, 2) by decide +kernel) rfl ?_
    refine Ev_i2l hq_206 (show decode prog_7_method_79_code 8 = .ok (.i2l, 1) by decide +kernel) ?_
    exact Ev_lret hq_206 (show decode prog_7_method_79_code 9 = .ok (.lreturn, 1) by decide +kernel) k
set_option maxRecDepth 20000 in
theorem wp_Z_lowest_16 {X : Nat × (Nat → Int32)} {d : Nat} {G : zG} {I : zI} {res : Option Value × zG × zI} (x0 : Int64) (x2 : Int64) (x4 : Int32) (x5 : Int64) (x7 : Int64) (v9 : Value) (cv9 : v9.category = 1) 
    (k : ((lg_cmp x7 0) = 0 → (¬ x4 = 0 → (¬ x5 = 0) ∧ (res = (some (.long (x2 / x5)), G, I))) ∧ (x4 = 0 → (¬ x5 = 0) ∧ (res = (some (.long (x0 / x5)), G, I)))) ∧ (¬ (lg_cmp x7 0) = 0 → (¬ x7 = 0) ∧ (∀ y6 : Int64, y6 = (x5 - x5 / x7 * x7) → Ev X d 206 16 [.long x0, zU, .long x2, zU, .int x4, .long x7, zU, .long y6, zU, .long y6, zU] [] G I res))) :
    Ev X d 206 16 [.long x0, zU, .long x2, zU, .int x4, .long x5, zU, .long x7, zU, v9, zU] [] G I res := by
  refine Ev_lload hq_206 (show decode prog_7_method_79_code 16 = .ok (.lload 7, 2) by decide +kernel) rfl ?_
  refine Ev_lconst (v := 0) hq_206 (show decode prog_7_method_79_code 18 = .ok (.lconst 0, 1) by decide +kernel) (by decide) ?_
  refine Ev_lcmp hq_206 (show decode prog_7_method_79_code 19 = .ok (.lcmp, 1) by decide +kernel) ?_
  refine Ev_if_eq (tgt := 41) hq_206 (show decode prog_7_method_79_code 20 = .ok (.ifCond .eq 21, 3) by decide +kernel) (by decide) (fun c1 => ?_) (fun c1 => ?_)
  · have k := k.1 c1
    refine Ev_iload hq_206 (show decode prog_7_method_79_code 41 = .ok (.iload 4, 2) by decide +kernel) rfl ?_
    refine Ev_if_ne (tgt := 50) hq_206 (show decode prog_7_method_79_code 43 = .ok (.ifCond .ne 7, 3) by decide +kernel) (by decide) (fun c2 => ?_) (fun c2 => ?_)
    · have k := k.1 c2
      refine Ev_lload_n hq_206 (show decode prog_7_method_79_code 50 = .ok (.lload_n 2, 1) by decide +kernel) rfl ?_
      refine Ev_lload hq_206 (show decode prog_7_method_79_code 51 = .ok (.lload 5, 2) by decide +kernel) rfl ?_
      obtain ⟨h3, k⟩ := k
      refine Ev_ldiv hq_206 (show decode prog_7_method_79_code 53 = .ok (.ldiv, 1) by decide +kernel) h3 ?_
      exact Ev_lret hq_206 (show decode prog_7_method_79_code 54 = .ok (.lreturn, 1) by decide +kernel) k
    · have k := k.2 (Classical.not_not.mp c2)
      refine Ev_lload_n hq_206 (show decode prog_7_method_79_code 46 = .ok (.lload_n 0, 1) by decide +kernel) rfl ?_
      refine Ev_goto (tgt := 51) hq_206 (show decode prog_7_method_79_code 47 = .ok (.goto 4, 3) by decide +kernel) (by decide) ?_
      refine Ev_lload hq_206 (show decode prog_7_method_79_code 51 = .ok (.lload 5, 2) by decide +kernel) rfl ?_
      obtain ⟨h4, k⟩ := k
      refine Ev_ldiv hq_206 (show decode prog_7_method_79_code 53 = .ok (.ldiv, 1) by decide +kernel) h4 ?_
      exact Ev_lret hq_206 (show decode prog_7_method_79_code 54 = .ok (.lreturn, 1) by decide +kernel) k
  · have k := k.2 c1
    refine Ev_lload hq_206 (show decode prog_7_method_79_code 23 = .ok (.lload 5, 2) by decide +kernel) rfl ?_
    refine Ev_lload hq_206 (show decode prog_7_method_79_code 25 = .ok (.lload 7, 2) by decide +kernel) rfl ?_
    obtain ⟨h5, k⟩ := k
    refine Ev_lrem hq_206 (show decode prog_7_method_79_code 27 = .ok (.lrem, 1) by decide +kernel) h5 ?_
    obtain ⟨y6, ey6⟩ : ∃ y6 : Int64, y6 = (x5 - x5 / x7 * x7) := ⟨_, rfl⟩
    have k := k y6 ey6
    rw [← ey6]
    refine Ev_lstore (lo2 := [.long x0, zU, .long x2, zU, .int x4, .long x5, zU, .long x7, zU, .long y6, zU]) hq_206 (show decode prog_7_method_79_code 28 = .ok (.lstore 9, 2) by decide +kernel) (z_le rfl) rfl ?_
    refine Ev_lload hq_206 (show decode prog_7_method_79_code 30 = .ok (.lload 7, 2) by decide +kernel) rfl ?_
    refine Ev_lstore (lo2 := [.long x0, zU, .long x2, zU, .int x4, .long x7, zU, .long x7, zU, .long y6, zU]) hq_206 (show decode prog_7_method_79_code 32 = .ok (.lstore 5, 2) by decide +kernel) (z_le rfl) rfl ?_
    refine Ev_lload hq_206 (show decode prog_7_method_79_code 34 = .ok (.lload 9, 2) by decide +kernel) rfl ?_
    refine Ev_lstore (lo2 := [.long x0, zU, .long x2, zU, .int x4, .long x7, zU, .long y6, zU, .long y6, zU]) hq_206 (show decode prog_7_method_79_code 36 = .ok (.lstore 7, 2) by decide +kernel) (z_le rfl) rfl ?_
    refine Ev_goto (tgt := 16) hq_206 (show decode prog_7_method_79_code 38 = .ok (.goto (-22), 3) by decide +kernel) (by decide) ?_
    exact k
set_option maxRecDepth 20000 in
theorem wp_Z_image {X : Nat × (Nat → Int32)} {d : Nat} {G : zG} {I : zI} {res : Option Value × zG × zI}  (hS : SG G) 
    (k : (∀ I1 : zI, I1 = z_up I 57 10 1 → (∀ I2 : zI, I2 = z_up I1 57 11 (I1 57 0) → (∀ I3 : zI, I3 = z_up I2 57 12 (I2 57 9) → Ev X d 207 23 [.ref 57, .int 0] [] G I3 res)))) :
    Ev X d 207 0 [.ref 57, zU] [] G I res := by
  refine Ev_aload_n hq_207 (show decode prog_7_method_81_code 0 = .ok (.aload_n 0, 1) by decide +kernel) rfl ?_
  refine Ev_iconst (v := 1) hq_207 (show decode prog_7_method_81_code 1 = .ok (.iconst 1, 1) by decide +kernel) (by decide) ?_
  refine Ev_putI hq_207 (show decode prog_7_method_81_code 2 = .ok (.putfield 282, 3) by decide +kernel) rfl (SGn hS (by decide)) (SGk hS rfl) (by decide) (by decide) rfl (fun _ => by decide) ?_
  obtain ⟨I1, eI1⟩ : ∃ I1 : zI, I1 = z_up I 57 10 1 := ⟨_, rfl⟩
  have k := k I1 eI1
  rw [← eI1]
  refine Ev_aload_n hq_207 (show decode prog_7_method_81_code 5 = .ok (.aload_n 0, 1) by decide +kernel) rfl ?_
  refine Ev_aload_n hq_207 (show decode prog_7_method_81_code 6 = .ok (.aload_n 0, 1) by decide +kernel) rfl ?_
  refine Ev_getI hq_207 (show decode prog_7_method_81_code 7 = .ok (.getfield 87, 3) by decide +kernel) rfl (SGn hS (by decide)) (SGk hS rfl) (by decide) rfl ?_
  refine Ev_putI hq_207 (show decode prog_7_method_81_code 10 = .ok (.putfield 286, 3) by decide +kernel) rfl (SGn hS (by decide)) (SGk hS rfl) (by decide) (by decide) rfl (fun hz => by cases hz) ?_
  obtain ⟨I2, eI2⟩ : ∃ I2 : zI, I2 = z_up I1 57 11 (I1 57 0) := ⟨_, rfl⟩
  have k := k I2 eI2
  rw [← eI2]
  refine Ev_aload_n hq_207 (show decode prog_7_method_81_code 13 = .ok (.aload_n 0, 1) by decide +kernel) rfl ?_
  refine Ev_aload_n hq_207 (show decode prog_7_method_81_code 14 = .ok (.aload_n 0, 1) by decide +kernel) rfl ?_
  refine Ev_getI hq_207 (show decode prog_7_method_81_code 15 = .ok (.getfield 104, 3) by decide +kernel) rfl (SGn hS (by decide)) (SGk hS rfl) (by decide) rfl ?_
  refine Ev_putI hq_207 (show decode prog_7_method_81_code 18 = .ok (.putfield 289, 3) by decide +kernel) rfl (SGn hS (by decide)) (SGk hS rfl) (by decide) (by decide) rfl (fun hz => by cases hz) ?_
  obtain ⟨I3, eI3⟩ : ∃ I3 : zI, I3 = z_up I2 57 12 (I2 57 9) := ⟨_, rfl⟩
  have k := k I3 eI3
  rw [← eI3]
  refine Ev_iconst (v := 0) hq_207 (show decode prog_7_method_81_code 21 = .ok (.iconst 0, 1) by decide +kernel) (by decide) ?_
  refine Ev_istore_n (lo2 := [.ref 57, .int 0]) hq_207 (show decode prog_7_method_81_code 22 = .ok (.istore_n 1, 1) by decide +kernel) (z_le rfl) rfl ?_
  exact k
set_option maxRecDepth 20000 in
theorem wp_Z_image_23 {X : Nat × (Nat → Int32)} {d : Nat} {G : zG} {I : zI} {res : Option Value × zG × zI} (x1 : Int32) (hS : SG G) 
    (k : (20 ≤ x1 → res = (some (.int (I 57 0)), G, I)) ∧ (¬ 20 ≤ x1 → z_inr x1 20 ∧ (z_inr x1 20 ∧ (∀ I4 : zI, I4 = z_up I 64 x1.toNatClampNeg (I 60 x1.toNatClampNeg) → ∀ y5 : Int32, y5 = x1 + 1 → Ev X d 207 23 [.ref 57, .int y5] [] G I4 res)))) :
    Ev X d 207 23 [.ref 57, .int x1] [] G I res := by
  refine Ev_iload_n hq_207 (show decode prog_7_method_81_code 23 = .ok (.iload_n 1, 1) by decide +kernel) rfl ?_
  refine Ev_bipush (v := 20) hq_207 (show decode prog_7_method_81_code 24 = .ok (.bipush 20, 2) by decide +kernel) (by decide) ?_
  refine Ev_icmp_ge (tgt := 47) hq_207 (show decode prog_7_method_81_code 26 = .ok (.if_icmp .ge 21, 3) by decide +kernel) (by decide) (fun c1 => ?_) (fun c1 => ?_)
  · have k := k.1 c1
    refine Ev_aload_n hq_207 (show decode prog_7_method_81_code 47 = .ok (.aload_n 0, 1) by decide +kernel) rfl ?_
    refine Ev_getI hq_207 (show decode prog_7_method_81_code 48 = .ok (.getfield 87, 3) by decide +kernel) rfl (SGn hS (by decide)) (SGk hS rfl) (by decide) rfl ?_
    exact Ev_iret hq_207 (show decode prog_7_method_81_code 51 = .ok (.ireturn, 1) by decide +kernel) rfl k
  · have k := k.2 c1
    refine Ev_aload_n hq_207 (show decode prog_7_method_81_code 29 = .ok (.aload_n 0, 1) by decide +kernel) rfl ?_
    refine Ev_getR hq_207 (show decode prog_7_method_81_code 30 = .ok (.getfield 28, 3) by decide +kernel) rfl (SGn hS (by decide)) (SGk hS rfl) (by decide) rfl (SGr hS rfl) ?_
    refine Ev_iload_n hq_207 (show decode prog_7_method_81_code 33 = .ok (.iload_n 1, 1) by decide +kernel) rfl ?_
    refine Ev_aload_n hq_207 (show decode prog_7_method_81_code 34 = .ok (.aload_n 0, 1) by decide +kernel) rfl ?_
    refine Ev_getR hq_207 (show decode prog_7_method_81_code 35 = .ok (.getfield 16, 3) by decide +kernel) rfl (SGn hS (by decide)) (SGk hS rfl) (by decide) rfl (SGr hS rfl) ?_
    refine Ev_iload_n hq_207 (show decode prog_7_method_81_code 38 = .ok (.iload_n 1, 1) by decide +kernel) rfl ?_
    obtain ⟨h2, k⟩ := k
    refine Ev_iald hq_207 (show decode prog_7_method_81_code 39 = .ok (.iaload, 1) by decide +kernel) (SGn hS (by decide)) (SGk hS rfl) (SGi hS rfl h2) ?_
    obtain ⟨h3, k⟩ := k
    refine Ev_iast hq_207 (show decode prog_7_method_81_code 40 = .ok (.iastore, 1) by decide +kernel) (SGn hS (by decide)) (SGk hS rfl) (SGi hS rfl h3) ?_
    obtain ⟨I4, eI4⟩ : ∃ I4 : zI, I4 = z_up I 64 x1.toNatClampNeg (I 60 x1.toNatClampNeg) := ⟨_, rfl⟩
    have k := k I4 eI4
    rw [← eI4]
    obtain ⟨y5, ey5⟩ : ∃ y5 : Int32, y5 = x1 + 1 := ⟨_, rfl⟩
    have k := k y5 ey5
    refine Ev_iinc (v := y5) (lo2 := [.ref 57, .int y5]) hq_207 (show decode prog_7_method_81_code 41 = .ok (.iinc 1 1, 3) by decide +kernel) rfl (by rw [ey5]; rfl) rfl ?_
    refine Ev_goto (tgt := 23) hq_207 (show decode prog_7_method_81_code 44 = .ok (.goto (-21), 3) by decide +kernel) (by decide) ?_
    exact k
set_option maxRecDepth 20000 in
theorem wp_Z_back {X : Nat × (Nat → Int32)} {d : Nat} {G : zG} {I : zI} {res : Option Value × zG × zI}  (hS : SG G) 
    (k : (¬ (I 57 10) = 0 → (∀ I2 : zI, I2 = z_up I 57 0 (I 57 11) → (∀ I3 : zI, I3 = z_up I2 57 9 (I2 57 12) → Ev X d 208 28 [.ref 57, .int 0] [] G I3 res))) ∧ ((I 57 10) = 0 → res = (some (.int (-3)), G, I))) :
    Ev X d 208 0 [.ref 57, zU] [] G I res := by
  refine Ev_aload_n hq_208 (show decode prog_7_method_82_code 0 = .ok (.aload_n 0, 1) by decide +kernel) rfl ?_
  refine Ev_getI hq_208 (show decode prog_7_method_82_code 1 = .ok (.getfield 282, 3) by decide +kernel) rfl (SGn hS (by decide)) (SGk hS rfl) (by decide) rfl ?_
  refine Ev_if_ne (tgt := 10) hq_208 (show decode prog_7_method_82_code 4 = .ok (.ifCond .ne 6, 3) by decide +kernel) (by decide) (fun c1 => ?_) (fun c1 => ?_)
  · have k := k.1 c1
    refine Ev_aload_n hq_208 (show decode prog_7_method_82_code 10 = .ok (.aload_n 0, 1) by decide +kernel) rfl ?_
    refine Ev_aload_n hq_208 (show decode prog_7_method_82_code 11 = .ok (.aload_n 0, 1) by decide +kernel) rfl ?_
    refine Ev_getI hq_208 (show decode prog_7_method_82_code 12 = .ok (.getfield 286, 3) by decide +kernel) rfl (SGn hS (by decide)) (SGk hS rfl) (by decide) rfl ?_
    refine Ev_putI hq_208 (show decode prog_7_method_82_code 15 = .ok (.putfield 87, 3) by decide +kernel) rfl (SGn hS (by decide)) (SGk hS rfl) (by decide) (by decide) rfl (fun hz => by cases hz) ?_
    obtain ⟨I2, eI2⟩ : ∃ I2 : zI, I2 = z_up I 57 0 (I 57 11) := ⟨_, rfl⟩
    have k := k I2 eI2
    rw [← eI2]
    refine Ev_aload_n hq_208 (show decode prog_7_method_82_code 18 = .ok (.aload_n 0, 1) by decide +kernel) rfl ?_
    refine Ev_aload_n hq_208 (show decode prog_7_method_82_code 19 = .ok (.aload_n 0, 1) by decide +kernel) rfl ?_
    refine Ev_getI hq_208 (show decode prog_7_method_82_code 20 = .ok (.getfield 289, 3) by decide +kernel) rfl (SGn hS (by decide)) (SGk hS rfl) (by decide) rfl ?_
    refine Ev_putI hq_208 (show decode prog_7_method_82_code 23 = .ok (.putfield 104, 3) by decide +kernel) rfl (SGn hS (by decide)) (SGk hS rfl) (by decide) (by decide) rfl (fun hz => by cases hz) ?_
    obtain ⟨I3, eI3⟩ : ∃ I3 : zI, I3 = z_up I2 57 9 (I2 57 12) := ⟨_, rfl⟩
    have k := k I3 eI3
    rw [← eI3]
    refine Ev_iconst (v := 0) hq_208 (show decode prog_7_method_82_code 26 = .ok (.iconst 0, 1) by decide +kernel) (by decide) ?_
    refine Ev_istore_n (lo2 := [.ref 57, .int 0]) hq_208 (show decode prog_7_method_82_code 27 = .ok (.istore_n 1, 1) by decide +kernel) (z_le rfl) rfl ?_
    exact k
  · have k := k.2 (Classical.not_not.mp c1)
    refine Ev_bipush (v := (-3)) hq_208 (show decode prog_7_method_82_code 7 = .ok (.bipush (-3), 2) by decide +kernel) (by decide) ?_
    exact Ev_iret hq_208 (show decode prog_7_method_82_code 9 = .ok (.ireturn, 1) by decide +kernel) rfl k
set_option maxRecDepth 20000 in
theorem wp_Z_back_28 {X : Nat × (Nat → Int32)} {d : Nat} {G : zG} {I : zI} {res : Option Value × zG × zI} (x1 : Int32) (hS : SG G) 
    (k : (20 ≤ x1 → res = (some (.int (I 57 0)), G, I)) ∧ (¬ 20 ≤ x1 → z_inr x1 20 ∧ (z_inr x1 20 ∧ (∀ I4 : zI, I4 = z_up I 60 x1.toNatClampNeg (I 64 x1.toNatClampNeg) → ∀ y5 : Int32, y5 = x1 + 1 → Ev X d 208 28 [.ref 57, .int y5] [] G I4 res)))) :
    Ev X d 208 28 [.ref 57, .int x1] [] G I res := by
  refine Ev_iload_n hq_208 (show decode prog_7_method_82_code 28 = .ok (.iload_n 1, 1) by decide +kernel) rfl ?_
  refine Ev_bipush (v := 20) hq_208 (show decode prog_7_method_82_code 29 = .ok (.bipush 20, 2) by decide +kernel) (by decide) ?_
  refine Ev_icmp_ge (tgt := 52) hq_208 (show decode prog_7_method_82_code 31 = .ok (.if_icmp .ge 21, 3) by decide +kernel) (by decide) (fun c1 => ?_) (fun c1 => ?_)
  · have k := k.1 c1
    refine Ev_aload_n hq_208 (show decode prog_7_method_82_code 52 = .ok (.aload_n 0, 1) by decide +kernel) rfl ?_
    refine Ev_getI hq_208 (show decode prog_7_method_82_code 53 = .ok (.getfield 87, 3) by decide +kernel) rfl (SGn hS (by decide)) (SGk hS rfl) (by decide) rfl ?_
    exact Ev_iret hq_208 (show decode prog_7_method_82_code 56 = .ok (.ireturn, 1) by decide +kernel) rfl k
  · have k := k.2 c1
    refine Ev_aload_n hq_208 (show decode prog_7_method_82_code 34 = .ok (.aload_n 0, 1) by decide +kernel) rfl ?_
    refine Ev_getR hq_208 (show decode prog_7_method_82_code 35 = .ok (.getfield 16, 3) by decide +kernel) rfl (SGn hS (by decide)) (SGk hS rfl) (by decide) rfl (SGr hS rfl) ?_
    refine Ev_iload_n hq_208 (show decode prog_7_method_82_code 38 = .ok (.iload_n 1, 1) by decide +kernel) rfl ?_
    refine Ev_aload_n hq_208 (show decode prog_7_method_82_code 39 = .ok (.aload_n 0, 1) by decide +kernel) rfl ?_
    refine Ev_getR hq_208 (show decode prog_7_method_82_code 40 = .ok (.getfield 28, 3) by decide +kernel) rfl (SGn hS (by decide)) (SGk hS rfl) (by decide) rfl (SGr hS rfl) ?_
    refine Ev_iload_n hq_208 (show decode prog_7_method_82_code 43 = .ok (.iload_n 1, 1) by decide +kernel) rfl ?_
    obtain ⟨h2, k⟩ := k
    refine Ev_iald hq_208 (show decode prog_7_method_82_code 44 = .ok (.iaload, 1) by decide +kernel) (SGn hS (by decide)) (SGk hS rfl) (SGi hS rfl h2) ?_
    obtain ⟨h3, k⟩ := k
    refine Ev_iast hq_208 (show decode prog_7_method_82_code 45 = .ok (.iastore, 1) by decide +kernel) (SGn hS (by decide)) (SGk hS rfl) (SGi hS rfl h3) ?_
    obtain ⟨I4, eI4⟩ : ∃ I4 : zI, I4 = z_up I 60 x1.toNatClampNeg (I 64 x1.toNatClampNeg) := ⟨_, rfl⟩
    have k := k I4 eI4
    rw [← eI4]
    obtain ⟨y5, ey5⟩ : ∃ y5 : Int32, y5 = x1 + 1 := ⟨_, rfl⟩
    have k := k y5 ey5
    refine Ev_iinc (v := y5) (lo2 := [.ref 57, .int y5]) hq_208 (show decode prog_7_method_82_code 46 = .ok (.iinc 1 1, 3) by decide +kernel) rfl (by rw [ey5]; rfl) rfl ?_
    refine Ev_goto (tgt := 28) hq_208 (show decode prog_7_method_82_code 49 = .ok (.goto (-21), 3) by decide +kernel) (by decide) ?_
    exact k
set_option maxRecDepth 20000 in
theorem wp_Z_sheet {X : Nat × (Nat → Int32)} {d : Nat} {G : zG} {I : zI} {res : Option Value × zG × zI} (x1 : Int32) (x2 : Int32) (x3 : Int32) (hS : SG G) 
    (k : ((f_Z_in x1 0 3) = 0 → res = (some (.int (-2)), G, I)) ∧ (¬ (f_Z_in x1 0 3) = 0 → ((f_Z_in x2 (-1) 2) = 0 → res = (some (.int (-2)), G, I)) ∧ (¬ (f_Z_in x2 (-1) 2) = 0 → (x2 = (-1) → (x2 = (-1) → z_inr x1 4 ∧ (∀ I6 : zI, I6 = z_up I 65 x1.toNatClampNeg x2 → (¬ x2 = (-1) → z_inr x1 4 ∧ (∀ I9 : zI, I9 = z_up I6 66 x1.toNatClampNeg x3 → Ev X (d + 1) 209 70 [.ref 57, .int x1, .int x2, .int x3, .int 0] [] G I9 res)) ∧ (x2 = (-1) → z_inr x1 4 ∧ (∀ I11 : zI, I11 = z_up I6 66 x1.toNatClampNeg 0 → Ev X (d + 1) 209 70 [.ref 57, .int x1, .int x2, .int x3, .int 0] [] G I11 res)))) ∧ (¬ x2 = (-1) → (0 ≤ x3 → z_inr x1 4 ∧ (∀ I14 : zI, I14 = z_up I 65 x1.toNatClampNeg x2 → (¬ x2 = (-1) → z_inr x1 4 ∧ (∀ I17 : zI, I17 = z_up I14 66 x1.toNatClampNeg x3 → Ev X (d + 1) 209 70 [.ref 57, .int x1, .int x2, .int x3, .int 0] [] G I17 res)) ∧ (x2 = (-1) → z_inr x1 4 ∧ (∀ I19 : zI, I19 = z_up I14 66 x1.toNatClampNeg 0 → Ev X (d + 1) 209 70 [.ref 57, .int x1, .int x2, .int x3, .int 0] [] G I19 res)))) ∧ (¬ 0 ≤ x3 → res = (some (.int (-14)), G, I)))) ∧ (¬ x2 = (-1) → (x3 ≤ 40 → (x2 = (-1) → z_inr x1 4 ∧ (∀ I23 : zI, I23 = z_up I 65 x1.toNatClampNeg x2 → (¬ x2 = (-1) → z_inr x1 4 ∧ (∀ I26 : zI, I26 = z_up I23 66 x1.toNatClampNeg x3 → Ev X (d + 1) 209 70 [.ref 57, .int x1, .int x2, .int x3, .int 0] [] G I26 res)) ∧ (x2 = (-1) → z_inr x1 4 ∧ (∀ I28 : zI, I28 = z_up I23 66 x1.toNatClampNeg 0 → Ev X (d + 1) 209 70 [.ref 57, .int x1, .int x2, .int x3, .int 0] [] G I28 res)))) ∧ (¬ x2 = (-1) → (0 ≤ x3 → z_inr x1 4 ∧ (∀ I31 : zI, I31 = z_up I 65 x1.toNatClampNeg x2 → (¬ x2 = (-1) → z_inr x1 4 ∧ (∀ I34 : zI, I34 = z_up I31 66 x1.toNatClampNeg x3 → Ev X (d + 1) 209 70 [.ref 57, .int x1, .int x2, .int x3, .int 0] [] G I34 res)) ∧ (x2 = (-1) → z_inr x1 4 ∧ (∀ I36 : zI, I36 = z_up I31 66 x1.toNatClampNeg 0 → Ev X (d + 1) 209 70 [.ref 57, .int x1, .int x2, .int x3, .int 0] [] G I36 res)))) ∧ (¬ 0 ≤ x3 → res = (some (.int (-14)), G, I)))) ∧ (¬ x3 ≤ 40 → res = (some (.int (-2)), G, I)))))) :
    Ev X (d + 1) 209 0 [.ref 57, .int x1, .int x2, .int x3, zU] [] G I res := by
  refine Ev_iload_n hq_209 (show decode prog_7_method_83_code 0 = .ok (.iload_n 1, 1) by decide +kernel) rfl ?_
  refine Ev_iconst (v := 0) hq_209 (show decode prog_7_method_83_code 1 = .ok (.iconst 0, 1) by decide +kernel) (by decide) ?_
  refine Ev_iconst (v := 3) hq_209 (show decode prog_7_method_83_code 2 = .ok (.iconst 3, 1) by decide +kernel) (by decide) ?_
  refine Ev_stat (as := [.int x1, .int 0, .int 3]) hq_209 (show decode prog_7_method_83_code 3 = .ok (.invokestatic 90, 3) by decide +kernel) rfl (Or.inl rfl) hq_131 rfl (z_le rfl) (c_Z_in x1 0 3) ?_
  refine Ev_if_eq (tgt := 29) hq_209 (show decode prog_7_method_83_code 6 = .ok (.ifCond .eq 23, 3) by decide +kernel) (by decide) (fun c1 => ?_) (fun c1 => ?_)
  · have k := k.1 c1
    refine Ev_bipush (v := (-2)) hq_209 (show decode prog_7_method_83_code 29 = .ok (.bipush (-2), 2) by decide +kernel) (by decide) ?_
    exact Ev_iret hq_209 (show decode prog_7_method_83_code 31 = .ok (.ireturn, 1) by decide +kernel) rfl k
  · have k := k.2 c1
    refine Ev_iload_n hq_209 (show decode prog_7_method_83_code 9 = .ok (.iload_n 2, 1) by decide +kernel) rfl ?_
    refine Ev_iconst (v := (-1)) hq_209 (show decode prog_7_method_83_code 10 = .ok (.iconst (-1), 1) by decide +kernel) (by decide) ?_
    refine Ev_iconst (v := 2) hq_209 (show decode prog_7_method_83_code 11 = .ok (.iconst 2, 1) by decide +kernel) (by decide) ?_
    refine Ev_stat (as := [.int x2, .int (-1), .int 2]) hq_209 (show decode prog_7_method_83_code 12 = .ok (.invokestatic 90, 3) by decide +kernel) rfl (Or.inl rfl) hq_131 rfl (z_le rfl) (c_Z_in x2 (-1) 2) ?_
    refine Ev_if_eq (tgt := 29) hq_209 (show decode prog_7_method_83_code 15 = .ok (.ifCond .eq 14, 3) by decide +kernel) (by decide) (fun c2 => ?_) (fun c2 => ?_)
    · have k := k.1 c2
      refine Ev_bipush (v := (-2)) hq_209 (show decode prog_7_method_83_code 29 = .ok (.bipush (-2), 2) by decide +kernel) (by decide) ?_
      exact Ev_iret hq_209 (show decode prog_7_method_83_code 31 = .ok (.ireturn, 1) by decide +kernel) rfl k
    · have k := k.2 c2
      refine Ev_iload_n hq_209 (show decode prog_7_method_83_code 18 = .ok (.iload_n 2, 1) by decide +kernel) rfl ?_
      refine Ev_iconst (v := (-1)) hq_209 (show decode prog_7_method_83_code 19 = .ok (.iconst (-1), 1) by decide +kernel) (by decide) ?_
      refine Ev_icmp_eq (tgt := 32) hq_209 (show decode prog_7_method_83_code 20 = .ok (.if_icmp .eq 12, 3) by decide +kernel) (by decide) (fun c3 => ?_) (fun c3 => ?_)
      · have k := k.1 c3
        refine Ev_iload_n hq_209 (show decode prog_7_method_83_code 32 = .ok (.iload_n 2, 1) by decide +kernel) rfl ?_
        refine Ev_iconst (v := (-1)) hq_209 (show decode prog_7_method_83_code 33 = .ok (.iconst (-1), 1) by decide +kernel) (by decide) ?_
        refine Ev_icmp_eq (tgt := 44) hq_209 (show decode prog_7_method_83_code 34 = .ok (.if_icmp .eq 10, 3) by decide +kernel) (by decide) (fun c4 => ?_) (fun c4 => ?_)
        · have k := k.1 c4
          refine Ev_aload_n hq_209 (show decode prog_7_method_83_code 44 = .ok (.aload_n 0, 1) by decide +kernel) rfl ?_
          refine Ev_getR hq_209 (show decode prog_7_method_83_code 45 = .ok (.getfield 31, 3) by decide +kernel) rfl (SGn hS (by decide)) (SGk hS rfl) (by decide) rfl (SGr hS rfl) ?_
          refine Ev_iload_n hq_209 (show decode prog_7_method_83_code 48 = .ok (.iload_n 1, 1) by decide +kernel) rfl ?_
          refine Ev_iload_n hq_209 (show decode prog_7_method_83_code 49 = .ok (.iload_n 2, 1) by decide +kernel) rfl ?_
          obtain ⟨h5, k⟩ := k
          refine Ev_iast hq_209 (show decode prog_7_method_83_code 50 = .ok (.iastore, 1) by decide +kernel) (SGn hS (by decide)) (SGk hS rfl) (SGi hS rfl h5) ?_
          obtain ⟨I6, eI6⟩ : ∃ I6 : zI, I6 = z_up I 65 x1.toNatClampNeg x2 := ⟨_, rfl⟩
          have k := k I6 eI6
          rw [← eI6]
          refine Ev_aload_n hq_209 (show decode prog_7_method_83_code 51 = .ok (.aload_n 0, 1) by decide +kernel) rfl ?_
          refine Ev_getR hq_209 (show decode prog_7_method_83_code 52 = .ok (.getfield 34, 3) by decide +kernel) rfl (SGn hS (by decide)) (SGk hS rfl) (by decide) rfl (SGr hS rfl) ?_
          refine Ev_iload_n hq_209 (show decode prog_7_method_83_code 55 = .ok (.iload_n 1, 1) by decide +kernel) rfl ?_
          refine Ev_iload_n hq_209 (show decode prog_7_method_83_code 56 = .ok (.iload_n 2, 1) by decide +kernel) rfl ?_
          refine Ev_iconst (v := (-1)) hq_209 (show decode prog_7_method_83_code 57 = .ok (.iconst (-1), 1) by decide +kernel) (by decide) ?_
          refine Ev_icmp_ne (tgt := 65) hq_209 (show decode prog_7_method_83_code 58 = .ok (.if_icmp .ne 7, 3) by decide +kernel) (by decide) (fun c7 => ?_) (fun c7 => ?_)
          · have k := k.1 c7
            refine Ev_iload_n hq_209 (show decode prog_7_method_83_code 65 = .ok (.iload_n 3, 1) by decide +kernel) rfl ?_
            obtain ⟨h8, k⟩ := k
            refine Ev_iast hq_209 (show decode prog_7_method_83_code 66 = .ok (.iastore, 1) by decide +kernel) (SGn hS (by decide)) (SGk hS rfl) (SGi hS rfl h8) ?_
            obtain ⟨I9, eI9⟩ : ∃ I9 : zI, I9 = z_up I6 66 x1.toNatClampNeg x3 := ⟨_, rfl⟩
            have k := k I9 eI9
            rw [← eI9]
            refine Ev_iconst (v := 0) hq_209 (show decode prog_7_method_83_code 67 = .ok (.iconst 0, 1) by decide +kernel) (by decide) ?_
            refine Ev_istore (lo2 := [.ref 57, .int x1, .int x2, .int x3, .int 0]) hq_209 (show decode prog_7_method_83_code 68 = .ok (.istore 4, 2) by decide +kernel) (z_le rfl) rfl ?_
            exact k
          · have k := k.2 (Classical.not_not.mp c7)
            refine Ev_iconst (v := 0) hq_209 (show decode prog_7_method_83_code 61 = .ok (.iconst 0, 1) by decide +kernel) (by decide) ?_
            refine Ev_goto (tgt := 66) hq_209 (show decode prog_7_method_83_code 62 = .ok (.goto 4, 3) by decide +kernel) (by decide) ?_
            obtain ⟨h10, k⟩ := k
            refine Ev_iast hq_209 (show decode prog_7_method_83_code 66 = .ok (.iastore, 1) by decide +kernel) (SGn hS (by decide)) (SGk hS rfl) (SGi hS rfl h10) ?_
            obtain ⟨I11, eI11⟩ : ∃ I11 : zI, I11 = z_up I6 66 x1.toNatClampNeg 0 := ⟨_, rfl⟩
            have k := k I11 eI11
            rw [← eI11]
            refine Ev_iconst (v := 0) hq_209 (show decode prog_7_method_83_code 67 = .ok (.iconst 0, 1) by decide +kernel) (by decide) ?_
            refine Ev_istore (lo2 := [.ref 57, .int x1, .int x2, .int x3, .int 0]) hq_209 (show decode prog_7_method_83_code 68 = .ok (.istore 4, 2) by decide +kernel) (z_le rfl) rfl ?_
            exact k
        · have k := k.2 c4
          refine Ev_iload_n hq_209 (show decode prog_7_method_83_code 37 = .ok (.iload_n 3, 1) by decide +kernel) rfl ?_
          refine Ev_if_ge (tgt := 44) hq_209 (show decode prog_7_method_83_code 38 = .ok (.ifCond .ge 6, 3) by decide +kernel) (by decide) (fun c12 => ?_) (fun c12 => ?_)
          · have k := k.1 c12
            refine Ev_aload_n hq_209 (show decode prog_7_method_83_code 44 = .ok (.aload_n 0, 1) by decide +kernel) rfl ?_
            refine Ev_getR hq_209 (show decode prog_7_method_83_code 45 = .ok (.getfield 31, 3) by decide +kernel) rfl (SGn hS (by decide)) (SGk hS rfl) (by decide) rfl (SGr hS rfl) ?_
            refine Ev_iload_n hq_209 (show decode prog_7_method_83_code 48 = .ok (.iload_n 1, 1) by decide +kernel) rfl ?_
            refine Ev_iload_n hq_209 (show decode prog_7_method_83_code 49 = .ok (.iload_n 2, 1) by decide +kernel) rfl ?_
            obtain ⟨h13, k⟩ := k
            refine Ev_iast hq_209 (show decode prog_7_method_83_code 50 = .ok (.iastore, 1) by decide +kernel) (SGn hS (by decide)) (SGk hS rfl) (SGi hS rfl h13) ?_
            obtain ⟨I14, eI14⟩ : ∃ I14 : zI, I14 = z_up I 65 x1.toNatClampNeg x2 := ⟨_, rfl⟩
            have k := k I14 eI14
            rw [← eI14]
            refine Ev_aload_n hq_209 (show decode prog_7_method_83_code 51 = .ok (.aload_n 0, 1) by decide +kernel) rfl ?_
            refine Ev_getR hq_209 (show decode prog_7_method_83_code 52 = .ok (.getfield 34, 3) by decide +kernel) rfl (SGn hS (by decide)) (SGk hS rfl) (by decide) rfl (SGr hS rfl) ?_
            refine Ev_iload_n hq_209 (show decode prog_7_method_83_code 55 = .ok (.iload_n 1, 1) by decide +kernel) rfl ?_
            refine Ev_iload_n hq_209 (show decode prog_7_method_83_code 56 = .ok (.iload_n 2, 1) by decide +kernel) rfl ?_
            refine Ev_iconst (v := (-1)) hq_209 (show decode prog_7_method_83_code 57 = .ok (.iconst (-1), 1) by decide +kernel) (by decide) ?_
            refine Ev_icmp_ne (tgt := 65) hq_209 (show decode prog_7_method_83_code 58 = .ok (.if_icmp .ne 7, 3) by decide +kernel) (by decide) (fun c15 => ?_) (fun c15 => ?_)
            · have k := k.1 c15
              refine Ev_iload_n hq_209 (show decode prog_7_method_83_code 65 = .ok (.iload_n 3, 1) by decide +kernel) rfl ?_
              obtain ⟨h16, k⟩ := k
              refine Ev_iast hq_209 (show decode prog_7_method_83_code 66 = .ok (.iastore, 1) by decide +kernel) (SGn hS (by decide)) (SGk hS rfl) (SGi hS rfl h16) ?_
              obtain ⟨I17, eI17⟩ : ∃ I17 : zI, I17 = z_up I14 66 x1.toNatClampNeg x3 := ⟨_, rfl⟩
              have k := k I17 eI17
              rw [← eI17]
              refine Ev_iconst (v := 0) hq_209 (show decode prog_7_method_83_code 67 = .ok (.iconst 0, 1) by decide +kernel) (by decide) ?_
              refine Ev_istore (lo2 := [.ref 57, .int x1, .int x2, .int x3, .int 0]) hq_209 (show decode prog_7_method_83_code 68 = .ok (.istore 4, 2) by decide +kernel) (z_le rfl) rfl ?_
              exact k
            · have k := k.2 (Classical.not_not.mp c15)
              refine Ev_iconst (v := 0) hq_209 (show decode prog_7_method_83_code 61 = .ok (.iconst 0, 1) by decide +kernel) (by decide) ?_
              refine Ev_goto (tgt := 66) hq_209 (show decode prog_7_method_83_code 62 = .ok (.goto 4, 3) by decide +kernel) (by decide) ?_
              obtain ⟨h18, k⟩ := k
              refine Ev_iast hq_209 (show decode prog_7_method_83_code 66 = .ok (.iastore, 1) by decide +kernel) (SGn hS (by decide)) (SGk hS rfl) (SGi hS rfl h18) ?_
              obtain ⟨I19, eI19⟩ : ∃ I19 : zI, I19 = z_up I14 66 x1.toNatClampNeg 0 := ⟨_, rfl⟩
              have k := k I19 eI19
              rw [← eI19]
              refine Ev_iconst (v := 0) hq_209 (show decode prog_7_method_83_code 67 = .ok (.iconst 0, 1) by decide +kernel) (by decide) ?_
              refine Ev_istore (lo2 := [.ref 57, .int x1, .int x2, .int x3, .int 0]) hq_209 (show decode prog_7_method_83_code 68 = .ok (.istore 4, 2) by decide +kernel) (z_le rfl) rfl ?_
              exact k
          · have k := k.2 c12
            refine Ev_bipush (v := (-14)) hq_209 (show decode prog_7_method_83_code 41 = .ok (.bipush (-14), 2) by decide +kernel) (by decide) ?_
            exact Ev_iret hq_209 (show decode prog_7_method_83_code 43 = .ok (.ireturn, 1) by decide +kernel) rfl k
      · have k := k.2 c3
        refine Ev_iload_n hq_209 (show decode prog_7_method_83_code 23 = .ok (.iload_n 3, 1) by decide +kernel) rfl ?_
        refine Ev_bipush (v := 40) hq_209 (show decode prog_7_method_83_code 24 = .ok (.bipush 40, 2) by decide +kernel) (by decide) ?_
        refine Ev_icmp_le (tgt := 32) hq_209 (show decode prog_7_method_83_code 26 = .ok (.if_icmp .le 6, 3) by decide +kernel) (by decide) (fun c20 => ?_) (fun c20 => ?_)
        · have k := k.1 c20
          refine Ev_iload_n hq_209 (show decode prog_7_method_83_code 32 = .ok (.iload_n 2, 1) by decide +kernel) rfl ?_
          refine Ev_iconst (v := (-1)) hq_209 (show decode prog_7_method_83_code 33 = .ok (.iconst (-1), 1) by decide +kernel) (by decide) ?_
          refine Ev_icmp_eq (tgt := 44) hq_209 (show decode prog_7_method_83_code 34 = .ok (.if_icmp .eq 10, 3) by decide +kernel) (by decide) (fun c21 => ?_) (fun c21 => ?_)
          · have k := k.1 c21
            refine Ev_aload_n hq_209 (show decode prog_7_method_83_code 44 = .ok (.aload_n 0, 1) by decide +kernel) rfl ?_
            refine Ev_getR hq_209 (show decode prog_7_method_83_code 45 = .ok (.getfield 31, 3) by decide +kernel) rfl (SGn hS (by decide)) (SGk hS rfl) (by decide) rfl (SGr hS rfl) ?_
            refine Ev_iload_n hq_209 (show decode prog_7_method_83_code 48 = .ok (.iload_n 1, 1) by decide +kernel) rfl ?_
            refine Ev_iload_n hq_209 (show decode prog_7_method_83_code 49 = .ok (.iload_n 2, 1) by decide +kernel) rfl ?_
            obtain ⟨h22, k⟩ := k
            refine Ev_iast hq_209 (show decode prog_7_method_83_code 50 = .ok (.iastore, 1) by decide +kernel) (SGn hS (by decide)) (SGk hS rfl) (SGi hS rfl h22) ?_
            obtain ⟨I23, eI23⟩ : ∃ I23 : zI, I23 = z_up I 65 x1.toNatClampNeg x2 := ⟨_, rfl⟩
            have k := k I23 eI23
            rw [← eI23]
            refine Ev_aload_n hq_209 (show decode prog_7_method_83_code 51 = .ok (.aload_n 0, 1) by decide +kernel) rfl ?_
            refine Ev_getR hq_209 (show decode prog_7_method_83_code 52 = .ok (.getfield 34, 3) by decide +kernel) rfl (SGn hS (by decide)) (SGk hS rfl) (by decide) rfl (SGr hS rfl) ?_
            refine Ev_iload_n hq_209 (show decode prog_7_method_83_code 55 = .ok (.iload_n 1, 1) by decide +kernel) rfl ?_
            refine Ev_iload_n hq_209 (show decode prog_7_method_83_code 56 = .ok (.iload_n 2, 1) by decide +kernel) rfl ?_
            refine Ev_iconst (v := (-1)) hq_209 (show decode prog_7_method_83_code 57 = .ok (.iconst (-1), 1) by decide +kernel) (by decide) ?_
            refine Ev_icmp_ne (tgt := 65) hq_209 (show decode prog_7_method_83_code 58 = .ok (.if_icmp .ne 7, 3) by decide +kernel) (by decide) (fun c24 => ?_) (fun c24 => ?_)
            · have k := k.1 c24
              refine Ev_iload_n hq_209 (show decode prog_7_method_83_code 65 = .ok (.iload_n 3, 1) by decide +kernel) rfl ?_
              obtain ⟨h25, k⟩ := k
              refine Ev_iast hq_209 (show decode prog_7_method_83_code 66 = .ok (.iastore, 1) by decide +kernel) (SGn hS (by decide)) (SGk hS rfl) (SGi hS rfl h25) ?_
              obtain ⟨I26, eI26⟩ : ∃ I26 : zI, I26 = z_up I23 66 x1.toNatClampNeg x3 := ⟨_, rfl⟩
              have k := k I26 eI26
              rw [← eI26]
              refine Ev_iconst (v := 0) hq_209 (show decode prog_7_method_83_code 67 = .ok (.iconst 0, 1) by decide +kernel) (by decide) ?_
              refine Ev_istore (lo2 := [.ref 57, .int x1, .int x2, .int x3, .int 0]) hq_209 (show decode prog_7_method_83_code 68 = .ok (.istore 4, 2) by decide +kernel) (z_le rfl) rfl ?_
              exact k
            · have k := k.2 (Classical.not_not.mp c24)
              refine Ev_iconst (v := 0) hq_209 (show decode prog_7_method_83_code 61 = .ok (.iconst 0, 1) by decide +kernel) (by decide) ?_
              refine Ev_goto (tgt := 66) hq_209 (show decode prog_7_method_83_code 62 = .ok (.goto 4, 3) by decide +kernel) (by decide) ?_
              obtain ⟨h27, k⟩ := k
              refine Ev_iast hq_209 (show decode prog_7_method_83_code 66 = .ok (.iastore, 1) by decide +kernel) (SGn hS (by decide)) (SGk hS rfl) (SGi hS rfl h27) ?_
              obtain ⟨I28, eI28⟩ : ∃ I28 : zI, I28 = z_up I23 66 x1.toNatClampNeg 0 := ⟨_, rfl⟩
              have k := k I28 eI28
              rw [← eI28]
              refine Ev_iconst (v := 0) hq_209 (show decode prog_7_method_83_code 67 = .ok (.iconst 0, 1) by decide +kernel) (by decide) ?_
              refine Ev_istore (lo2 := [.ref 57, .int x1, .int x2, .int x3, .int 0]) hq_209 (show decode prog_7_method_83_code 68 = .ok (.istore 4, 2) by decide +kernel) (z_le rfl) rfl ?_
              exact k
          · have k := k.2 c21
            refine Ev_iload_n hq_209 (show decode prog_7_method_83_code 37 = .ok (.iload_n 3, 1) by decide +kernel) rfl ?_
            refine Ev_if_ge (tgt := 44) hq_209 (show decode prog_7_method_83_code 38 = .ok (.ifCond .ge 6, 3) by decide +kernel) (by decide) (fun c29 => ?_) (fun c29 => ?_)
            · have k := k.1 c29
              refine Ev_aload_n hq_209 (show decode prog_7_method_83_code 44 = .ok (.aload_n 0, 1) by decide +kernel) rfl ?_
              refine Ev_getR hq_209 (show decode prog_7_method_83_code 45 = .ok (.getfield 31, 3) by decide +kernel) rfl (SGn hS (by decide)) (SGk hS rfl) (by decide) rfl (SGr hS rfl) ?_
              refine Ev_iload_n hq_209 (show decode prog_7_method_83_code 48 = .ok (.iload_n 1, 1) by decide +kernel) rfl ?_
              refine Ev_iload_n hq_209 (show decode prog_7_method_83_code 49 = .ok (.iload_n 2, 1) by decide +kernel) rfl ?_
              obtain ⟨h30, k⟩ := k
              refine Ev_iast hq_209 (show decode prog_7_method_83_code 50 = .ok (.iastore, 1) by decide +kernel) (SGn hS (by decide)) (SGk hS rfl) (SGi hS rfl h30) ?_
              obtain ⟨I31, eI31⟩ : ∃ I31 : zI, I31 = z_up I 65 x1.toNatClampNeg x2 := ⟨_, rfl⟩
              have k := k I31 eI31
              rw [← eI31]
              refine Ev_aload_n hq_209 (show decode prog_7_method_83_code 51 = .ok (.aload_n 0, 1) by decide +kernel) rfl ?_
              refine Ev_getR hq_209 (show decode prog_7_method_83_code 52 = .ok (.getfield 34, 3) by decide +kernel) rfl (SGn hS (by decide)) (SGk hS rfl) (by decide) rfl (SGr hS rfl) ?_
              refine Ev_iload_n hq_209 (show decode prog_7_method_83_code 55 = .ok (.iload_n 1, 1) by decide +kernel) rfl ?_
              refine Ev_iload_n hq_209 (show decode prog_7_method_83_code 56 = .ok (.iload_n 2, 1) by decide +kernel) rfl ?_
              refine Ev_iconst (v := (-1)) hq_209 (show decode prog_7_method_83_code 57 = .ok (.iconst (-1), 1) by decide +kernel) (by decide) ?_
              refine Ev_icmp_ne (tgt := 65) hq_209 (show decode prog_7_method_83_code 58 = .ok (.if_icmp .ne 7, 3) by decide +kernel) (by decide) (fun c32 => ?_) (fun c32 => ?_)
              · have k := k.1 c32
                refine Ev_iload_n hq_209 (show decode prog_7_method_83_code 65 = .ok (.iload_n 3, 1) by decide +kernel) rfl ?_
                obtain ⟨h33, k⟩ := k
                refine Ev_iast hq_209 (show decode prog_7_method_83_code 66 = .ok (.iastore, 1) by decide +kernel) (SGn hS (by decide)) (SGk hS rfl) (SGi hS rfl h33) ?_
                obtain ⟨I34, eI34⟩ : ∃ I34 : zI, I34 = z_up I31 66 x1.toNatClampNeg x3 := ⟨_, rfl⟩
                have k := k I34 eI34
                rw [← eI34]
                refine Ev_iconst (v := 0) hq_209 (show decode prog_7_method_83_code 67 = .ok (.iconst 0, 1) by decide +kernel) (by decide) ?_
                refine Ev_istore (lo2 := [.ref 57, .int x1, .int x2, .int x3, .int 0]) hq_209 (show decode prog_7_method_83_code 68 = .ok (.istore 4, 2) by decide +kernel) (z_le rfl) rfl ?_
                exact k
              · have k := k.2 (Classical.not_not.mp c32)
                refine Ev_iconst (v := 0) hq_209 (show decode prog_7_method_83_code 61 = .ok (.iconst 0, 1) by decide +kernel) (by decide) ?_
                refine Ev_goto (tgt := 66) hq_209 (show decode prog_7_method_83_code 62 = .ok (.goto 4, 3) by decide +kernel) (by decide) ?_
                obtain ⟨h35, k⟩ := k
                refine Ev_iast hq_209 (show decode prog_7_method_83_code 66 = .ok (.iastore, 1) by decide +kernel) (SGn hS (by decide)) (SGk hS rfl) (SGi hS rfl h35) ?_
                obtain ⟨I36, eI36⟩ : ∃ I36 : zI, I36 = z_up I31 66 x1.toNatClampNeg 0 := ⟨_, rfl⟩
                have k := k I36 eI36
                rw [← eI36]
                refine Ev_iconst (v := 0) hq_209 (show decode prog_7_method_83_code 67 = .ok (.iconst 0, 1) by decide +kernel) (by decide) ?_
                refine Ev_istore (lo2 := [.ref 57, .int x1, .int x2, .int x3, .int 0]) hq_209 (show decode prog_7_method_83_code 68 = .ok (.istore 4, 2) by decide +kernel) (z_le rfl) rfl ?_
                exact k
            · have k := k.2 c29
              refine Ev_bipush (v := (-14)) hq_209 (show decode prog_7_method_83_code 41 = .ok (.bipush (-14), 2) by decide +kernel) (by decide) ?_
              exact Ev_iret hq_209 (show decode prog_7_method_83_code 43 = .ok (.ireturn, 1) by decide +kernel) rfl k
        · have k := k.2 c20
          refine Ev_bipush (v := (-2)) hq_209 (show decode prog_7_method_83_code 29 = .ok (.bipush (-2), 2) by decide +kernel) (by decide) ?_
          exact Ev_iret hq_209 (show decode prog_7_method_83_code 31 = .ok (.ireturn, 1) by decide +kernel) rfl k
set_option maxRecDepth 20000 in
theorem wp_Z_sheet_70 {X : Nat × (Nat → Int32)} {d : Nat} {G : zG} {I : zI} {res : Option Value × zG × zI} (x1 : Int32) (x2 : Int32) (x3 : Int32) (x4 : Int32) (hS : SG G) 
    (k : (40 ≤ x4 → res = (some (.int 1), G, I)) ∧ (¬ 40 ≤ x4 → z_inr ((40 * x1) + x4) 160 ∧ (∀ I3 : zI, I3 = z_up I 67 ((40 * x1) + x4).toNatClampNeg 0 → ∀ y4 : Int32, y4 = x4 + 1 → Ev X d 209 70 [.ref 57, .int x1, .int x2, .int x3, .int y4] [] G I3 res))) :
    Ev X d 209 70 [.ref 57, .int x1, .int x2, .int x3, .int x4] [] G I res := by
  refine Ev_iload hq_209 (show decode prog_7_method_83_code 70 = .ok (.iload 4, 2) by decide +kernel) rfl ?_
  refine Ev_bipush (v := 40) hq_209 (show decode prog_7_method_83_code 72 = .ok (.bipush 40, 2) by decide +kernel) (by decide) ?_
  refine Ev_icmp_ge (tgt := 96) hq_209 (show decode prog_7_method_83_code 74 = .ok (.if_icmp .ge 22, 3) by decide +kernel) (by decide) (fun c1 => ?_) (fun c1 => ?_)
  · have k := k.1 c1
    refine Ev_iconst (v := 1) hq_209 (show decode prog_7_method_83_code 96 = .ok (.iconst 1, 1) by decide +kernel) (by decide) ?_
    exact Ev_iret hq_209 (show decode prog_7_method_83_code 97 = .ok (.ireturn, 1) by decide +kernel) rfl k
  · have k := k.2 c1
    refine Ev_aload_n hq_209 (show decode prog_7_method_83_code 77 = .ok (.aload_n 0, 1) by decide +kernel) rfl ?_
    refine Ev_getR hq_209 (show decode prog_7_method_83_code 78 = .ok (.getfield 37, 3) by decide +kernel) rfl (SGn hS (by decide)) (SGk hS rfl) (by decide) rfl (SGr hS rfl) ?_
    refine Ev_bipush (v := 40) hq_209 (show decode prog_7_method_83_code 81 = .ok (.bipush 40, 2) by decide +kernel) (by decide) ?_
    refine Ev_iload_n hq_209 (show decode prog_7_method_83_code 83 = .ok (.iload_n 1, 1) by decide +kernel) rfl ?_
    refine Ev_imul hq_209 (show decode prog_7_method_83_code 84 = .ok (.imul, 1) by decide +kernel) ?_
    refine Ev_iload hq_209 (show decode prog_7_method_83_code 85 = .ok (.iload 4, 2) by decide +kernel) rfl ?_
    refine Ev_iadd hq_209 (show decode prog_7_method_83_code 87 = .ok (.iadd, 1) by decide +kernel) ?_
    refine Ev_iconst (v := 0) hq_209 (show decode prog_7_method_83_code 88 = .ok (.iconst 0, 1) by decide +kernel) (by decide) ?_
    obtain ⟨h2, k⟩ := k
    refine Ev_iast hq_209 (show decode prog_7_method_83_code 89 = .ok (.iastore, 1) by decide +kernel) (SGn hS (by decide)) (SGk hS rfl) (SGi hS rfl h2) ?_
    obtain ⟨I3, eI3⟩ : ∃ I3 : zI, I3 = z_up I 67 ((40 * x1) + x4).toNatClampNeg 0 := ⟨_, rfl⟩
    have k := k I3 eI3
    rw [← eI3]
    obtain ⟨y4, ey4⟩ : ∃ y4 : Int32, y4 = x4 + 1 := ⟨_, rfl⟩
    have k := k y4 ey4
    refine Ev_iinc (v := y4) (lo2 := [.ref 57, .int x1, .int x2, .int x3, .int y4]) hq_209 (show decode prog_7_method_83_code 90 = .ok (.iinc 4 1, 3) by decide +kernel) rfl (by rw [ey4]; rfl) rfl ?_
    refine Ev_goto (tgt := 70) hq_209 (show decode prog_7_method_83_code 93 = .ok (.goto (-23), 3) by decide +kernel) (by decide) ?_
    exact k
