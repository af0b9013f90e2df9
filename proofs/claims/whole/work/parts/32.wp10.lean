set_option maxRecDepth 20000 in
theorem wp_Z_heard {X : Nat × (Nat → Int32)} {d : Nat} {G : zG} {I : zI} {res : Option Value × zG × zI} (x1 : Int32) (x2 : Int32) (hS : SG G) 
    (k : ∃ (r3 : Int32) (I1 : zI), Cv X d 192 [.ref 57, .int x1, .int x2] G I (some (.int r3), G, I1) ∧ ((r3 = 0 → Ev X (d + 1) 201 19 [.ref 57, .int x1, .int x2, .int r3, .int 0, .int 0, zU, zU] [] G I1 res) ∧ (¬ r3 = 0 → res = (some (.int r3), G, I1)))) :
    Ev X (d + 1) 201 0 [.ref 57, .int x1, .int x2, zU, zU, zU, zU, zU] [] G I res := by
  refine Ev_aload_n hq_201 (show decode prog_7_method_75_code 0 = .ok (.aload_n 0, 1) by decide +kernel) rfl ?_
  refine Ev_iload_n hq_201 (show decode prog_7_method_75_code 1 = .ok (.iload_n 1, 1) by decide +kernel) rfl ?_
  refine Ev_iload_n hq_201 (show decode prog_7_method_75_code 2 = .ok (.iload_n 2, 1) by decide +kernel) rfl ?_
  obtain ⟨r3, I1, h2, k⟩ := k
  refine Ev_virt (as := [.int x1, .int x2]) hq_201 (show decode prog_7_method_75_code 3 = .ok (.invokevirtual 257, 3) by decide +kernel) rfl hq_192 rfl (z_le rfl) ⟨(SGn hS (by decide)), (SGk hS rfl), by decide⟩ h2 ?_
  refine Ev_istore_n (lo2 := [.ref 57, .int x1, .int x2, .int r3, zU, zU, zU, zU]) hq_201 (show decode prog_7_method_75_code 6 = .ok (.istore_n 3, 1) by decide +kernel) (z_le rfl) rfl ?_
  refine Ev_iload_n hq_201 (show decode prog_7_method_75_code 7 = .ok (.iload_n 3, 1) by decide +kernel) rfl ?_
  refine Ev_if_eq (tgt := 13) hq_201 (show decode prog_7_method_75_code 8 = .ok (.ifCond .eq 5, 3) by decide +kernel) (by decide) (fun c4 => ?_) (fun c4 => ?_)
  · have k := k.1 c4
    refine Ev_iconst (v := 0) hq_201 (show decode prog_7_method_75_code 13 = .ok (.iconst 0, 1) by decide +kernel) (by decide) ?_
    refine Ev_istore (lo2 := [.ref 57, .int x1, .int x2, .int r3, .int 0, zU, zU, zU]) hq_201 (show decode prog_7_method_75_code 14 = .ok (.istore 4, 2) by decide +kernel) (z_le rfl) rfl ?_
    refine Ev_iconst (v := 0) hq_201 (show decode prog_7_method_75_code 16 = .ok (.iconst 0, 1) by decide +kernel) (by decide) ?_
    refine Ev_istore (lo2 := [.ref 57, .int x1, .int x2, .int r3, .int 0, .int 0, zU, zU]) hq_201 (show decode prog_7_method_75_code 17 = .ok (.istore 5, 2) by decide +kernel) (z_le rfl) rfl ?_
    exact k
  · have k := k.2 c4
    refine Ev_iload_n hq_201 (show decode prog_7_method_75_code 11 = .ok (.iload_n 3, 1) by decide +kernel) rfl ?_
    exact Ev_iret hq_201 (show decode prog_7_method_75_code 12 = .ok (.ireturn, 1) by decide +kernel) rfl k
set_option maxRecDepth 20000 in
theorem wp_Z_heard_19 {X : Nat × (Nat → Int32)} {d : Nat} {G : zG} {I : zI} {res : Option Value × zG × zI} (x1 : Int32) (x2 : Int32) (x3 : Int32) (x4 : Int32) (x5 : Int32) (v6 : Value) (cv6 : v6.category = 1) (hS : SG G) 
    (k : z_inr x1 4 ∧ (((I 66 x1.toNatClampNeg) ≤ x5 → z_inr (5 * x2) 20 ∧ (∀ y4 : Int32, y4 = (I 60 (5 * x2).toNatClampNeg) → Ev X (d + 1) 201 90 [.ref 57, .int x1, .int x2, .int x3, .int x4, .int y4, .int 0, .int 0] [] G I res)) ∧ (¬ (I 66 x1.toNatClampNeg) ≤ x5 → z_inr ((40 * x1) + x5) 160 ∧ (∀ y6 : Int32, y6 = (I 67 ((40 * x1) + x5).toNatClampNeg) → ∃ (r9 : Int32) (I7 : zI), Cv X d 131 [.int y6, .int 0, .int 29] G I (some (.int r9), G, I7) ∧ ((r9 = 0 → ∀ y11 : Int32, y11 = (x4 ||| 0) → ∀ y12 : Int32, y12 = x5 + 1 → Ev X (d + 1) 201 19 [.ref 57, .int x1, .int x2, .int x3, .int y11, .int y12, .int y6, zU] [] G I7 res) ∧ (¬ r9 = 0 → ∀ y13 : Int32, y13 = (x4 ||| (1 <<< (y6 &&& 31))) → ∀ y14 : Int32, y14 = x5 + 1 → Ev X (d + 1) 201 19 [.ref 57, .int x1, .int x2, .int x3, .int y13, .int y14, .int y6, zU] [] G I7 res)))))) :
    Ev X (d + 1) 201 19 [.ref 57, .int x1, .int x2, .int x3, .int x4, .int x5, v6, zU] [] G I res := by
  refine Ev_iload hq_201 (show decode prog_7_method_75_code 19 = .ok (.iload 5, 2) by decide +kernel) rfl ?_
  refine Ev_aload_n hq_201 (show decode prog_7_method_75_code 21 = .ok (.aload_n 0, 1) by decide +kernel) rfl ?_
  refine Ev_getR hq_201 (show decode prog_7_method_75_code 22 = .ok (.getfield 34, 3) by decide +kernel) rfl (SGn hS (by decide)) (SGk hS rfl) (by decide) rfl (SGr hS rfl) ?_
  refine Ev_iload_n hq_201 (show decode prog_7_method_75_code 25 = .ok (.iload_n 1, 1) by decide +kernel) rfl ?_
  obtain ⟨h1, k⟩ := k
  refine Ev_iald hq_201 (show decode prog_7_method_75_code 26 = .ok (.iaload, 1) by decide +kernel) (SGn hS (by decide)) (SGk hS rfl) (SGi hS rfl h1) ?_
  refine Ev_icmp_ge (tgt := 74) hq_201 (show decode prog_7_method_75_code 27 = .ok (.if_icmp .ge 47, 3) by decide +kernel) (by decide) (fun c2 => ?_) (fun c2 => ?_)
  · have k := k.1 c2
    refine Ev_aload_n hq_201 (show decode prog_7_method_75_code 74 = .ok (.aload_n 0, 1) by decide +kernel) rfl ?_
    refine Ev_getR hq_201 (show decode prog_7_method_75_code 75 = .ok (.getfield 16, 3) by decide +kernel) rfl (SGn hS (by decide)) (SGk hS rfl) (by decide) rfl (SGr hS rfl) ?_
    refine Ev_iconst (v := 5) hq_201 (show decode prog_7_method_75_code 78 = .ok (.iconst 5, 1) by decide +kernel) (by decide) ?_
    refine Ev_iload_n hq_201 (show decode prog_7_method_75_code 79 = .ok (.iload_n 2, 1) by decide +kernel) rfl ?_
    refine Ev_imul hq_201 (show decode prog_7_method_75_code 80 = .ok (.imul, 1) by decide +kernel) ?_
    obtain ⟨h3, k⟩ := k
    refine Ev_iald hq_201 (show decode prog_7_method_75_code 81 = .ok (.iaload, 1) by decide +kernel) (SGn hS (by decide)) (SGk hS rfl) (SGi hS rfl h3) ?_
    obtain ⟨y4, ey4⟩ : ∃ y4 : Int32, y4 = (I 60 (5 * x2).toNatClampNeg) := ⟨_, rfl⟩
    have k := k y4 ey4
    rw [← ey4]
    refine Ev_istore (lo2 := [.ref 57, .int x1, .int x2, .int x3, .int x4, .int y4, v6, zU]) hq_201 (show decode prog_7_method_75_code 82 = .ok (.istore 5, 2) by decide +kernel) (z_le rfl) rfl ?_
    refine Ev_iconst (v := 0) hq_201 (show decode prog_7_method_75_code 84 = .ok (.iconst 0, 1) by decide +kernel) (by decide) ?_
    refine Ev_istore (lo2 := [.ref 57, .int x1, .int x2, .int x3, .int x4, .int y4, .int 0, zU]) hq_201 (show decode prog_7_method_75_code 85 = .ok (.istore 6, 2) by decide +kernel) (z_le rfl) rfl ?_
    refine Ev_iconst (v := 0) hq_201 (show decode prog_7_method_75_code 87 = .ok (.iconst 0, 1) by decide +kernel) (by decide) ?_
    refine Ev_istore (lo2 := [.ref 57, .int x1, .int x2, .int x3, .int x4, .int y4, .int 0, .int 0]) hq_201 (show decode prog_7_method_75_code 88 = .ok (.istore 7, 2) by decide +kernel) (z_le rfl) rfl ?_
    exact k
  · have k := k.2 c2
    refine Ev_aload_n hq_201 (show decode prog_7_method_75_code 30 = .ok (.aload_n 0, 1) by decide +kernel) rfl ?_
    refine Ev_getR hq_201 (show decode prog_7_method_75_code 31 = .ok (.getfield 37, 3) by decide +kernel) rfl (SGn hS (by decide)) (SGk hS rfl) (by decide) rfl (SGr hS rfl) ?_
    refine Ev_bipush (v := 40) hq_201 (show decode prog_7_method_75_code 34 = .ok (.bipush 40, 2) by decide +kernel) (by decide) ?_
    refine Ev_iload_n hq_201 (show decode prog_7_method_75_code 36 = .ok (.iload_n 1, 1) by decide +kernel) rfl ?_
    refine Ev_imul hq_201 (show decode prog_7_method_75_code 37 = .ok (.imul, 1) by decide +kernel) ?_
    refine Ev_iload hq_201 (show decode prog_7_method_75_code 38 = .ok (.iload 5, 2) by decide +kernel) rfl ?_
    refine Ev_iadd hq_201 (show decode prog_7_method_75_code 40 = .ok (.iadd, 1) by decide +kernel) ?_
    obtain ⟨h5, k⟩ := k
    refine Ev_iald hq_201 (show decode prog_7_method_75_code 41 = .ok (.iaload, 1) by decide +kernel) (SGn hS (by decide)) (SGk hS rfl) (SGi hS rfl h5) ?_
    obtain ⟨y6, ey6⟩ : ∃ y6 : Int32, y6 = (I 67 ((40 * x1) + x5).toNatClampNeg) := ⟨_, rfl⟩
    have k := k y6 ey6
    rw [← ey6]
    refine Ev_istore (lo2 := [.ref 57, .int x1, .int x2, .int x3, .int x4, .int x5, .int y6, zU]) hq_201 (show decode prog_7_method_75_code 42 = .ok (.istore 6, 2) by decide +kernel) (z_le rfl) rfl ?_
    refine Ev_iload hq_201 (show decode prog_7_method_75_code 44 = .ok (.iload 4, 2) by decide +kernel) rfl ?_
    refine Ev_iload hq_201 (show decode prog_7_method_75_code 46 = .ok (.iload 6, 2) by decide +kernel) rfl ?_
    refine Ev_iconst (v := 0) hq_201 (show decode prog_7_method_75_code 48 = .ok (.iconst 0, 1) by decide +kernel) (by decide) ?_
    refine Ev_bipush (v := 29) hq_201 (show decode prog_7_method_75_code 49 = .ok (.bipush 29, 2) by decide +kernel) (by decide) ?_
    obtain ⟨r9, I7, h8, k⟩ := k
    refine Ev_stat (as := [.int y6, .int 0, .int 29]) hq_201 (show decode prog_7_method_75_code 51 = .ok (.invokestatic 90, 3) by decide +kernel) rfl (Or.inl rfl) hq_131 rfl (z_le rfl) h8 ?_
    refine Ev_if_eq (tgt := 64) hq_201 (show decode prog_7_method_75_code 54 = .ok (.ifCond .eq 10, 3) by decide +kernel) (by decide) (fun c10 => ?_) (fun c10 => ?_)
    · have k := k.1 c10
      refine Ev_iconst (v := 0) hq_201 (show decode prog_7_method_75_code 64 = .ok (.iconst 0, 1) by decide +kernel) (by decide) ?_
      refine Ev_ior hq_201 (show decode prog_7_method_75_code 65 = .ok (.ior, 1) by decide +kernel) ?_
      obtain ⟨y11, ey11⟩ : ∃ y11 : Int32, y11 = (x4 ||| 0) := ⟨_, rfl⟩
      have k := k y11 ey11
      rw [← ey11]
      refine Ev_istore (lo2 := [.ref 57, .int x1, .int x2, .int x3, .int y11, .int x5, .int y6, zU]) hq_201 (show decode prog_7_method_75_code 66 = .ok (.istore 4, 2) by decide +kernel) (z_le rfl) rfl ?_
      obtain ⟨y12, ey12⟩ : ∃ y12 : Int32, y12 = x5 + 1 := ⟨_, rfl⟩
      have k := k y12 ey12
      refine Ev_iinc (v := y12) (lo2 := [.ref 57, .int x1, .int x2, .int x3, .int y11, .int y12, .int y6, zU]) hq_201 (show decode prog_7_method_75_code 68 = .ok (.iinc 5 1, 3) by decide +kernel) rfl (by rw [ey12]; rfl) rfl ?_
      refine Ev_goto (tgt := 19) hq_201 (show decode prog_7_method_75_code 71 = .ok (.goto (-52), 3) by decide +kernel) (by decide) ?_
      exact k
    · have k := k.2 c10
      refine Ev_iconst (v := 1) hq_201 (show decode prog_7_method_75_code 57 = .ok (.iconst 1, 1) by decide +kernel) (by decide) ?_
      refine Ev_iload hq_201 (show decode prog_7_method_75_code 58 = .ok (.iload 6, 2) by decide +kernel) rfl ?_
      refine Ev_ishl hq_201 (show decode prog_7_method_75_code 60 = .ok (.ishl, 1) by decide +kernel) ?_
      refine Ev_goto (tgt := 65) hq_201 (show decode prog_7_method_75_code 61 = .ok (.goto 4, 3) by decide +kernel) (by decide) ?_
      refine Ev_ior hq_201 (show decode prog_7_method_75_code 65 = .ok (.ior, 1) by decide +kernel) ?_
      obtain ⟨y13, ey13⟩ : ∃ y13 : Int32, y13 = (x4 ||| (1 <<< (y6 &&& 31))) := ⟨_, rfl⟩
      have k := k y13 ey13
      rw [← ey13]
      refine Ev_istore (lo2 := [.ref 57, .int x1, .int x2, .int x3, .int y13, .int x5, .int y6, zU]) hq_201 (show decode prog_7_method_75_code 66 = .ok (.istore 4, 2) by decide +kernel) (z_le rfl) rfl ?_
      obtain ⟨y14, ey14⟩ : ∃ y14 : Int32, y14 = x5 + 1 := ⟨_, rfl⟩
      have k := k y14 ey14
      refine Ev_iinc (v := y14) (lo2 := [.ref 57, .int x1, .int x2, .int x3, .int y13, .int y14, .int y6, zU]) hq_201 (show decode prog_7_method_75_code 68 = .ok (.iinc 5 1, 3) by decide +kernel) rfl (by rw [ey14]; rfl) rfl ?_
      refine Ev_goto (tgt := 19) hq_201 (show decode prog_7_method_75_code 71 = .ok (.goto (-52), 3) by decide +kernel) (by decide) ?_
      exact k
set_option maxRecDepth 20000 in
theorem wp_Z_heard_90 {X : Nat × (Nat → Int32)} {d : Nat} {G : zG} {I : zI} {res : Option Value × zG × zI} (x1 : Int32) (x2 : Int32) (x3 : Int32) (x4 : Int32) (x5 : Int32) (x6 : Int32) (x7 : Int32) (hS : SG G) 
    (k : (4 < x7 → z_inr (5 * x2) 20 ∧ (∀ I3 : zI, I3 = z_up I 60 (5 * x2).toNatClampNeg x5 → res = (some (.int x6), G, I3))) ∧ (¬ 4 < x7 → z_inr (5 * x2) 20 ∧ (∀ I5 : zI, I5 = z_up I 60 (5 * x2).toNatClampNeg x7 → ∃ (I6 : zI), Cv X d 159 [.ref 57, .int 30] G I5 (none, G, I6) ∧ (z_inr x2 4 ∧ ((¬ (I6 76 x2.toNatClampNeg) = x4 → ∀ y10 : Int32, y10 = (x6 ||| 0) → ∀ y11 : Int32, y11 = x7 + 1 → Ev X (d + 1) 201 90 [.ref 57, .int x1, .int x2, .int x3, .int x4, .int x5, .int y10, .int y11] [] G I6 res) ∧ ((I6 76 x2.toNatClampNeg) = x4 → ∀ y12 : Int32, y12 = (x6 ||| (1 <<< (x7 &&& 31))) → ∀ y13 : Int32, y13 = x7 + 1 → Ev X (d + 1) 201 90 [.ref 57, .int x1, .int x2, .int x3, .int x4, .int x5, .int y12, .int y13] [] G I6 res)))))) :
    Ev X (d + 1) 201 90 [.ref 57, .int x1, .int x2, .int x3, .int x4, .int x5, .int x6, .int x7] [] G I res := by
  refine Ev_iload hq_201 (show decode prog_7_method_75_code 90 = .ok (.iload 7, 2) by decide +kernel) rfl ?_
  refine Ev_iconst (v := 4) hq_201 (show decode prog_7_method_75_code 92 = .ok (.iconst 4, 1) by decide +kernel) (by decide) ?_
  refine Ev_icmp_gt (tgt := 142) hq_201 (show decode prog_7_method_75_code 93 = .ok (.if_icmp .gt 49, 3) by decide +kernel) (by decide) (fun c1 => ?_) (fun c1 => ?_)
  · have k := k.1 c1
    refine Ev_aload_n hq_201 (show decode prog_7_method_75_code 142 = .ok (.aload_n 0, 1) by decide +kernel) rfl ?_
    refine Ev_getR hq_201 (show decode prog_7_method_75_code 143 = .ok (.getfield 16, 3) by decide +kernel) rfl (SGn hS (by decide)) (SGk hS rfl) (by decide) rfl (SGr hS rfl) ?_
    refine Ev_iconst (v := 5) hq_201 (show decode prog_7_method_75_code 146 = .ok (.iconst 5, 1) by decide +kernel) (by decide) ?_
    refine Ev_iload_n hq_201 (show decode prog_7_method_75_code 147 = .ok (.iload_n 2, 1) by decide +kernel) rfl ?_
    refine Ev_imul hq_201 (show decode prog_7_method_75_code 148 = .ok (.imul, 1) by decide +kernel) ?_
    refine Ev_iload hq_201 (show decode prog_7_method_75_code 149 = .ok (.iload 5, 2) by decide +kernel) rfl ?_
    obtain ⟨h2, k⟩ := k
    refine Ev_iast hq_201 (show decode prog_7_method_75_code 151 = .ok (.iastore, 1) by decide +kernel) (SGn hS (by decide)) (SGk hS rfl) (SGi hS rfl h2) ?_
    obtain ⟨I3, eI3⟩ : ∃ I3 : zI, I3 = z_up I 60 (5 * x2).toNatClampNeg x5 := ⟨_, rfl⟩
    have k := k I3 eI3
    rw [← eI3]
    refine Ev_iload hq_201 (show decode prog_7_method_75_code 152 = .ok (.iload 6, 2) by decide +kernel) rfl ?_
    exact Ev_iret hq_201 (show decode prog_7_method_75_code 154 = .ok (.ireturn, 1) by decide +kernel) rfl k
  · have k := k.2 c1
    refine Ev_aload_n hq_201 (show decode prog_7_method_75_code 96 = .ok (.aload_n 0, 1) by decide +kernel) rfl ?_
    refine Ev_getR hq_201 (show decode prog_7_method_75_code 97 = .ok (.getfield 16, 3) by decide +kernel) rfl (SGn hS (by decide)) (SGk hS rfl) (by decide) rfl (SGr hS rfl) ?_
    refine Ev_iconst (v := 5) hq_201 (show decode prog_7_method_75_code 100 = .ok (.iconst 5, 1) by decide +kernel) (by decide) ?_
    refine Ev_iload_n hq_201 (show decode prog_7_method_75_code 101 = .ok (.iload_n 2, 1) by decide +kernel) rfl ?_
    refine Ev_imul hq_201 (show decode prog_7_method_75_code 102 = .ok (.imul, 1) by decide +kernel) ?_
    refine Ev_iload hq_201 (show decode prog_7_method_75_code 103 = .ok (.iload 7, 2) by decide +kernel) rfl ?_
    obtain ⟨h4, k⟩ := k
    refine Ev_iast hq_201 (show decode prog_7_method_75_code 105 = .ok (.iastore, 1) by decide +kernel) (SGn hS (by decide)) (SGk hS rfl) (SGi hS rfl h4) ?_
    obtain ⟨I5, eI5⟩ : ∃ I5 : zI, I5 = z_up I 60 (5 * x2).toNatClampNeg x7 := ⟨_, rfl⟩
    have k := k I5 eI5
    rw [← eI5]
    refine Ev_aload_n hq_201 (show decode prog_7_method_75_code 106 = .ok (.aload_n 0, 1) by decide +kernel) rfl ?_
    refine Ev_bipush (v := 30) hq_201 (show decode prog_7_method_75_code 107 = .ok (.bipush 30, 2) by decide +kernel) (by decide) ?_
    obtain ⟨I6, h7, k⟩ := k
    refine Ev_virt (as := [.int 30]) hq_201 (show decode prog_7_method_75_code 109 = .ok (.invokevirtual 205, 3) by decide +kernel) rfl hq_159 rfl (z_le rfl) ⟨(SGn hS (by decide)), (SGk hS rfl), by decide⟩ h7 ?_
    refine Ev_iload hq_201 (show decode prog_7_method_75_code 112 = .ok (.iload 6, 2) by decide +kernel) rfl ?_
    refine Ev_aload_n hq_201 (show decode prog_7_method_75_code 114 = .ok (.aload_n 0, 1) by decide +kernel) rfl ?_
    refine Ev_getR hq_201 (show decode prog_7_method_75_code 115 = .ok (.getfield 64, 3) by decide +kernel) rfl (SGn hS (by decide)) (SGk hS rfl) (by decide) rfl (SGr hS rfl) ?_
    refine Ev_iload_n hq_201 (show decode prog_7_method_75_code 118 = .ok (.iload_n 2, 1) by decide +kernel) rfl ?_
    obtain ⟨h8, k⟩ := k
    refine Ev_iald hq_201 (show decode prog_7_method_75_code 119 = .ok (.iaload, 1) by decide +kernel) (SGn hS (by decide)) (SGk hS rfl) (SGi hS rfl h8) ?_
    refine Ev_iload hq_201 (show decode prog_7_method_75_code 120 = .ok (.iload 4, 2) by decide +kernel) rfl ?_
    refine Ev_icmp_ne (tgt := 132) hq_201 (show decode prog_7_method_75_code 122 = .ok (.if_icmp .ne 10, 3) by decide +kernel) (by decide) (fun c9 => ?_) (fun c9 => ?_)
    · have k := k.1 c9
      refine Ev_iconst (v := 0) hq_201 (show decode prog_7_method_75_code 132 = .ok (.iconst 0, 1) by decide +kernel) (by decide) ?_
      refine Ev_ior hq_201 (show decode prog_7_method_75_code 133 = .ok (.ior, 1) by decide +kernel) ?_
      obtain ⟨y10, ey10⟩ : ∃ y10 : Int32, y10 = (x6 ||| 0) := ⟨_, rfl⟩
      have k := k y10 ey10
      rw [← ey10]
      refine Ev_istore (lo2 := [.ref 57, .int x1, .int x2, .int x3, .int x4, .int x5, .int y10, .int x7]) hq_201 (show decode prog_7_method_75_code 134 = .ok (.istore 6, 2) by decide +kernel) (z_le rfl) rfl ?_
      obtain ⟨y11, ey11⟩ : ∃ y11 : Int32, y11 = x7 + 1 := ⟨_, rfl⟩
      have k := k y11 ey11
      refine Ev_iinc (v := y11) (lo2 := [.ref 57, .int x1, .int x2, .int x3, .int x4, .int x5, .int y10, .int y11]) hq_201 (show decode prog_7_method_75_code 136 = .ok (.iinc 7 1, 3) by decide +kernel) rfl (by rw [ey11]; rfl) rfl ?_
      refine Ev_goto (tgt := 90) hq_201 (show decode prog_7_method_75_code 139 = .ok (.goto (-49), 3) by decide +kernel) (by decide) ?_
      exact k
    · have k := k.2 (Classical.not_not.mp c9)
      refine Ev_iconst (v := 1) hq_201 (show decode prog_7_method_75_code 125 = .ok (.iconst 1, 1) by decide +kernel) (by decide) ?_
      refine Ev_iload hq_201 (show decode prog_7_method_75_code 126 = .ok (.iload 7, 2) by decide +kernel) rfl ?_
      refine Ev_ishl hq_201 (show decode prog_7_method_75_code 128 = .ok (.ishl, 1) by decide +kernel) ?_
      refine Ev_goto (tgt := 133) hq_201 (show decode prog_7_method_75_code 129 = .ok (.goto 4, 3) by decide +kernel) (by decide) ?_
      refine Ev_ior hq_201 (show decode prog_7_method_75_code 133 = .ok (.ior, 1) by decide +kernel) ?_
      obtain ⟨y12, ey12⟩ : ∃ y12 : Int32, y12 = (x6 ||| (1 <<< (x7 &&& 31))) := ⟨_, rfl⟩
      have k := k y12 ey12
      rw [← ey12]
      refine Ev_istore (lo2 := [.ref 57, .int x1, .int x2, .int x3, .int x4, .int x5, .int y12, .int x7]) hq_201 (show decode prog_7_method_75_code 134 = .ok (.istore 6, 2) by decide +kernel) (z_le rfl) rfl ?_
      obtain ⟨y13, ey13⟩ : ∃ y13 : Int32, y13 = x7 + 1 := ⟨_, rfl⟩
      have k := k y13 ey13
      refine Ev_iinc (v := y13) (lo2 := [.ref 57, .int x1, .int x2, .int x3, .int x4, .int x5, .int y12, .int y13]) hq_201 (show decode prog_7_method_75_code 136 = .ok (.iinc 7 1, 3) by decide +kernel) rfl (by rw [ey13]; rfl) rfl ?_
      refine Ev_goto (tgt := 90) hq_201 (show decode prog_7_method_75_code 139 = .ok (.goto (-49), 3) by decide +kernel) (by decide) ?_
      exact k
set_option maxRecDepth 20000 in
theorem wp_Z_drawn {X : Nat × (Nat → Int32)} {d : Nat} {G : zG} {I : zI} {res : Option Value × zG × zI} (x1 : Int32) (x2 : Int32) (hS : SG G) 
    (k : ∃ (r3 : Int32) (I1 : zI), Cv X d 131 [.int x1, .int 0, .int 99999] G I (some (.int r3), G, I1) ∧ ((r3 = 0 → res = (some (.int (-2)), G, I1)) ∧ (¬ r3 = 0 → ∃ (r7 : Int32) (I5 : zI), Cv X d 131 [.int x2, .int 0, .int 1] G I1 (some (.int r7), G, I5) ∧ ((¬ r7 = 0 → ∃ (I9 : zI), Cv X d 203 [.ref 57, .int x1] G I5 (none, G, I9) ∧ ((¬ x2 = 0 → ∃ (r14 : Int32) (I12 : zI), Cv X d 174 [.ref 57] G I9 (some (.int r14), G, I12) ∧ (res = (some (.int r14), G, I12))) ∧ (x2 = 0 → ∃ (r17 : Int32) (I15 : zI), Cv X d 173 [.ref 57] G I9 (some (.int r17), G, I15) ∧ (res = (some (.int r17), G, I15))))) ∧ (r7 = 0 → res = (some (.int (-2)), G, I5)))))) :
    Ev X (d + 1) 202 0 [.ref 57, .int x1, .int x2] [] G I res := by
  refine Ev_iload_n hq_202 (show decode prog_7_method_77_code 0 = .ok (.iload_n 1, 1) by decide +kernel) rfl ?_
  refine Ev_iconst (v := 0) hq_202 (show decode prog_7_method_77_code 1 = .ok (.iconst 0, 1) by decide +kernel) (by decide) ?_
  refine Ev_ldcw (v := 99999) hq_202 (show decode prog_7_method_77_code 2 = .ok (.ldc_w 269, 3) by decide +kernel) rfl ?_
  obtain ⟨r3, I1, h2, k⟩ := k
  refine Ev_stat (as := [.int x1, .int 0, .int 99999]) hq_202 (show decode prog_7_method_77_code 5 = .ok (.invokestatic 90, 3) by decide +kernel) rfl (Or.inl rfl) hq_131 rfl (z_le rfl) h2 ?_
  refine Ev_if_eq (tgt := 20) hq_202 (show decode prog_7_method_77_code 8 = .ok (.ifCond .eq 12, 3) by decide +kernel) (by decide) (fun c4 => ?_) (fun c4 => ?_)
  · have k := k.1 c4
    refine Ev_bipush (v := (-2)) hq_202 (show decode prog_7_method_77_code 20 = .ok (.bipush (-2), 2) by decide +kernel) (by decide) ?_
    exact Ev_iret hq_202 (show decode prog_7_method_77_code 22 = .ok (.ireturn, 1) by decide +kernel) rfl k
  · have k := k.2 c4
    refine Ev_iload_n hq_202 (show decode prog_7_method_77_code 11 = .ok (.iload_n 2, 1) by decide +kernel) rfl ?_
    refine Ev_iconst (v := 0) hq_202 (show decode prog_7_method_77_code 12 = .ok (.iconst 0, 1) by decide +kernel) (by decide) ?_
    refine Ev_iconst (v := 1) hq_202 (show decode prog_7_method_77_code 13 = .ok (.iconst 1, 1) by decide +kernel) (by decide) ?_
    obtain ⟨r7, I5, h6, k⟩ := k
    refine Ev_stat (as := [.int x2, .int 0, .int 1]) hq_202 (show decode prog_7_method_77_code 14 = .ok (.invokestatic 90, 3) by decide +kernel) rfl (Or.inl rfl) hq_131 rfl (z_le rfl) h6 ?_
    refine Ev_if_ne (tgt := 23) hq_202 (show decode prog_7_method_77_code 17 = .ok (.ifCond .ne 6, 3) by decide +kernel) (by decide) (fun c8 => ?_) (fun c8 => ?_)
    · have k := k.1 c8
      refine Ev_aload_n hq_202 (show decode prog_7_method_77_code 23 = .ok (.aload_n 0, 1) by decide +kernel) rfl ?_
      refine Ev_iload_n hq_202 (show decode prog_7_method_77_code 24 = .ok (.iload_n 1, 1) by decide +kernel) rfl ?_
      obtain ⟨I9, h10, k⟩ := k
      refine Ev_virt (as := [.int x1]) hq_202 (show decode prog_7_method_77_code 25 = .ok (.invokevirtual 270, 3) by decide +kernel) rfl hq_203 rfl (z_le rfl) ⟨(SGn hS (by decide)), (SGk hS rfl), by decide⟩ h10 ?_
      refine Ev_iload_n hq_202 (show decode prog_7_method_77_code 28 = .ok (.iload_n 2, 1) by decide +kernel) rfl ?_
      refine Ev_if_ne (tgt := 39) hq_202 (show decode prog_7_method_77_code 29 = .ok (.ifCond .ne 10, 3) by decide +kernel) (by decide) (fun c11 => ?_) (fun c11 => ?_)
      · have k := k.1 c11
        refine Ev_aload_n hq_202 (show decode prog_7_method_77_code 39 = .ok (.aload_n 0, 1) by decide +kernel) rfl ?_
        obtain ⟨r14, I12, h13, k⟩ := k
        refine Ev_virt (as := []) hq_202 (show decode prog_7_method_77_code 40 = .ok (.invokevirtual 226, 3) by decide +kernel) rfl hq_174 rfl (z_le rfl) ⟨(SGn hS (by decide)), (SGk hS rfl), by decide⟩ h13 ?_
        exact Ev_iret hq_202 (show decode prog_7_method_77_code 43 = .ok (.ireturn, 1) by decide +kernel) rfl k
      · have k := k.2 (Classical.not_not.mp c11)
        refine Ev_aload_n hq_202 (show decode prog_7_method_77_code 32 = .ok (.aload_n 0, 1) by decide +kernel) rfl ?_
        obtain ⟨r17, I15, h16, k⟩ := k
        refine Ev_virt (as := []) hq_202 (show decode prog_7_method_77_code 33 = .ok (.invokevirtual 208, 3) by decide +kernel) rfl hq_173 rfl (z_le rfl) ⟨(SGn hS (by decide)), (SGk hS rfl), by decide⟩ h16 ?_
        refine Ev_goto (tgt := 43) hq_202 (show decode prog_7_method_77_code 36 = .ok (.goto 7, 3) by decide +kernel) (by decide) ?_
        exact Ev_iret hq_202 (show decode prog_7_method_77_code 43 = .ok (.ireturn, 1) by decide +kernel) rfl k
    · have k := k.2 (Classical.not_not.mp c8)
      refine Ev_bipush (v := (-2)) hq_202 (show decode prog_7_method_77_code 20 = .ok (.bipush (-2), 2) by decide +kernel) (by decide) ?_
      exact Ev_iret hq_202 (show decode prog_7_method_77_code 22 = .ok (.ireturn, 1) by decide +kernel) rfl k
set_option maxRecDepth 20000 in
theorem wp_Z_runsBy {X : Nat × (Nat → Int32)} {d : Nat} {G : zG} {I : zI} {res : Option Value × zG × zI} (x1 : Int32) 
    (k : ∀ y1 : Int64, y1 = ((x1.toInt64) + 1) → Ev X d 203 8 [.ref 57, .int x1, .long y1, zU, .int 0] [] G I res) :
    Ev X d 203 0 [.ref 57, .int x1, zU, zU, zU] [] G I res := by
  refine Ev_iload_n hq_203 (show decode prog_7_method_76_code 0 = .ok (.iload_n 1, 1) by decide +kernel) rfl ?_
  refine Ev_i2l hq_203 (show decode prog_7_method_76_code 1 = .ok (.i2l, 1) by decide +kernel) ?_
  refine Ev_lconst (v := 1) hq_203 (show decode prog_7_method_76_code 2 = .ok (.lconst 1, 1) by decide +kernel) (by decide) ?_
  refine Ev_ladd hq_203 (show decode prog_7_method_76_code 3 = .ok (.ladd, 1) by decide +kernel) ?_
  obtain ⟨y1, ey1⟩ : ∃ y1 : Int64, y1 = ((x1.toInt64) + 1) := ⟨_, rfl⟩
  have k := k y1 ey1
  rw [← ey1]
  refine Ev_lstore_n (lo2 := [.ref 57, .int x1, .long y1, zU, zU]) hq_203 (show decode prog_7_method_76_code 4 = .ok (.lstore_n 2, 1) by decide +kernel) (z_le rfl) rfl ?_
  refine Ev_iconst (v := 0) hq_203 (show decode prog_7_method_76_code 5 = .ok (.iconst 0, 1) by decide +kernel) (by decide) ?_
  refine Ev_istore (lo2 := [.ref 57, .int x1, .long y1, zU, .int 0]) hq_203 (show decode prog_7_method_76_code 6 = .ok (.istore 4, 2) by decide +kernel) (z_le rfl) rfl ?_
  exact k
set_option maxRecDepth 20000 in
theorem wp_Z_runsBy_8 {X : Nat × (Nat → Int32)} {d : Nat} {G : zG} {I : zI} {res : Option Value × zG × zI} (x1 : Int32) (x2 : Int64) (x4 : Int32) (hS : SG G) 
    (k : ((I 57 0) ≤ x4 → ∃ (I2 : zI), Cv X d 159 [.ref 57, .int 30] G I (none, G, I2) ∧ (Ev X (d + 1) 203 77 [.ref 57, .int x1, .long x2, zU, .int 0] [] G I2 res)) ∧ (¬ (I 57 0) ≤ x4 → ∀ y4 : Int64, y4 = ((x2 * 48271) - (x2 * 48271) / 2147483647 * 2147483647) → z_inr ((5 * x4) + 2) 20 ∧ (z_inr x4 4 ∧ (∀ I7 : zI, I7 = z_up I 79 x4.toNatClampNeg (I 60 ((5 * x4) + 2).toNatClampNeg) → z_inr ((5 * x4) + 2) 20 ∧ (∀ I9 : zI, I9 = z_up I7 60 ((5 * x4) + 2).toNatClampNeg ((y4 - y4 / 1000 * 1000).toInt32) → ∀ y10 : Int32, y10 = x4 + 1 → Ev X (d + 1) 203 8 [.ref 57, .int x1, .long y4, zU, .int y10] [] G I9 res))))) :
    Ev X (d + 1) 203 8 [.ref 57, .int x1, .long x2, zU, .int x4] [] G I res := by
  refine Ev_iload hq_203 (show decode prog_7_method_76_code 8 = .ok (.iload 4, 2) by decide +kernel) rfl ?_
  refine Ev_aload_n hq_203 (show decode prog_7_method_76_code 10 = .ok (.aload_n 0, 1) by decide +kernel) rfl ?_
  refine Ev_getI hq_203 (show decode prog_7_method_76_code 11 = .ok (.getfield 87, 3) by decide +kernel) rfl (SGn hS (by decide)) (SGk hS rfl) (by decide) rfl ?_
  refine Ev_icmp_ge (tgt := 68) hq_203 (show decode prog_7_method_76_code 14 = .ok (.if_icmp .ge 54, 3) by decide +kernel) (by decide) (fun c1 => ?_) (fun c1 => ?_)
  · have k := k.1 c1
    refine Ev_aload_n hq_203 (show decode prog_7_method_76_code 68 = .ok (.aload_n 0, 1) by decide +kernel) rfl ?_
    refine Ev_bipush (v := 30) hq_203 (show decode prog_7_method_76_code 69 = .ok (.bipush 30, 2) by decide +kernel) (by decide) ?_
    obtain ⟨I2, h3, k⟩ := k
    refine Ev_virt (as := [.int 30]) hq_203 (show decode prog_7_method_76_code 71 = .ok (.invokevirtual 205, 3) by decide +kernel) rfl hq_159 rfl (z_le rfl) ⟨(SGn hS (by decide)), (SGk hS rfl), by decide⟩ h3 ?_
    refine Ev_iconst (v := 0) hq_203 (show decode prog_7_method_76_code 74 = .ok (.iconst 0, 1) by decide +kernel) (by decide) ?_
    refine Ev_istore (lo2 := [.ref 57, .int x1, .long x2, zU, .int 0]) hq_203 (show decode prog_7_method_76_code 75 = .ok (.istore 4, 2) by decide +kernel) (z_le rfl) rfl ?_
    exact k
  · have k := k.2 c1
    refine Ev_lload_n hq_203 (show decode prog_7_method_76_code 17 = .ok (.lload_n 2, 1) by decide +kernel) rfl ?_
    refine Ev_ldc2 (v := 48271) hq_203 (show decode prog_7_method_76_code 18 = .ok (.ldc2_w 263, 3) by decide +kernel) rfl ?_
    refine Ev_lmul hq_203 (show decode prog_7_method_76_code 21 = .ok (.lmul, 1) by decide +kernel) ?_
    refine Ev_ldc2 (v := 2147483647) hq_203 (show decode prog_7_method_76_code 22 = .ok (.ldc2_w 265, 3) by decide +kernel) rfl ?_
    refine Ev_lrem hq_203 (show decode prog_7_method_76_code 25 = .ok (.lrem, 1) by decide +kernel) (by decide) ?_
    obtain ⟨y4, ey4⟩ : ∃ y4 : Int64, y4 = ((x2 * 48271) - (x2 * 48271) / 2147483647 * 2147483647) := ⟨_, rfl⟩
    have k := k y4 ey4
    rw [← ey4]
    refine Ev_lstore_n (lo2 := [.ref 57, .int x1, .long y4, zU, .int x4]) hq_203 (show decode prog_7_method_76_code 26 = .ok (.lstore_n 2, 1) by decide +kernel) (z_le rfl) rfl ?_
    refine Ev_aload_n hq_203 (show decode prog_7_method_76_code 27 = .ok (.aload_n 0, 1) by decide +kernel) rfl ?_
    refine Ev_getR hq_203 (show decode prog_7_method_76_code 28 = .ok (.getfield 77, 3) by decide +kernel) rfl (SGn hS (by decide)) (SGk hS rfl) (by decide) rfl (SGr hS rfl) ?_
    refine Ev_iload hq_203 (show decode prog_7_method_76_code 31 = .ok (.iload 4, 2) by decide +kernel) rfl ?_
    refine Ev_aload_n hq_203 (show decode prog_7_method_76_code 33 = .ok (.aload_n 0, 1) by decide +kernel) rfl ?_
    refine Ev_getR hq_203 (show decode prog_7_method_76_code 34 = .ok (.getfield 16, 3) by decide +kernel) rfl (SGn hS (by decide)) (SGk hS rfl) (by decide) rfl (SGr hS rfl) ?_
    refine Ev_iconst (v := 5) hq_203 (show decode prog_7_method_76_code 37 = .ok (.iconst 5, 1) by decide +kernel) (by decide) ?_
    refine Ev_iload hq_203 (show decode prog_7_method_76_code 38 = .ok (.iload 4, 2) by decide +kernel) rfl ?_
    refine Ev_imul hq_203 (show decode prog_7_method_76_code 40 = .ok (.imul, 1) by decide +kernel) ?_
    refine Ev_iconst (v := 2) hq_203 (show decode prog_7_method_76_code 41 = .ok (.iconst 2, 1) by decide +kernel) (by decide) ?_
    refine Ev_iadd hq_203 (show decode prog_7_method_76_code 42 = .ok (.iadd, 1) by decide +kernel) ?_
    obtain ⟨h5, k⟩ := k
    refine Ev_iald hq_203 (show decode prog_7_method_76_code 43 = .ok (.iaload, 1) by decide +kernel) (SGn hS (by decide)) (SGk hS rfl) (SGi hS rfl h5) ?_
    obtain ⟨h6, k⟩ := k
    refine Ev_iast hq_203 (show decode prog_7_method_76_code 44 = .ok (.iastore, 1) by decide +kernel) (SGn hS (by decide)) (SGk hS rfl) (SGi hS rfl h6) ?_
    obtain ⟨I7, eI7⟩ : ∃ I7 : zI, I7 = z_up I 79 x4.toNatClampNeg (I 60 ((5 * x4) + 2).toNatClampNeg) := ⟨_, rfl⟩
    have k := k I7 eI7
    rw [← eI7]
    refine Ev_aload_n hq_203 (show decode prog_7_method_76_code 45 = .ok (.aload_n 0, 1) by decide +kernel) rfl ?_
    refine Ev_getR hq_203 (show decode prog_7_method_76_code 46 = .ok (.getfield 16, 3) by decide +kernel) rfl (SGn hS (by decide)) (SGk hS rfl) (by decide) rfl (SGr hS rfl) ?_
    refine Ev_iconst (v := 5) hq_203 (show decode prog_7_method_76_code 49 = .ok (.iconst 5, 1) by decide +kernel) (by decide) ?_
    refine Ev_iload hq_203 (show decode prog_7_method_76_code 50 = .ok (.iload 4, 2) by decide +kernel) rfl ?_
    refine Ev_imul hq_203 (show decode prog_7_method_76_code 52 = .ok (.imul, 1) by decide +kernel) ?_
    refine Ev_iconst (v := 2) hq_203 (show decode prog_7_method_76_code 53 = .ok (.iconst 2, 1) by decide +kernel) (by decide) ?_
    refine Ev_iadd hq_203 (show decode prog_7_method_76_code 54 = .ok (.iadd, 1) by decide +kernel) ?_
    refine Ev_lload_n hq_203 (show decode prog_7_method_76_code 55 = .ok (.lload_n 2, 1) by decide +kernel) rfl ?_
    refine Ev_ldc2 (v := 1000) hq_203 (show decode prog_7_method_76_code 56 = .ok (.ldc2_w 267, 3) by decide +kernel) rfl ?_
    refine Ev_lrem hq_203 (show decode prog_7_method_76_code 59 = .ok (.lrem, 1) by decide +kernel) (by decide) ?_
    refine Ev_l2i hq_203 (show decode prog_7_method_76_code 60 = .ok (.l2i, 1) by decide +kernel) ?_
    obtain ⟨h8, k⟩ := k
    refine Ev_iast hq_203 (show decode prog_7_method_76_code 61 = .ok (.iastore, 1) by decide +kernel) (SGn hS (by decide)) (SGk hS rfl) (SGi hS rfl h8) ?_
    obtain ⟨I9, eI9⟩ : ∃ I9 : zI, I9 = z_up I7 60 ((5 * x4) + 2).toNatClampNeg ((y4 - y4 / 1000 * 1000).toInt32) := ⟨_, rfl⟩
    have k := k I9 eI9
    rw [← eI9]
    obtain ⟨y10, ey10⟩ : ∃ y10 : Int32, y10 = x4 + 1 := ⟨_, rfl⟩
    have k := k y10 ey10
    refine Ev_iinc (v := y10) (lo2 := [.ref 57, .int x1, .long y4, zU, .int y10]) hq_203 (show decode prog_7_method_76_code 62 = .ok (.iinc 4 1, 3) by decide +kernel) rfl (by rw [ey10]; rfl) rfl ?_
    refine Ev_goto (tgt := 8) hq_203 (show decode prog_7_method_76_code 65 = .ok (.goto (-57), 3) by decide +kernel) (by decide) ?_
    exact k
set_option maxRecDepth 20000 in
theorem wp_Z_runsBy_77 {X : Nat × (Nat → Int32)} {d : Nat} {G : zG} {I : zI} {res : Option Value × zG × zI} (x1 : Int32) (x2 : Int64) (x4 : Int32) (hS : SG G) 
    (k : ((I 57 0) ≤ x4 → res = (none, G, I)) ∧ (¬ (I 57 0) ≤ x4 → z_inr x4 4 ∧ (z_inr ((5 * x4) + 2) 20 ∧ (∀ I4 : zI, I4 = z_up I 60 ((5 * x4) + 2).toNatClampNeg (I 79 x4.toNatClampNeg) → ∀ y5 : Int32, y5 = x4 + 1 → Ev X d 203 77 [.ref 57, .int x1, .long x2, zU, .int y5] [] G I4 res)))) :
    Ev X d 203 77 [.ref 57, .int x1, .long x2, zU, .int x4] [] G I res := by
  refine Ev_iload hq_203 (show decode prog_7_method_76_code 77 = .ok (.iload 4, 2) by decide +kernel) rfl ?_
  refine Ev_aload_n hq_203 (show decode prog_7_method_76_code 79 = .ok (.aload_n 0, 1) by decide +kernel) rfl ?_
  refine Ev_getI hq_203 (show decode prog_7_method_76_code 80 = .ok (.getfield 87, 3) by decide +kernel) rfl (SGn hS (by decide)) (SGk hS rfl) (by decide) rfl ?_
  refine Ev_icmp_ge (tgt := 110) hq_203 (show decode prog_7_method_76_code 83 = .ok (.if_icmp .ge 27, 3) by decide +kernel) (by decide) (fun c1 => ?_) (fun c1 => ?_)
  · have k := k.1 c1
    exact Ev_vret hq_203 (show decode prog_7_method_76_code 110 = .ok (.return_, 1) by decide +kernel) k
  · have k := k.2 c1
    refine Ev_aload_n hq_203 (show decode prog_7_method_76_code 86 = .ok (.aload_n 0, 1) by decide +kernel) rfl ?_
    refine Ev_getR hq_203 (show decode prog_7_method_76_code 87 = .ok (.getfield 16, 3) by decide +kernel) rfl (SGn hS (by decide)) (SGk hS rfl) (by decide) rfl (SGr hS rfl) ?_
    refine Ev_iconst (v := 5) hq_203 (show decode prog_7_method_76_code 90 = .ok (.iconst 5, 1) by decide +kernel) (by decide) ?_
    refine Ev_iload hq_203 (show decode prog_7_method_76_code 91 = .ok (.iload 4, 2) by decide +kernel) rfl ?_
    refine Ev_imul hq_203 (show decode prog_7_method_76_code 93 = .ok (.imul, 1) by decide +kernel) ?_
    refine Ev_iconst (v := 2) hq_203 (show decode prog_7_method_76_code 94 = .ok (.iconst 2, 1) by decide +kernel) (by decide) ?_
    refine Ev_iadd hq_203 (show decode prog_7_method_76_code 95 = .ok (.iadd, 1) by decide +kernel) ?_
    refine Ev_aload_n hq_203 (show decode prog_7_method_76_code 96 = .ok (.aload_n 0, 1) by decide +kernel) rfl ?_
    refine Ev_getR hq_203 (show decode prog_7_method_76_code 97 = .ok (.getfield 77, 3) by decide +kernel) rfl (SGn hS (by decide)) (SGk hS rfl) (by decide) rfl (SGr hS rfl) ?_
    refine Ev_iload hq_203 (show decode prog_7_method_76_code 100 = .ok (.iload 4, 2) by decide +kernel) rfl ?_
    obtain ⟨h2, k⟩ := k
    refine Ev_iald hq_203 (show decode prog_7_method_76_code 102 = .ok (.iaload, 1) by decide +kernel) (SGn hS (by decide)) (SGk hS rfl) (SGi hS rfl h2) ?_
    obtain ⟨h3, k⟩ := k
    refine Ev_iast hq_203 (show decode prog_7_method_76_code 103 = .ok (.iastore, 1) by decide +kernel) (SGn hS (by decide)) (SGk hS rfl) (SGi hS rfl h3) ?_
    obtain ⟨I4, eI4⟩ : ∃ I4 : zI, I4 = z_up I 60 ((5 * x4) + 2).toNatClampNeg (I 79 x4.toNatClampNeg) := ⟨_, rfl⟩
    have k := k I4 eI4
    rw [← eI4]
    obtain ⟨y5, ey5⟩ : ∃ y5 : Int32, y5 = x4 + 1 := ⟨_, rfl⟩
    have k := k y5 ey5
    refine Ev_iinc (v := y5) (lo2 := [.ref 57, .int x1, .long x2, zU, .int y5]) hq_203 (show decode prog_7_method_76_code 104 = .ok (.iinc 4 1, 3) by decide +kernel) rfl (by rw [ey5]; rfl) rfl ?_
    refine Ev_goto (tgt := 77) hq_203 (show decode prog_7_method_76_code 107 = .ok (.goto (-30), 3) by decide +kernel) (by decide) ?_
    exact k
set_option maxRecDepth 20000 in
theorem wp_Z_allRest {X : Nat × (Nat → Int32)} {d : Nat} {G : zG} {I : zI} {res : Option Value × zG × zI} (x1 : Int32) 
    (k : Ev X d 205 2 [.ref 57, .int x1, .int 0] [] G I res) :
    Ev X d 205 0 [.ref 57, .int x1, zU] [] G I res := by
  refine Ev_iconst (v := 0) hq_205 (show decode prog_7_method_78_code 0 = .ok (.iconst 0, 1) by decide +kernel) (by decide) ?_
  refine Ev_istore_n (lo2 := [.ref 57, .int x1, .int 0]) hq_205 (show decode prog_7_method_78_code 1 = .ok (.istore_n 2, 1) by decide +kernel) (z_le rfl) rfl ?_
  exact k
set_option maxRecDepth 20000 in
theorem wp_Z_allRest_2 {X : Nat × (Nat → Int32)} {d : Nat} {G : zG} {I : zI} {res : Option Value × zG × zI} (x1 : Int32) (x2 : Int32) (hS : SG G) 
    (k : ((I 57 0) ≤ x2 → res = (some (.int 1), G, I)) ∧ (¬ (I 57 0) ≤ x2 → ∃ (r4 : Int32) (I2 : zI), Cv X d 143 [.ref 57, .int x2] G I (some (.int r4), G, I2) ∧ ((r4 = 0 → ∀ y6 : Int32, y6 = x2 + 1 → Ev X (d + 1) 205 2 [.ref 57, .int x1, .int y6] [] G I2 res) ∧ (¬ r4 = 0 → ∃ (r9 : Int32) (I7 : zI), Cv X d 170 [.ref 57, .int x2, .int x1] G I2 (some (.int r9), G, I7) ∧ ((¬ r9 = (-1) → ∀ y11 : Int32, y11 = x2 + 1 → Ev X (d + 1) 205 2 [.ref 57, .int x1, .int y11] [] G I7 res) ∧ (r9 = (-1) → res = (some (.int 0), G, I7))))))) :
    Ev X (d + 1) 205 2 [.ref 57, .int x1, .int x2] [] G I res := by
  refine Ev_iload_n hq_205 (show decode prog_7_method_78_code 2 = .ok (.iload_n 2, 1) by decide +kernel) rfl ?_
  refine Ev_aload_n hq_205 (show decode prog_7_method_78_code 3 = .ok (.aload_n 0, 1) by decide +kernel) rfl ?_
  refine Ev_getI hq_205 (show decode prog_7_method_78_code 4 = .ok (.getfield 87, 3) by decide +kernel) rfl (SGn hS (by decide)) (SGk hS rfl) (by decide) rfl ?_
  refine Ev_icmp_ge (tgt := 36) hq_205 (show decode prog_7_method_78_code 7 = .ok (.if_icmp .ge 29, 3) by decide +kernel) (by decide) (fun c1 => ?_) (fun c1 => ?_)
  · have k := k.1 c1
    refine Ev_iconst (v := 1) hq_205 (show decode prog_7_method_78_code 36 = .ok (.iconst 1, 1) by decide +kernel) (by decide) ?_
    exact Ev_iret hq_205 (show decode prog_7_method_78_code 37 = .ok (.ireturn, 1) by decide +kernel) rfl k
  · have k := k.2 c1
    refine Ev_aload_n hq_205 (show decode prog_7_method_78_code 10 = .ok (.aload_n 0, 1) by decide +kernel) rfl ?_
    refine Ev_iload_n hq_205 (show decode prog_7_method_78_code 11 = .ok (.iload_n 2, 1) by decide +kernel) rfl ?_
    obtain ⟨r4, I2, h3, k⟩ := k
    refine Ev_virt (as := [.int x2]) hq_205 (show decode prog_7_method_78_code 12 = .ok (.invokevirtual 94, 3) by decide +kernel) rfl hq_143 rfl (z_le rfl) ⟨(SGn hS (by decide)), (SGk hS rfl), by decide⟩ h3 ?_
    refine Ev_if_eq (tgt := 30) hq_205 (show decode prog_7_method_78_code 15 = .ok (.ifCond .eq 15, 3) by decide +kernel) (by decide) (fun c5 => ?_) (fun c5 => ?_)
    · have k := k.1 c5
      obtain ⟨y6, ey6⟩ : ∃ y6 : Int32, y6 = x2 + 1 := ⟨_, rfl⟩
      have k := k y6 ey6
      refine Ev_iinc (v := y6) (lo2 := [.ref 57, .int x1, .int y6]) hq_205 (show decode prog_7_method_78_code 30 = .ok (.iinc 2 1, 3) by decide +kernel) rfl (by rw [ey6]; rfl) rfl ?_
      refine Ev_goto (tgt := 2) hq_205 (show decode prog_7_method_78_code 33 = .ok (.goto (-31), 3) by decide +kernel) (by decide) ?_
      exact k
    · have k := k.2 c5
      refine Ev_aload_n hq_205 (show decode prog_7_method_78_code 18 = .ok (.aload_n 0, 1) by decide +kernel) rfl ?_
      refine Ev_iload_n hq_205 (show decode prog_7_method_78_code 19 = .ok (.iload_n 2, 1) by decide +kernel) rfl ?_
      refine Ev_iload_n hq_205 (show decode prog_7_method_78_code 20 = .ok (.iload_n 1, 1) by decide +kernel) rfl ?_
      obtain ⟨r9, I7, h8, k⟩ := k
      refine Ev_virt (as := [.int x2, .int x1]) hq_205 (show decode prog_7_method_78_code 21 = .ok (.invokevirtual 217, 3) by decide +kernel) rfl hq_170 rfl (z_le rfl) ⟨(SGn hS (by decide)), (SGk hS rfl), by decide⟩ h8 ?_
      refine Ev_iconst (v := (-1)) hq_205 (show decode prog_7_method_78_code 24 = .ok (.iconst (-1), 1) by decide +kernel) (by decide) ?_
      refine Ev_icmp_ne (tgt := 30) hq_205 (show decode prog_7_method_78_code 25 = .ok (.if_icmp .ne 5, 3) by decide +kernel) (by decide) (fun c10 => ?_) (fun c10 => ?_)
      · have k := k.1 c10
        obtain ⟨y11, ey11⟩ : ∃ y11 : Int32, y11 = x2 + 1 := ⟨_, rfl⟩
        have k := k y11 ey11
        refine Ev_iinc (v := y11) (lo2 := [.ref 57, .int x1, .int y11]) hq_205 (show decode prog_7_method_78_code 30 = .ok (.iinc 2 1, 3) by decide +kernel) rfl (by rw [ey11]; rfl) rfl ?_
        refine Ev_goto (tgt := 2) hq_205 (show decode prog_7_method_78_code 33 = .ok (.goto (-31), 3) by decide +kernel) (by decide) ?_
        exact k
      · have k := k.2 (Classical.not_not.mp c10)
        refine Ev_iconst (v := 0) hq_205 (show decode prog_7_method_78_code 28 = .ok (.iconst 0, 1) by decide +kernel) (by decide) ?_
        exact Ev_iret hq_205 (show decode prog_7_method_78_code 29 = .ok (.ireturn, 1) by decide +kernel) rfl k
set_option maxRecDepth 20000 in
theorem wp_Z_lowest {X : Nat × (Nat → Int32)} {d : Nat} {G : zG} {I : zI} {res : Option Value × zG × zI} (x0 : Int64) (x2 : Int64) (x4 : Int32) 
    (k : (¬ (lg_cmp x0 0) = 0 → Ev X d 206 16 [.long x0, zU, .long x2, zU, .int x4, .long x0, zU, .long x2, zU, zU, zU] [] G I res) ∧ ((lg_cmp x0 0) = 0 → res = (some (.long (x4.toInt64)), G, I))) :
    Ev X d 206 0 [.long x0, zU, .long x2, zU, .int x4, zU, zU, zU, zU, zU, zU] [] G I res := by
  refine Ev_lload_n hq_206 (show decode prog_7_method_79_code 0 = .ok (.lload_n 0, 1) by decide +kernel) rfl ?_
  refine Ev_lconst (v := 0) hq_206 (show decode prog_7_method_79_code 1 = .ok (.lconst 0, 1) by decide +kernel) (by decide) ?_
  refine Ev_lcmp hq_206 (show decode prog_7_method_79_code 2 = .ok (.lcmp, 1) by decide +kernel) ?_
  refine Ev_if_ne (tgt := 10) hq_206 (show decode prog_7_method_79_code 3 = .ok (.ifCond .ne 7, 3) by decide +kernel) (by decide) (fun c1 => ?_) (fun c1 => ?_)
  · have k := k.1 c1
    refine Ev_lload_n hq_206 (show decode prog_7_method_79_code 10 = .ok (.lload_n 0, 1) by decide +kernel) rfl ?_
    refine Ev_lstore (lo2 := [.long x0, zU, .long x2, zU, .int x4, .long x0, zU, zU, zU, zU, zU]) hq_206 (show decode prog_7_method_79_code 11 = .ok (.lstore 5, 2) by decide +kernel) (z_le rfl) rfl ?_
    refine Ev_lload_n hq_206 (show decode prog_7_method_79_code 13 = .ok (.lload_n 2, 1) by decide +kernel) rfl ?_
    refine Ev_lstore (lo2 := [.long x0, zU, .long x2, zU, .int x4, .long x0, zU, .long x2, zU, zU, zU]) hq_206 (show decode prog_7_method_79_code 14 = .ok (.lstore 7, 2) by decide +kernel) (z_le rfl) rfl ?_
    exact k
  · have k := k.2 (Classical.not_not.mp c1)
    refine Ev_iload hq_206 (show decode prog_7_method_79_code 6 = .ok (.iload 4, 2) by decide +kernel) rfl ?_
    refine Ev_i2l hq_206 (show decode prog_7_method_79_code 8 = .ok (.i2l, 1) by decide +kernel) ?_
    exact Ev_lret hq_206 (show decode prog_7_method_79_code 9 = .ok (.lreturn, 1) by decide +kernel) k
set_option maxRecDepth 20000 in
theorem wp_Z_lowest_16 {X : Nat × (Nat → Int32)} {d : Nat} {G : zG} {I : zI} {res : Option Value × zG × zI} (x0 : Int64) (x2 : Int64) (x4 : Int32) (x5 : Int64) (x7 : Int64) (v9 : Value) (cv9 : v9.category = 1) 
    (k : ((lg_cmp x7 0) = 0 → (¬ x4 = 0 → (¬ x5 = 0) ∧ (res = (some (.long (x2 / x5)), G, I))) ∧ (x4 = 0 → (¬ x5 = 0) ∧ (res = (some (.long (x0 / x5)), G, I)))) ∧ (¬ (lg_cmp x7 0) = 0 → (¬ x7 = 0) ∧ (∀ y6 : Int64, y6 = (x5 - x5 / x7 * x7) → Ev X d 206 16 [.long x0, zU, .long x2, zU, .int x4, .long x7, zU, .long y6, zU, .long y6, zU] [] G I res))) :
    Ev X d 206 16 [.long x0, zU, .long x2, zU, .int x4, .long x5, zU, .long x7, zU, v9, zU] [] G I res := by
  refine Ev_lload hq_206 (show decode prog_7_method_79_code 16 = .ok (.lload 7, 2) by decide +kernel) rfl ?_
  refine Ev_lconst (v := 0) hq_206 (show decode prog_7_method_79_code 18 = .ok (.lconst 0, 1) by decide +kernel) (by decide) ?_
  refine Ev_lcmp hq_206 (show decode prog_7_method_79_code 19 = .ok (.lcmp, 1) by decide +kernel) ?_
  refine Ev_if_eq (tgt := 41) hq_206 (show decode prog_7_method_79_code 20 = .ok (.ifCond .eq 21, 3) by decide +kernel) (by decide) (fun c1 => ?_) (fun c1 => ?_)
  · have k := k.1 c1
    refine Ev_iload hq_206 (show decode prog_7_method_79_code 41 = .ok (.iload 4, 2) by decide +kernel) rfl ?_
    refine Ev_if_ne (tgt := 50) hq_206 (show decode prog_7_method_79_code 43 = .ok (.ifCond .ne 7, 3) by decide +kernel) (by decide) (fun c2 => ?_) (fun c2 => ?_)
    · have k := k.1 c2
      refine Ev_lload_n hq_206 (show decode prog_7_method_79_code 50 = .ok (.lload_n 2, 1) by decide +kernel) rfl ?_
      refine Ev_lload hq_206 (show decode prog_7_method_79_code 51 = .ok (.lload 5, 2) by decide +kernel) rfl ?_
      obtain ⟨h3, k⟩ := k
      refine Ev_ldiv hq_206 (show decode prog_7_method_79_code 53 = .ok (.ldiv, 1) by decide +kernel) h3 ?_
      exact Ev_lret hq_206 (show decode prog_7_method_79_code 54 = .ok (.lreturn, 1) by decide +kernel) k
    · have k := k.2 (Classical.not_not.mp c2)
      refine Ev_lload_n hq_206 (show decode prog_7_method_79_code 46 = .ok (.lload_n 0, 1) by decide +kernel) rfl ?_
      refine Ev_goto (tgt := 51) hq_206 (show decode prog_7_method_79_code 47 = .ok (.goto 4, 3) by decide +kernel) (by decide) ?_
      refine Ev_lload hq_206 (show decode prog_7_method_79_code 51 = .ok (.lload 5, 2) by decide +kernel) rfl ?_
      obtain ⟨h4, k⟩ := k
      refine Ev_ldiv hq_206 (show decode prog_7_method_79_code 53 = .ok (.ldiv, 1) by decide +kernel) h4 ?_
      exact Ev_lret hq_206 (show decode prog_7_method_79_code 54 = .ok (.lreturn, 1) by decide +kernel) k
  · have k := k.2 c1
    refine Ev_lload hq_206 (show decode prog_7_method_79_code 23 = .ok (.lload 5, 2) by decide +kernel) rfl ?_
    refine Ev_lload hq_206 (show decode prog_7_method_79_code 25 = .ok (.lload 7, 2) by decide +kernel) rfl ?_
    obtain ⟨h5, k⟩ := k
    refine Ev_lrem hq_206 (show decode prog_7_method_79_code 27 = .ok (.lrem, 1) by decide +kernel) h5 ?_
    obtain ⟨y6, ey6⟩ : ∃ y6 : Int64, y6 = (x5 - x5 / x7 * x7) := ⟨_, rfl⟩
    have k := k y6 ey6
    rw [← ey6]
    refine Ev_lstore (lo2 := [.long x0, zU, .long x2, zU, .int x4, .long x5, zU, .long x7, zU, .long y6, zU]) hq_206 (show decode prog_7_method_79_code 28 = .ok (.lstore 9, 2) by decide +kernel) (z_le rfl) rfl ?_
    refine Ev_lload hq_206 (show decode prog_7_method_79_code 30 = .ok (.lload 7, 2) by decide +kernel) rfl ?_
    refine Ev_lstore (lo2 := [.long x0, zU, .long x2, zU, .int x4, .long x7, zU, .long x7, zU, .long y6, zU]) hq_206 (show decode prog_7_method_79_code 32 = .ok (.lstore 5, 2) by decide +kernel) (z_le rfl) rfl ?_
    refine Ev_lload hq_206 (show decode prog_7_method_79_code 34 = .ok (.lload 9, 2) by decide +kernel) rfl ?_
    refine Ev_lstore (lo2 := [.long x0, zU, .long x2, zU, .int x4, .long x7, zU, .long y6, zU, .long y6, zU]) hq_206 (show decode prog_7_method_79_code 36 = .ok (.lstore 7, 2) by decide +kernel) (z_le rfl) rfl ?_
    refine Ev_goto (tgt := 16) hq_206 (show decode prog_7_method_79_code 38 = .ok (.goto (-22), 3) by decide +kernel) (by decide) ?_
    exact k
set_option maxRecDepth 20000 in
theorem wp_Z_image {X : Nat × (Nat → Int32)} {d : Nat} {G : zG} {I : zI} {res : Option Value × zG × zI}  (hS : SG G) 
    (k : (∀ I1 : zI, I1 = z_up I 57 10 1 → (∀ I2 : zI, I2 = z_up I1 57 11 (I1 57 0) → (∀ I3 : zI, I3 = z_up I2 57 12 (I2 57 9) → Ev X d 207 23 [.ref 57, .int 0] [] G I3 res)))) :
    Ev X d 207 0 [.ref 57, zU] [] G I res := by
  refine Ev_aload_n hq_207 (show decode prog_7_method_81_code 0 = .ok (.aload_n 0, 1) by decide +kernel) rfl ?_
  refine Ev_iconst (v := 1) hq_207 (show decode prog_7_method_81_code 1 = .ok (.iconst 1, 1) by decide +kernel) (by decide) ?_
  refine Ev_putI hq_207 (show decode prog_7_method_81_code 2 = .ok (.putfield 282, 3) by decide +kernel) rfl (SGn hS (by decide)) (SGk hS rfl) (by decide) (by decide) rfl (fun _ => by decide) ?_
  obtain ⟨I1, eI1⟩ : ∃ I1 : zI, I1 = z_up I 57 10 1 := ⟨_, rfl⟩
  have k := k I1 eI1
  rw [← eI1]
  refine Ev_aload_n hq_207 (show decode prog_7_method_81_code 5 = .ok (.aload_n 0, 1) by decide +kernel) rfl ?_
  refine Ev_aload_n hq_207 (show decode prog_7_method_81_code 6 = .ok (.aload_n 0, 1) by decide +kernel) rfl ?_
  refine Ev_getI hq_207 (show decode prog_7_method_81_code 7 = .ok (.getfield 87, 3) by decide +kernel) rfl (SGn hS (by decide)) (SGk hS rfl) (by decide) rfl ?_
  refine Ev_putI hq_207 (show decode prog_7_method_81_code 10 = .ok (.putfield 286, 3) by decide +kernel) rfl (SGn hS (by decide)) (SGk hS rfl) (by decide) (by decide) rfl (fun hz => by cases hz) ?_
  obtain ⟨I2, eI2⟩ : ∃ I2 : zI, I2 = z_up I1 57 11 (I1 57 0) := ⟨_, rfl⟩
  have k := k I2 eI2
  rw [← eI2]
  refine Ev_aload_n hq_207 (show decode prog_7_method_81_code 13 = .ok (.aload_n 0, 1) by decide +kernel) rfl ?_
  refine Ev_aload_n hq_207 (show decode prog_7_method_81_code 14 = .ok (.aload_n 0, 1) by decide +kernel) rfl ?_
  refine Ev_getI hq_207 (show decode prog_7_method_81_code 15 = .ok (.getfield 104, 3) by decide +kernel) rfl (SGn hS (by decide)) (SGk hS rfl) (by decide) rfl ?_
  refine Ev_putI hq_207 (show decode prog_7_method_81_code 18 = .ok (.putfield 289, 3) by decide +kernel) rfl (SGn hS (by decide)) (SGk hS rfl) (by decide) (by decide) rfl (fun hz => by cases hz) ?_
  obtain ⟨I3, eI3⟩ : ∃ I3 : zI, I3 = z_up I2 57 12 (I2 57 9) := ⟨_, rfl⟩
  have k := k I3 eI3
  rw [← eI3]
  refine Ev_iconst (v := 0) hq_207 (show decode prog_7_method_81_code 21 = .ok (.iconst 0, 1) by decide +kernel) (by decide) ?_
  refine Ev_istore_n (lo2 := [.ref 57, .int 0]) hq_207 (show decode prog_7_method_81_code 22 = .ok (.istore_n 1, 1) by decide +kernel) (z_le rfl) rfl ?_
  exact k
set_option maxRecDepth 20000 in
theorem wp_Z_image_23 {X : Nat × (Nat → Int32)} {d : Nat} {G : zG} {I : zI} {res : Option Value × zG × zI} (x1 : Int32) (hS : SG G) 
    (k : (20 ≤ x1 → res = (some (.int (I 57 0)), G, I)) ∧ (¬ 20 ≤ x1 → z_inr x1 20 ∧ (z_inr x1 20 ∧ (∀ I4 : zI, I4 = z_up I 64 x1.toNatClampNeg (I 60 x1.toNatClampNeg) → ∀ y5 : Int32, y5 = x1 + 1 → Ev X d 207 23 [.ref 57, .int y5] [] G I4 res)))) :
    Ev X d 207 23 [.ref 57, .int x1] [] G I res := by
  refine Ev_iload_n hq_207 (show decode prog_7_method_81_code 23 = .ok (.iload_n 1, 1) by decide +kernel) rfl ?_
  refine Ev_bipush (v := 20) hq_207 (show decode prog_7_method_81_code 24 = .ok (.bipush 20, 2) by decide +kernel) (by decide) ?_
  refine Ev_icmp_ge (tgt := 47) hq_207 (show decode prog_7_method_81_code 26 = .ok (.if_icmp .ge 21, 3) by decide +kernel) (by decide) (fun c1 => ?_) (fun c1 => ?_)
  · have k := k.1 c1
    refine Ev_aload_n hq_207 (show decode prog_7_method_81_code 47 = .ok (.aload_n 0, 1) by decide +kernel) rfl ?_
    refine Ev_getI hq_207 (show decode prog_7_method_81_code 48 = .ok (.getfield 87, 3) by decide +kernel) rfl (SGn hS (by decide)) (SGk hS rfl) (by decide) rfl ?_
    exact Ev_iret hq_207 (show decode prog_7_method_81_code 51 = .ok (.ireturn, 1) by decide +kernel) rfl k
  · have k := k.2 c1
    refine Ev_aload_n hq_207 (show decode prog_7_method_81_code 29 = .ok (.aload_n 0, 1) by decide +kernel) rfl ?_
    refine Ev_getR hq_207 (show decode prog_7_method_81_code 30 = .ok (.getfield 28, 3) by decide +kernel) rfl (SGn hS (by decide)) (SGk hS rfl) (by decide) rfl (SGr hS rfl) ?_
    refine Ev_iload_n hq_207 (show decode prog_7_method_81_code 33 = .ok (.iload_n 1, 1) by decide +kernel) rfl ?_
    refine Ev_aload_n hq_207 (show decode prog_7_method_81_code 34 = .ok (.aload_n 0, 1) by decide +kernel) rfl ?_
    refine Ev_getR hq_207 (show decode prog_7_method_81_code 35 = .ok (.getfield 16, 3) by decide +kernel) rfl (SGn hS (by decide)) (SGk hS rfl) (by decide) rfl (SGr hS rfl) ?_
    refine Ev_iload_n hq_207 (show decode prog_7_method_81_code 38 = .ok (.iload_n 1, 1) by decide +kernel) rfl ?_
    obtain ⟨h2, k⟩ := k
    refine Ev_iald hq_207 (show decode prog_7_method_81_code 39 = .ok (.iaload, 1) by decide +kernel) (SGn hS (by decide)) (SGk hS rfl) (SGi hS rfl h2) ?_
    obtain ⟨h3, k⟩ := k
    refine Ev_iast hq_207 (show decode prog_7_method_81_code 40 = .ok (.iastore, 1) by decide +kernel) (SGn hS (by decide)) (SGk hS rfl) (SGi hS rfl h3) ?_
    obtain ⟨I4, eI4⟩ : ∃ I4 : zI, I4 = z_up I 64 x1.toNatClampNeg (I 60 x1.toNatClampNeg) := ⟨_, rfl⟩
    have k := k I4 eI4
    rw [← eI4]
    obtain ⟨y5, ey5⟩ : ∃ y5 : Int32, y5 = x1 + 1 := ⟨_, rfl⟩
    have k := k y5 ey5
    refine Ev_iinc (v := y5) (lo2 := [.ref 57, .int y5]) hq_207 (show decode prog_7_method_81_code 41 = .ok (.iinc 1 1, 3) by decide +kernel) rfl (by rw [ey5]; rfl) rfl ?_
    refine Ev_goto (tgt := 23) hq_207 (show decode prog_7_method_81_code 44 = .ok (.goto (-21), 3) by decide +kernel) (by decide) ?_
    exact k
set_option maxRecDepth 20000 in
theorem wp_Z_back {X : Nat × (Nat → Int32)} {d : Nat} {G : zG} {I : zI} {res : Option Value × zG × zI}  (hS : SG G) 
    (k : (¬ (I 57 10) = 0 → (∀ I2 : zI, I2 = z_up I 57 0 (I 57 11) → (∀ I3 : zI, I3 = z_up I2 57 9 (I2 57 12) → Ev X d 208 28 [.ref 57, .int 0] [] G I3 res))) ∧ ((I 57 10) = 0 → res = (some (.int (-3)), G, I))) :
    Ev X d 208 0 [.ref 57, zU] [] G I res := by
  refine Ev_aload_n hq_208 (show decode prog_7_method_82_code 0 = .ok (.aload_n 0, 1) by decide +kernel) rfl ?_
  refine Ev_getI hq_208 (show decode prog_7_method_82_code 1 = .ok (.getfield 282, 3) by decide +kernel) rfl (SGn hS (by decide)) (SGk hS rfl) (by decide) rfl ?_
  refine Ev_if_ne (tgt := 10) hq_208 (show decode prog_7_method_82_code 4 = .ok (.ifCond .ne 6, 3) by decide +kernel) (by decide) (fun c1 => ?_) (fun c1 => ?_)
  · have k := k.1 c1
    refine Ev_aload_n hq_208 (show decode prog_7_method_82_code 10 = .ok (.aload_n 0, 1) by decide +kernel) rfl ?_
    refine Ev_aload_n hq_208 (show decode prog_7_method_82_code 11 = .ok (.aload_n 0, 1) by decide +kernel) rfl ?_
    refine Ev_getI hq_208 (show decode prog_7_method_82_code 12 = .ok (.getfield 286, 3) by decide +kernel) rfl (SGn hS (by decide)) (SGk hS rfl) (by decide) rfl ?_
    refine Ev_putI hq_208 (show decode prog_7_method_82_code 15 = .ok (.putfield 87, 3) by decide +kernel) rfl (SGn hS (by decide)) (SGk hS rfl) (by decide) (by decide) rfl (fun hz => by cases hz) ?_
    obtain ⟨I2, eI2⟩ : ∃ I2 : zI, I2 = z_up I 57 0 (I 57 11) := ⟨_, rfl⟩
    have k := k I2 eI2
    rw [← eI2]
    refine Ev_aload_n hq_208 (show decode prog_7_method_82_code 18 = .ok (.aload_n 0, 1) by decide +kernel) rfl ?_
    refine Ev_aload_n hq_208 (show decode prog_7_method_82_code 19 = .ok (.aload_n 0, 1) by decide +kernel) rfl ?_
    refine Ev_getI hq_208 (show decode prog_7_method_82_code 20 = .ok (.getfield 289, 3) by decide +kernel) rfl (SGn hS (by decide)) (SGk hS rfl) (by decide) rfl ?_
    refine Ev_putI hq_208 (show decode prog_7_method_82_code 23 = .ok (.putfield 104, 3) by decide +kernel) rfl (SGn hS (by decide)) (SGk hS rfl) (by decide) (by decide) rfl (fun hz => by cases hz) ?_
    obtain ⟨I3, eI3⟩ : ∃ I3 : zI, I3 = z_up I2 57 9 (I2 57 12) := ⟨_, rfl⟩
    have k := k I3 eI3
    rw [← eI3]
    refine Ev_iconst (v := 0) hq_208 (show decode prog_7_method_82_code 26 = .ok (.iconst 0, 1) by decide +kernel) (by decide) ?_
    refine Ev_istore_n (lo2 := [.ref 57, .int 0]) hq_208 (show decode prog_7_method_82_code 27 = .ok (.istore_n 1, 1) by decide +kernel) (z_le rfl) rfl ?_
    exact k
  · have k := k.2 (Classical.not_not.mp c1)
    refine Ev_bipush (v := (-3)) hq_208 (show decode prog_7_method_82_code 7 = .ok (.bipush (-3), 2) by decide +kernel) (by decide) ?_
    exact Ev_iret hq_208 (show decode prog_7_method_82_code 9 = .ok (.ireturn, 1) by decide +kernel) rfl k
set_option maxRecDepth 20000 in
theorem wp_Z_back_28 {X : Nat × (Nat → Int32)} {d : Nat} {G : zG} {I : zI} {res : Option Value × zG × zI} (x1 : Int32) (hS : SG G) 
    (k : (20 ≤ x1 → res = (some (.int (I 57 0)), G, I)) ∧ (¬ 20 ≤ x1 → z_inr x1 20 ∧ (z_inr x1 20 ∧ (∀ I4 : zI, I4 = z_up I 60 x1.toNatClampNeg (I 64 x1.toNatClampNeg) → ∀ y5 : Int32, y5 = x1 + 1 → Ev X d 208 28 [.ref 57, .int y5] [] G I4 res)))) :
    Ev X d 208 28 [.ref 57, .int x1] [] G I res := by
  refine Ev_iload_n hq_208 (show decode prog_7_method_82_code 28 = .ok (.iload_n 1, 1) by decide +kernel) rfl ?_
  refine Ev_bipush (v := 20) hq_208 (show decode prog_7_method_82_code 29 = .ok (.bipush 20, 2) by decide +kernel) (by decide) ?_
  refine Ev_icmp_ge (tgt := 52) hq_208 (show decode prog_7_method_82_code 31 = .ok (.if_icmp .ge 21, 3) by decide +kernel) (by decide) (fun c1 => ?_) (fun c1 => ?_)
  · have k := k.1 c1
    refine Ev_aload_n hq_208 (show decode prog_7_method_82_code 52 = .ok (.aload_n 0, 1) by decide +kernel) rfl ?_
    refine Ev_getI hq_208 (show decode prog_7_method_82_code 53 = .ok (.getfield 87, 3) by decide +kernel) rfl (SGn hS (by decide)) (SGk hS rfl) (by decide) rfl ?_
    exact Ev_iret hq_208 (show decode prog_7_method_82_code 56 = .ok (.ireturn, 1) by decide +kernel) rfl k
  · have k := k.2 c1
    refine Ev_aload_n hq_208 (show decode prog_7_method_82_code 34 = .ok (.aload_n 0, 1) by decide +kernel) rfl ?_
    refine Ev_getR hq_208 (show decode prog_7_method_82_code 35 = .ok (.getfield 16, 3) by decide +kernel) rfl (SGn hS (by decide)) (SGk hS rfl) (by decide) rfl (SGr hS rfl) ?_
    refine Ev_iload_n hq_208 (show decode prog_7_method_82_code 38 = .ok (.iload_n 1, 1) by decide +kernel) rfl ?_
    refine Ev_aload_n hq_208 (show decode prog_7_method_82_code 39 = .ok (.aload_n 0, 1) by decide +kernel) rfl ?_
    refine Ev_getR hq_208 (show decode prog_7_method_82_code 40 = .ok (.getfield 28, 3) by decide +kernel) rfl (SGn hS (by decide)) (SGk hS rfl) (by decide) rfl (SGr hS rfl) ?_
    refine Ev_iload_n hq_208 (show decode prog_7_method_82_code 43 = .ok (.iload_n 1, 1) by decide +kernel) rfl ?_
    obtain ⟨h2, k⟩ := k
    refine Ev_iald hq_208 (show decode prog_7_method_82_code 44 = .ok (.iaload, 1) by decide +kernel) (SGn hS (by decide)) (SGk hS rfl) (SGi hS rfl h2) ?_
    obtain ⟨h3, k⟩ := k
    refine Ev_iast hq_208 (show decode prog_7_method_82_code 45 = .ok (.iastore, 1) by decide +kernel) (SGn hS (by decide)) (SGk hS rfl) (SGi hS rfl h3) ?_
    obtain ⟨I4, eI4⟩ : ∃ I4 : zI, I4 = z_up I 60 x1.toNatClampNeg (I 64 x1.toNatClampNeg) := ⟨_, rfl⟩
    have k := k I4 eI4
    rw [← eI4]
    obtain ⟨y5, ey5⟩ : ∃ y5 : Int32, y5 = x1 + 1 := ⟨_, rfl⟩
    have k := k y5 ey5
    refine Ev_iinc (v := y5) (lo2 := [.ref 57, .int y5]) hq_208 (show decode prog_7_method_82_code 46 = .ok (.iinc 1 1, 3) by decide +kernel) rfl (by rw [ey5]; rfl) rfl ?_
    refine Ev_goto (tgt := 28) hq_208 (show decode prog_7_method_82_code 49 = .ok (.goto (-21), 3) by decide +kernel) (by decide) ?_
    exact k
set_option maxRecDepth 20000 in
theorem wp_Z_sheet {X : Nat × (Nat → Int32)} {d : Nat} {G : zG} {I : zI} {res : Option Value × zG × zI} (x1 : Int32) (x2 : Int32) (x3 : Int32) (hS : SG G) 
    (k : ∃ (r3 : Int32) (I1 : zI), Cv X d 131 [.int x1, .int 0, .int 3] G I (some (.int r3), G, I1) ∧ ((r3 = 0 → res = (some (.int (-2)), G, I1)) ∧ (¬ r3 = 0 → ∃ (r7 : Int32) (I5 : zI), Cv X d 131 [.int x2, .int (-1), .int 2] G I1 (some (.int r7), G, I5) ∧ ((r7 = 0 → res = (some (.int (-2)), G, I5)) ∧ (¬ r7 = 0 → (x2 = (-1) → (x2 = (-1) → z_inr x1 4 ∧ (∀ I12 : zI, I12 = z_up I5 65 x1.toNatClampNeg x2 → (¬ x2 = (-1) → z_inr x1 4 ∧ (∀ I15 : zI, I15 = z_up I12 66 x1.toNatClampNeg x3 → Ev X (d + 1) 209 70 [.ref 57, .int x1, .int x2, .int x3, .int 0] [] G I15 res)) ∧ (x2 = (-1) → z_inr x1 4 ∧ (∀ I17 : zI, I17 = z_up I12 66 x1.toNatClampNeg 0 → Ev X (d + 1) 209 70 [.ref 57, .int x1, .int x2, .int x3, .int 0] [] G I17 res)))) ∧ (¬ x2 = (-1) → (0 ≤ x3 → z_inr x1 4 ∧ (∀ I20 : zI, I20 = z_up I5 65 x1.toNatClampNeg x2 → (¬ x2 = (-1) → z_inr x1 4 ∧ (∀ I23 : zI, I23 = z_up I20 66 x1.toNatClampNeg x3 → Ev X (d + 1) 209 70 [.ref 57, .int x1, .int x2, .int x3, .int 0] [] G I23 res)) ∧ (x2 = (-1) → z_inr x1 4 ∧ (∀ I25 : zI, I25 = z_up I20 66 x1.toNatClampNeg 0 → Ev X (d + 1) 209 70 [.ref 57, .int x1, .int x2, .int x3, .int 0] [] G I25 res)))) ∧ (¬ 0 ≤ x3 → res = (some (.int (-14)), G, I5)))) ∧ (¬ x2 = (-1) → (x3 ≤ 40 → (x2 = (-1) → z_inr x1 4 ∧ (∀ I29 : zI, I29 = z_up I5 65 x1.toNatClampNeg x2 → (¬ x2 = (-1) → z_inr x1 4 ∧ (∀ I32 : zI, I32 = z_up I29 66 x1.toNatClampNeg x3 → Ev X (d + 1) 209 70 [.ref 57, .int x1, .int x2, .int x3, .int 0] [] G I32 res)) ∧ (x2 = (-1) → z_inr x1 4 ∧ (∀ I34 : zI, I34 = z_up I29 66 x1.toNatClampNeg 0 → Ev X (d + 1) 209 70 [.ref 57, .int x1, .int x2, .int x3, .int 0] [] G I34 res)))) ∧ (¬ x2 = (-1) → (0 ≤ x3 → z_inr x1 4 ∧ (∀ I37 : zI, I37 = z_up I5 65 x1.toNatClampNeg x2 → (¬ x2 = (-1) → z_inr x1 4 ∧ (∀ I40 : zI, I40 = z_up I37 66 x1.toNatClampNeg x3 → Ev X (d + 1) 209 70 [.ref 57, .int x1, .int x2, .int x3, .int 0] [] G I40 res)) ∧ (x2 = (-1) → z_inr x1 4 ∧ (∀ I42 : zI, I42 = z_up I37 66 x1.toNatClampNeg 0 → Ev X (d + 1) 209 70 [.ref 57, .int x1, .int x2, .int x3, .int 0] [] G I42 res)))) ∧ (¬ 0 ≤ x3 → res = (some (.int (-14)), G, I5)))) ∧ (¬ x3 ≤ 40 → res = (some (.int (-2)), G, I5)))))))) :
    Ev X (d + 1) 209 0 [.ref 57, .int x1, .int x2, .int x3, zU] [] G I res := by
  refine Ev_iload_n hq_209 (show decode prog_7_method_83_code 0 = .ok (.iload_n 1, 1) by decide +kernel) rfl ?_
  refine Ev_iconst (v := 0) hq_209 (show decode prog_7_method_83_code 1 = .ok (.iconst 0, 1) by decide +kernel) (by decide) ?_
  refine Ev_iconst (v := 3) hq_209 (show decode prog_7_method_83_code 2 = .ok (.iconst 3, 1) by decide +kernel) (by decide) ?_
  obtain ⟨r3, I1, h2, k⟩ := k
  refine Ev_stat (as := [.int x1, .int 0, .int 3]) hq_209 (show decode prog_7_method_83_code 3 = .ok (.invokestatic 90, 3) by decide +kernel) rfl (Or.inl rfl) hq_131 rfl (z_le rfl) h2 ?_
  refine Ev_if_eq (tgt := 29) hq_209 (show decode prog_7_method_83_code 6 = .ok (.ifCond .eq 23, 3) by decide +kernel) (by decide) (fun c4 => ?_) (fun c4 => ?_)
  · have k := k.1 c4
    refine Ev_bipush (v := (-2)) hq_209 (show decode prog_7_method_83_code 29 = .ok (.bipush (-2), 2) by decide +kernel) (by decide) ?_
    exact Ev_iret hq_209 (show decode prog_7_method_83_code 31 = .ok (.ireturn, 1) by decide +kernel) rfl k
  · have k := k.2 c4
    refine Ev_iload_n hq_209 (show decode prog_7_method_83_code 9 = .ok (.iload_n 2, 1) by decide +kernel) rfl ?_
    refine Ev_iconst (v := (-1)) hq_209 (show decode prog_7_method_83_code 10 = .ok (.iconst (-1), 1) by decide +kernel) (by decide) ?_
    refine Ev_iconst (v := 2) hq_209 (show decode prog_7_method_83_code 11 = .ok (.iconst 2, 1) by decide +kernel) (by decide) ?_
    obtain ⟨r7, I5, h6, k⟩ := k
    refine Ev_stat (as := [.int x2, .int (-1), .int 2]) hq_209 (show decode prog_7_method_83_code 12 = .ok (.invokestatic 90, 3) by decide +kernel) rfl (Or.inl rfl) hq_131 rfl (z_le rfl) h6 ?_
    refine Ev_if_eq (tgt := 29) hq_209 (show decode prog_7_method_83_code 15 = .ok (.ifCond .eq 14, 3) by decide +kernel) (by decide) (fun c8 => ?_) (fun c8 => ?_)
    · have k := k.1 c8
      refine Ev_bipush (v := (-2)) hq_209 (show decode prog_7_method_83_code 29 = .ok (.bipush (-2), 2) by decide +kernel) (by decide) ?_
      exact Ev_iret hq_209 (show decode prog_7_method_83_code 31 = .ok (.ireturn, 1) by decide +kernel) rfl k
    · have k := k.2 c8
      refine Ev_iload_n hq_209 (show decode prog_7_method_83_code 18 = .ok (.iload_n 2, 1) by decide +kernel) rfl ?_
      refine Ev_iconst (v := (-1)) hq_209 (show decode prog_7_method_83_code 19 = .ok (.iconst (-1), 1) by decide +kernel) (by decide) ?_
      refine Ev_icmp_eq (tgt := 32) hq_209 (show decode prog_7_method_83_code 20 = .ok (.if_icmp .eq 12, 3) by decide +kernel) (by decide) (fun c9 => ?_) (fun c9 => ?_)
      · have k := k.1 c9
        refine Ev_iload_n hq_209 (show decode prog_7_method_83_code 32 = .ok (.iload_n 2, 1) by decide +kernel) rfl ?_
        refine Ev_iconst (v := (-1)) hq_209 (show decode prog_7_method_83_code 33 = .ok (.iconst (-1), 1) by decide +kernel) (by decide) ?_
        refine Ev_icmp_eq (tgt := 44) hq_209 (show decode prog_7_method_83_code 34 = .ok (.if_icmp .eq 10, 3) by decide +kernel) (by decide) (fun c10 => ?_) (fun c10 => ?_)
        · have k := k.1 c10
          refine Ev_aload_n hq_209 (show decode prog_7_method_83_code 44 = .ok (.aload_n 0, 1) by decide +kernel) rfl ?_
          refine Ev_getR hq_209 (show decode prog_7_method_83_code 45 = .ok (.getfield 31, 3) by decide +kernel) rfl (SGn hS (by decide)) (SGk hS rfl) (by decide) rfl (SGr hS rfl) ?_
          refine Ev_iload_n hq_209 (show decode prog_7_method_83_code 48 = .ok (.iload_n 1, 1) by decide +kernel) rfl ?_
          refine Ev_iload_n hq_209 (show decode prog_7_method_83_code 49 = .ok (.iload_n 2, 1) by decide +kernel) rfl ?_
          obtain ⟨h11, k⟩ := k
          refine Ev_iast hq_209 (show decode prog_7_method_83_code 50 = .ok (.iastore, 1) by decide +kernel) (SGn hS (by decide)) (SGk hS rfl) (SGi hS rfl h11) ?_
          obtain ⟨I12, eI12⟩ : ∃ I12 : zI, I12 = z_up I5 65 x1.toNatClampNeg x2 := ⟨_, rfl⟩
          have k := k I12 eI12
          rw [← eI12]
          refine Ev_aload_n hq_209 (show decode prog_7_method_83_code 51 = .ok (.aload_n 0, 1) by decide +kernel) rfl ?_
          refine Ev_getR hq_209 (show decode prog_7_method_83_code 52 = .ok (.getfield 34, 3) by decide +kernel) rfl (SGn hS (by decide)) (SGk hS rfl) (by decide) rfl (SGr hS rfl) ?_
          refine Ev_iload_n hq_209 (show decode prog_7_method_83_code 55 = .ok (.iload_n 1, 1) by decide +kernel) rfl ?_
          refine Ev_iload_n hq_209 (show decode prog_7_method_83_code 56 = .ok (.iload_n 2, 1) by decide +kernel) rfl ?_
          refine Ev_iconst (v := (-1)) hq_209 (show decode prog_7_method_83_code 57 = .ok (.iconst (-1), 1) by decide +kernel) (by decide) ?_
          refine Ev_icmp_ne (tgt := 65) hq_209 (show decode prog_7_method_83_code 58 = .ok (.if_icmp .ne 7, 3) by decide +kernel) (by decide) (fun c13 => ?_) (fun c13 => ?_)
          · have k := k.1 c13
            refine Ev_iload_n hq_209 (show decode prog_7_method_83_code 65 = .ok (.iload_n 3, 1) by decide +kernel) rfl ?_
            obtain ⟨h14, k⟩ := k
            refine Ev_iast hq_209 (show decode prog_7_method_83_code 66 = .ok (.iastore, 1) by decide +kernel) (SGn hS (by decide)) (SGk hS rfl) (SGi hS rfl h14) ?_
            obtain ⟨I15, eI15⟩ : ∃ I15 : zI, I15 = z_up I12 66 x1.toNatClampNeg x3 := ⟨_, rfl⟩
            have k := k I15 eI15
            rw [← eI15]
            refine Ev_iconst (v := 0) hq_209 (show decode prog_7_method_83_code 67 = .ok (.iconst 0, 1) by decide +kernel) (by decide) ?_
            refine Ev_istore (lo2 := [.ref 57, .int x1, .int x2, .int x3, .int 0]) hq_209 (show decode prog_7_method_83_code 68 = .ok (.istore 4, 2) by decide +kernel) (z_le rfl) rfl ?_
            exact k
          · have k := k.2 (Classical.not_not.mp c13)
            refine Ev_iconst (v := 0) hq_209 (show decode prog_7_method_83_code 61 = .ok (.iconst 0, 1) by decide +kernel) (by decide) ?_
            refine Ev_goto (tgt := 66) hq_209 (show decode prog_7_method_83_code 62 = .ok (.goto 4, 3) by decide +kernel) (by decide) ?_
            obtain ⟨h16, k⟩ := k
            refine Ev_iast hq_209 (show decode prog_7_method_83_code 66 = .ok (.iastore, 1) by decide +kernel) (SGn hS (by decide)) (SGk hS rfl) (SGi hS rfl h16) ?_
            obtain ⟨I17, eI17⟩ : ∃ I17 : zI, I17 = z_up I12 66 x1.toNatClampNeg 0 := ⟨_, rfl⟩
            have k := k I17 eI17
            rw [← eI17]
            refine Ev_iconst (v := 0) hq_209 (show decode prog_7_method_83_code 67 = .ok (.iconst 0, 1) by decide +kernel) (by decide) ?_
            refine Ev_istore (lo2 := [.ref 57, .int x1, .int x2, .int x3, .int 0]) hq_209 (show decode prog_7_method_83_code 68 = .ok (.istore 4, 2) by decide +kernel) (z_le rfl) rfl ?_
            exact k
        · have k := k.2 c10
          refine Ev_iload_n hq_209 (show decode prog_7_method_83_code 37 = .ok (.iload_n 3, 1) by decide +kernel) rfl ?_
          refine Ev_if_ge (tgt := 44) hq_209 (show decode prog_7_method_83_code 38 = .ok (.ifCond .ge 6, 3) by decide +kernel) (by decide) (fun c18 => ?_) (fun c18 => ?_)
          · have k := k.1 c18
            refine Ev_aload_n hq_209 (show decode prog_7_method_83_code 44 = .ok (.aload_n 0, 1) by decide +kernel) rfl ?_
            refine Ev_getR hq_209 (show decode prog_7_method_83_code 45 = .ok (.getfield 31, 3) by decide +kernel) rfl (SGn hS (by decide)) (SGk hS rfl) (by decide) rfl (SGr hS rfl) ?_
            refine Ev_iload_n hq_209 (show decode prog_7_method_83_code 48 = .ok (.iload_n 1, 1) by decide +kernel) rfl ?_
            refine Ev_iload_n hq_209 (show decode prog_7_method_83_code 49 = .ok (.iload_n 2, 1) by decide +kernel) rfl ?_
            obtain ⟨h19, k⟩ := k
            refine Ev_iast hq_209 (show decode prog_7_method_83_code 50 = .ok (.iastore, 1) by decide +kernel) (SGn hS (by decide)) (SGk hS rfl) (SGi hS rfl h19) ?_
            obtain ⟨I20, eI20⟩ : ∃ I20 : zI, I20 = z_up I5 65 x1.toNatClampNeg x2 := ⟨_, rfl⟩
            have k := k I20 eI20
            rw [← eI20]
            refine Ev_aload_n hq_209 (show decode prog_7_method_83_code 51 = .ok (.aload_n 0, 1) by decide +kernel) rfl ?_
            refine Ev_getR hq_209 (show decode prog_7_method_83_code 52 = .ok (.getfield 34, 3) by decide +kernel) rfl (SGn hS (by decide)) (SGk hS rfl) (by decide) rfl (SGr hS rfl) ?_
            refine Ev_iload_n hq_209 (show decode prog_7_method_83_code 55 = .ok (.iload_n 1, 1) by decide +kernel) rfl ?_
            refine Ev_iload_n hq_209 (show decode prog_7_method_83_code 56 = .ok (.iload_n 2, 1) by decide +kernel) rfl ?_
            refine Ev_iconst (v := (-1)) hq_209 (show decode prog_7_method_83_code 57 = .ok (.iconst (-1), 1) by decide +kernel) (by decide) ?_
            refine Ev_icmp_ne (tgt := 65) hq_209 (show decode prog_7_method_83_code 58 = .ok (.if_icmp .ne 7, 3) by decide +kernel) (by decide) (fun c21 => ?_) (fun c21 => ?_)
            · have k := k.1 c21
              refine Ev_iload_n hq_209 (show decode prog_7_method_83_code 65 = .ok (.iload_n 3, 1) by decide +kernel) rfl ?_
              obtain ⟨h22, k⟩ := k
              refine Ev_iast hq_209 (show decode prog_7_method_83_code 66 = .ok (.iastore, 1) by decide +kernel) (SGn hS (by decide)) (SGk hS rfl) (SGi hS rfl h22) ?_
              obtain ⟨I23, eI23⟩ : ∃ I23 : zI, I23 = z_up I20 66 x1.toNatClampNeg x3 := ⟨_, rfl⟩
              have k := k I23 eI23
              rw [← eI23]
              refine Ev_iconst (v := 0) hq_209 (show decode prog_7_method_83_code 67 = .ok (.iconst 0, 1) by decide +kernel) (by decide) ?_
              refine Ev_istore (lo2 := [.ref 57, .int x1, .int x2, .int x3, .int 0]) hq_209 (show decode prog_7_method_83_code 68 = .ok (.istore 4, 2) by decide +kernel) (z_le rfl) rfl ?_
              exact k
            · have k := k.2 (Classical.not_not.mp c21)
              refine Ev_iconst (v := 0) hq_209 (show decode prog_7_method_83_code 61 = .ok (.iconst 0, 1) by decide +kernel) (by decide) ?_
              refine Ev_goto (tgt := 66) hq_209 (show decode prog_7_method_83_code 62 = .ok (.goto 4, 3) by decide +kernel) (by decide) ?_
              obtain ⟨h24, k⟩ := k
              refine Ev_iast hq_209 (show decode prog_7_method_83_code 66 = .ok (.iastore, 1) by decide +kernel) (SGn hS (by decide)) (SGk hS rfl) (SGi hS rfl h24) ?_
              obtain ⟨I25, eI25⟩ : ∃ I25 : zI, I25 = z_up I20 66 x1.toNatClampNeg 0 := ⟨_, rfl⟩
              have k := k I25 eI25
              rw [← eI25]
              refine Ev_iconst (v := 0) hq_209 (show decode prog_7_method_83_code 67 = .ok (.iconst 0, 1) by decide +kernel) (by decide) ?_
              refine Ev_istore (lo2 := [.ref 57, .int x1, .int x2, .int x3, .int 0]) hq_209 (show decode prog_7_method_83_code 68 = .ok (.istore 4, 2) by decide +kernel) (z_le rfl) rfl ?_
              exact k
          · have k := k.2 c18
            refine Ev_bipush (v := (-14)) hq_209 (show decode prog_7_method_83_code 41 = .ok (.bipush (-14), 2) by decide +kernel) (by decide) ?_
            exact Ev_iret hq_209 (show decode prog_7_method_83_code 43 = .ok (.ireturn, 1) by decide +kernel) rfl k
      · have k := k.2 c9
        refine Ev_iload_n hq_209 (show decode prog_7_method_83_code 23 = .ok (.iload_n 3, 1) by decide +kernel) rfl ?_
        refine Ev_bipush (v := 40) hq_209 (show decode prog_7_method_83_code 24 = .ok (.bipush 40, 2) by decide +kernel) (by decide) ?_
        refine Ev_icmp_le (tgt := 32) hq_209 (show decode prog_7_method_83_code 26 = .ok (.if_icmp .le 6, 3) by decide +kernel) (by decide) (fun c26 => ?_) (fun c26 => ?_)
        · have k := k.1 c26
          refine Ev_iload_n hq_209 (show decode prog_7_method_83_code 32 = .ok (.iload_n 2, 1) by decide +kernel) rfl ?_
          refine Ev_iconst (v := (-1)) hq_209 (show decode prog_7_method_83_code 33 = .ok (.iconst (-1), 1) by decide +kernel) (by decide) ?_
          refine Ev_icmp_eq (tgt := 44) hq_209 (show decode prog_7_method_83_code 34 = .ok (.if_icmp .eq 10, 3) by decide +kernel) (by decide) (fun c27 => ?_) (fun c27 => ?_)
          · have k := k.1 c27
            refine Ev_aload_n hq_209 (show decode prog_7_method_83_code 44 = .ok (.aload_n 0, 1) by decide +kernel) rfl ?_
            refine Ev_getR hq_209 (show decode prog_7_method_83_code 45 = .ok (.getfield 31, 3) by decide +kernel) rfl (SGn hS (by decide)) (SGk hS rfl) (by decide) rfl (SGr hS rfl) ?_
            refine Ev_iload_n hq_209 (show decode prog_7_method_83_code 48 = .ok (.iload_n 1, 1) by decide +kernel) rfl ?_
            refine Ev_iload_n hq_209 (show decode prog_7_method_83_code 49 = .ok (.iload_n 2, 1) by decide +kernel) rfl ?_
            obtain ⟨h28, k⟩ := k
            refine Ev_iast hq_209 (show decode prog_7_method_83_code 50 = .ok (.iastore, 1) by decide +kernel) (SGn hS (by decide)) (SGk hS rfl) (SGi hS rfl h28) ?_
            obtain ⟨I29, eI29⟩ : ∃ I29 : zI, I29 = z_up I5 65 x1.toNatClampNeg x2 := ⟨_, rfl⟩
            have k := k I29 eI29
            rw [← eI29]
            refine Ev_aload_n hq_209 (show decode prog_7_method_83_code 51 = .ok (.aload_n 0, 1) by decide +kernel) rfl ?_
            refine Ev_getR hq_209 (show decode prog_7_method_83_code 52 = .ok (.getfield 34, 3) by decide +kernel) rfl (SGn hS (by decide)) (SGk hS rfl) (by decide) rfl (SGr hS rfl) ?_
            refine Ev_iload_n hq_209 (show decode prog_7_method_83_code 55 = .ok (.iload_n 1, 1) by decide +kernel) rfl ?_
            refine Ev_iload_n hq_209 (show decode prog_7_method_83_code 56 = .ok (.iload_n 2, 1) by decide +kernel) rfl ?_
            refine Ev_iconst (v := (-1)) hq_209 (show decode prog_7_method_83_code 57 = .ok (.iconst (-1), 1) by decide +kernel) (by decide) ?_
            refine Ev_icmp_ne (tgt := 65) hq_209 (show decode prog_7_method_83_code 58 = .ok (.if_icmp .ne 7, 3) by decide +kernel) (by decide) (fun c30 => ?_) (fun c30 => ?_)
            · have k := k.1 c30
              refine Ev_iload_n hq_209 (show decode prog_7_method_83_code 65 = .ok (.iload_n 3, 1) by decide +kernel) rfl ?_
              obtain ⟨h31, k⟩ := k
              refine Ev_iast hq_209 (show decode prog_7_method_83_code 66 = .ok (.iastore, 1) by decide +kernel) (SGn hS (by decide)) (SGk hS rfl) (SGi hS rfl h31) ?_
              obtain ⟨I32, eI32⟩ : ∃ I32 : zI, I32 = z_up I29 66 x1.toNatClampNeg x3 := ⟨_, rfl⟩
              have k := k I32 eI32
              rw [← eI32]
              refine Ev_iconst (v := 0) hq_209 (show decode prog_7_method_83_code 67 = .ok (.iconst 0, 1) by decide +kernel) (by decide) ?_
              refine Ev_istore (lo2 := [.ref 57, .int x1, .int x2, .int x3, .int 0]) hq_209 (show decode prog_7_method_83_code 68 = .ok (.istore 4, 2) by decide +kernel) (z_le rfl) rfl ?_
              exact k
            · have k := k.2 (Classical.not_not.mp c30)
              refine Ev_iconst (v := 0) hq_209 (show decode prog_7_method_83_code 61 = .ok (.iconst 0, 1) by decide +kernel) (by decide) ?_
              refine Ev_goto (tgt := 66) hq_209 (show decode prog_7_method_83_code 62 = .ok (.goto 4, 3) by decide +kernel) (by decide) ?_
              obtain ⟨h33, k⟩ := k
              refine Ev_iast hq_209 (show decode prog_7_method_83_code 66 = .ok (.iastore, 1) by decide +kernel) (SGn hS (by decide)) (SGk hS rfl) (SGi hS rfl h33) ?_
              obtain ⟨I34, eI34⟩ : ∃ I34 : zI, I34 = z_up I29 66 x1.toNatClampNeg 0 := ⟨_, rfl⟩
              have k := k I34 eI34
              rw [← eI34]
              refine Ev_iconst (v := 0) hq_209 (show decode prog_7_method_83_code 67 = .ok (.iconst 0, 1) by decide +kernel) (by decide) ?_
              refine Ev_istore (lo2 := [.ref 57, .int x1, .int x2, .int x3, .int 0]) hq_209 (show decode prog_7_method_83_code 68 = .ok (.istore 4, 2) by decide +kernel) (z_le rfl) rfl ?_
              exact k
          · have k := k.2 c27
            refine Ev_iload_n hq_209 (show decode prog_7_method_83_code 37 = .ok (.iload_n 3, 1) by decide +kernel) rfl ?_
            refine Ev_if_ge (tgt := 44) hq_209 (show decode prog_7_method_83_code 38 = .ok (.ifCond .ge 6, 3) by decide +kernel) (by decide) (fun c35 => ?_) (fun c35 => ?_)
            · have k := k.1 c35
              refine Ev_aload_n hq_209 (show decode prog_7_method_83_code 44 = .ok (.aload_n 0, 1) by decide +kernel) rfl ?_
              refine Ev_getR hq_209 (show decode prog_7_method_83_code 45 = .ok (.getfield 31, 3) by decide +kernel) rfl (SGn hS (by decide)) (SGk hS rfl) (by decide) rfl (SGr hS rfl) ?_
              refine Ev_iload_n hq_209 (show decode prog_7_method_83_code 48 = .ok (.iload_n 1, 1) by decide +kernel) rfl ?_
              refine Ev_iload_n hq_209 (show decode prog_7_method_83_code 49 = .ok (.iload_n 2, 1) by decide +kernel) rfl ?_
              obtain ⟨h36, k⟩ := k
              refine Ev_iast hq_209 (show decode prog_7_method_83_code 50 = .ok (.iastore, 1) by decide +kernel) (SGn hS (by decide)) (SGk hS rfl) (SGi hS rfl h36) ?_
              obtain ⟨I37, eI37⟩ : ∃ I37 : zI, I37 = z_up I5 65 x1.toNatClampNeg x2 := ⟨_, rfl⟩
              have k := k I37 eI37
              rw [← eI37]
              refine Ev_aload_n hq_209 (show decode prog_7_method_83_code 51 = .ok (.aload_n 0, 1) by decide +kernel) rfl ?_
              refine Ev_getR hq_209 (show decode prog_7_method_83_code 52 = .ok (.getfield 34, 3) by decide +kernel) rfl (SGn hS (by decide)) (SGk hS rfl) (by decide) rfl (SGr hS rfl) ?_
              refine Ev_iload_n hq_209 (show decode prog_7_method_83_code 55 = .ok (.iload_n 1, 1) by decide +kernel) rfl ?_
              refine Ev_iload_n hq_209 (show decode prog_7_method_83_code 56 = .ok (.iload_n 2, 1) by decide +kernel) rfl ?_
              refine Ev_iconst (v := (-1)) hq_209 (show decode prog_7_method_83_code 57 = .ok (.iconst (-1), 1) by decide +kernel) (by decide) ?_
              refine Ev_icmp_ne (tgt := 65) hq_209 (show decode prog_7_method_83_code 58 = .ok (.if_icmp .ne 7, 3) by decide +kernel) (by decide) (fun c38 => ?_) (fun c38 => ?_)
              · have k := k.1 c38
                refine Ev_iload_n hq_209 (show decode prog_7_method_83_code 65 = .ok (.iload_n 3, 1) by decide +kernel) rfl ?_
                obtain ⟨h39, k⟩ := k
                refine Ev_iast hq_209 (show decode prog_7_method_83_code 66 = .ok (.iastore, 1) by decide +kernel) (SGn hS (by decide)) (SGk hS rfl) (SGi hS rfl h39) ?_
                obtain ⟨I40, eI40⟩ : ∃ I40 : zI, I40 = z_up I37 66 x1.toNatClampNeg x3 := ⟨_, rfl⟩
                have k := k I40 eI40
                rw [← eI40]
                refine Ev_iconst (v := 0) hq_209 (show decode prog_7_method_83_code 67 = .ok (.iconst 0, 1) by decide +kernel) (by decide) ?_
                refine Ev_istore (lo2 := [.ref 57, .int x1, .int x2, .int x3, .int 0]) hq_209 (show decode prog_7_method_83_code 68 = .ok (.istore 4, 2) by decide +kernel) (z_le rfl) rfl ?_
                exact k
              · have k := k.2 (Classical.not_not.mp c38)
                refine Ev_iconst (v := 0) hq_209 (show decode prog_7_method_83_code 61 = .ok (.iconst 0, 1) by decide +kernel) (by decide) ?_
                refine Ev_goto (tgt := 66) hq_209 (show decode prog_7_method_83_code 62 = .ok (.goto 4, 3) by decide +kernel) (by decide) ?_
                obtain ⟨h41, k⟩ := k
                refine Ev_iast hq_209 (show decode prog_7_method_83_code 66 = .ok (.iastore, 1) by decide +kernel) (SGn hS (by decide)) (SGk hS rfl) (SGi hS rfl h41) ?_
                obtain ⟨I42, eI42⟩ : ∃ I42 : zI, I42 = z_up I37 66 x1.toNatClampNeg 0 := ⟨_, rfl⟩
                have k := k I42 eI42
                rw [← eI42]
                refine Ev_iconst (v := 0) hq_209 (show decode prog_7_method_83_code 67 = .ok (.iconst 0, 1) by decide +kernel) (by decide) ?_
                refine Ev_istore (lo2 := [.ref 57, .int x1, .int x2, .int x3, .int 0]) hq_209 (show decode prog_7_method_83_code 68 = .ok (.istore 4, 2) by decide +kernel) (z_le rfl) rfl ?_
                exact k
            · have k := k.2 c35
              refine Ev_bipush (v := (-14)) hq_209 (show decode prog_7_method_83_code 41 = .ok (.bipush (-14), 2) by decide +kernel) (by decide) ?_
              exact Ev_iret hq_209 (show decode prog_7_method_83_code 43 = .ok (.ireturn, 1) by decide +kernel) rfl k
        · have k := k.2 c26
          refine Ev_bipush (v := (-2)) hq_209 (show decode prog_7_method_83_code 29 = .ok (.bipush (-2), 2) by decide +kernel) (by decide) ?_
          exact Ev_iret hq_209 (show decode prog_7_method_83_code 31 = .ok (.ireturn, 1) by decide +kernel) rfl k
set_option maxRecDepth 20000 in
theorem wp_Z_sheet_70 {X : Nat × (Nat → Int32)} {d : Nat} {G : zG} {I : zI} {res : Option Value × zG × zI} (x1 : Int32) (x2 : Int32) (x3 : Int32) (x4 : Int32) (hS : SG G) 
    (k : (40 ≤ x4 → res = (some (.int 1), G, I)) ∧ (¬ 40 ≤ x4 → z_inr ((40 * x1) + x4) 160 ∧ (∀ I3 : zI, I3 = z_up I 67 ((40 * x1) + x4).toNatClampNeg 0 → ∀ y4 : Int32, y4 = x4 + 1 → Ev X d 209 70 [.ref 57, .int x1, .int x2, .int x3, .int y4] [] G I3 res))) :
    Ev X d 209 70 [.ref 57, .int x1, .int x2, .int x3, .int x4] [] G I res := by
  refine Ev_iload hq_209 (show decode prog_7_method_83_code 70 = .ok (.iload 4, 2) by decide +kernel) rfl ?_
  refine Ev_bipush (v := 40) hq_209 (show decode prog_7_method_83_code 72 = .ok (.bipush 40, 2) by decide +kernel) (by decide) ?_
  refine Ev_icmp_ge (tgt := 96) hq_209 (show decode prog_7_method_83_code 74 = .ok (.if_icmp .ge 22, 3) by decide +kernel) (by decide) (fun c1 => ?_) (fun c1 => ?_)
  · have k := k.1 c1
    refine Ev_iconst (v := 1) hq_209 (show decode prog_7_method_83_code 96 = .ok (.iconst 1, 1) by decide +kernel) (by decide) ?_
    exact Ev_iret hq_209 (show decode prog_7_method_83_code 97 = .ok (.ireturn, 1) by decide +kernel) rfl k
  · have k := k.2 c1
    refine Ev_aload_n hq_209 (show decode prog_7_method_83_code 77 = .ok (.aload_n 0, 1) by decide +kernel) rfl ?_
    refine Ev_getR hq_209 (show decode prog_7_method_83_code 78 = .ok (.getfield 37, 3) by decide +kernel) rfl (SGn hS (by decide)) (SGk hS rfl) (by decide) rfl (SGr hS rfl) ?_
    refine Ev_bipush (v := 40) hq_209 (show decode prog_7_method_83_code 81 = .ok (.bipush 40, 2) by decide +kernel) (by decide) ?_
    refine Ev_iload_n hq_209 (show decode prog_7_method_83_code 83 = .ok (.iload_n 1, 1) by decide +kernel) rfl ?_
    refine Ev_imul hq_209 (show decode prog_7_method_83_code 84 = .ok (.imul, 1) by decide +kernel) ?_
    refine Ev_iload hq_209 (show decode prog_7_method_83_code 85 = .ok (.iload 4, 2) by decide +kernel) rfl ?_
    refine Ev_iadd hq_209 (show decode prog_7_method_83_code 87 = .ok (.iadd, 1) by decide +kernel) ?_
    refine Ev_iconst (v := 0) hq_209 (show decode prog_7_method_83_code 88 = .ok (.iconst 0, 1) by decide +kernel) (by decide) ?_
    obtain ⟨h2, k⟩ := k
    refine Ev_iast hq_209 (show decode prog_7_method_83_code 89 = .ok (.iastore, 1) by decide +kernel) (SGn hS (by decide)) (SGk hS rfl) (SGi hS rfl h2) ?_
    obtain ⟨I3, eI3⟩ : ∃ I3 : zI, I3 = z_up I 67 ((40 * x1) + x4).toNatClampNeg 0 := ⟨_, rfl⟩
    have k := k I3 eI3
    rw [← eI3]
    obtain ⟨y4, ey4⟩ : ∃ y4 : Int32, y4 = x4 + 1 := ⟨_, rfl⟩
    have k := k y4 ey4
    refine Ev_iinc (v := y4) (lo2 := [.ref 57, .int x1, .int x2, .int x3, .int y4]) hq_209 (show decode prog_7_method_83_code 90 = .ok (.iinc 4 1, 3) by decide +kernel) rfl (by rw [ey4]; rfl) rfl ?_
    refine Ev_goto (tgt := 70) hq_209 (show decode prog_7_method_83_code 93 = .ok (.goto (-23), 3) by decide +kernel) (by decide) ?_
    exact k
set_option maxRecDepth 20000 in
theorem wp_Z_cell {X : Nat × (Nat → Int32)} {d : Nat} {G : zG} {I : zI} {res : Option Value × zG × zI} (x1 : Int32) (x2 : Int32) (x3 : Int32) (hS : SG G) 
    (k : ∃ (r3 : Int32) (I1 : zI), Cv X d 131 [.int x1, .int 0, .int 3] G I (some (.int r3), G, I1) ∧ ((¬ r3 = 0 → z_inr x1 4 ∧ ((¬ (I1 65 x1.toNatClampNeg) = (-1) → z_inr x1 4 ∧ (∃ (r10 : Int32) (I8 : zI), Cv X d 131 [.int x2, .int 0, .int ((I1 66 x1.toNatClampNeg) - 1)] G I1 (some (.int r10), G, I8) ∧ ((¬ r10 = 0 → z_inr x1 4 ∧ ((¬ (I8 65 x1.toNatClampNeg) = 0 → z_inr x1 4 ∧ ((¬ (I8 65 x1.toNatClampNeg) = 1 → z_inr ((40 * x1) + x2) 160 ∧ (∀ I17 : zI, I17 = z_up I8 67 ((40 * x1) + x2).toNatClampNeg x3 → res = (some (.int 1), G, I17))) ∧ ((I8 65 x1.toNatClampNeg) = 1 → z_inr ((40 * x1) + x2) 160 ∧ (∀ I19 : zI, I19 = z_up I8 67 ((40 * x1) + x2).toNatClampNeg (x3.toInt16.toInt32) → res = (some (.int 1), G, I19))))) ∧ ((I8 65 x1.toNatClampNeg) = 0 → z_inr ((40 * x1) + x2) 160 ∧ (∀ I21 : zI, I21 = z_up I8 67 ((40 * x1) + x2).toNatClampNeg (x3.toInt8.toInt32) → res = (some (.int 1), G, I21))))) ∧ (r10 = 0 → res = (some (.int (-12)), G, I8))))) ∧ ((I1 65 x1.toNatClampNeg) = (-1) → res = (some (.int (-11)), G, I1)))) ∧ (r3 = 0 → res = (some (.int (-2)), G, I1)))) :
    Ev X (d + 1) 210 0 [.ref 57, .int x1, .int x2, .int x3] [] G I res := by
  refine Ev_iload_n hq_210 (show decode prog_7_method_84_code 0 = .ok (.iload_n 1, 1) by decide +kernel) rfl ?_
  refine Ev_iconst (v := 0) hq_210 (show decode prog_7_method_84_code 1 = .ok (.iconst 0, 1) by decide +kernel) (by decide) ?_
  refine Ev_iconst (v := 3) hq_210 (show decode prog_7_method_84_code 2 = .ok (.iconst 3, 1) by decide +kernel) (by decide) ?_
  obtain ⟨r3, I1, h2, k⟩ := k
  refine Ev_stat (as := [.int x1, .int 0, .int 3]) hq_210 (show decode prog_7_method_84_code 3 = .ok (.invokestatic 90, 3) by decide +kernel) rfl (Or.inl rfl) hq_131 rfl (z_le rfl) h2 ?_
  refine Ev_if_ne (tgt := 12) hq_210 (show decode prog_7_method_84_code 6 = .ok (.ifCond .ne 6, 3) by decide +kernel) (by decide) (fun c4 => ?_) (fun c4 => ?_)
  · have k := k.1 c4
    refine Ev_aload_n hq_210 (show decode prog_7_method_84_code 12 = .ok (.aload_n 0, 1) by decide +kernel) rfl ?_
    refine Ev_getR hq_210 (show decode prog_7_method_84_code 13 = .ok (.getfield 31, 3) by decide +kernel) rfl (SGn hS (by decide)) (SGk hS rfl) (by decide) rfl (SGr hS rfl) ?_
    refine Ev_iload_n hq_210 (show decode prog_7_method_84_code 16 = .ok (.iload_n 1, 1) by decide +kernel) rfl ?_
    obtain ⟨h5, k⟩ := k
    refine Ev_iald hq_210 (show decode prog_7_method_84_code 17 = .ok (.iaload, 1) by decide +kernel) (SGn hS (by decide)) (SGk hS rfl) (SGi hS rfl h5) ?_
    refine Ev_iconst (v := (-1)) hq_210 (show decode prog_7_method_84_code 18 = .ok (.iconst (-1), 1) by decide +kernel) (by decide) ?_
    refine Ev_icmp_ne (tgt := 25) hq_210 (show decode prog_7_method_84_code 19 = .ok (.if_icmp .ne 6, 3) by decide +kernel) (by decide) (fun c6 => ?_) (fun c6 => ?_)
    · have k := k.1 c6
      refine Ev_iload_n hq_210 (show decode prog_7_method_84_code 25 = .ok (.iload_n 2, 1) by decide +kernel) rfl ?_
      refine Ev_iconst (v := 0) hq_210 (show decode prog_7_method_84_code 26 = .ok (.iconst 0, 1) by decide +kernel) (by decide) ?_
      refine Ev_aload_n hq_210 (show decode prog_7_method_84_code 27 = .ok (.aload_n 0, 1) by decide +kernel) rfl ?_
      refine Ev_getR hq_210 (show decode prog_7_method_84_code 28 = .ok (.getfield 34, 3) by decide +kernel) rfl (SGn hS (by decide)) (SGk hS rfl) (by decide) rfl (SGr hS rfl) ?_
      refine Ev_iload_n hq_210 (show decode prog_7_method_84_code 31 = .ok (.iload_n 1, 1) by decide +kernel) rfl ?_
      obtain ⟨h7, k⟩ := k
      refine Ev_iald hq_210 (show decode prog_7_method_84_code 32 = .ok (.iaload, 1) by decide +kernel) (SGn hS (by decide)) (SGk hS rfl) (SGi hS rfl h7) ?_
      refine Ev_iconst (v := 1) hq_210 (show decode prog_7_method_84_code 33 = .ok (.iconst 1, 1) by decide +kernel) (by decide) ?_
      refine Ev_isub hq_210 (show decode prog_7_method_84_code 34 = .ok (.isub, 1) by decide +kernel) ?_
      obtain ⟨r10, I8, h9, k⟩ := k
      refine Ev_stat (as := [.int x2, .int 0, .int ((I1 66 x1.toNatClampNeg) - 1)]) hq_210 (show decode prog_7_method_84_code 35 = .ok (.invokestatic 90, 3) by decide +kernel) rfl (Or.inl rfl) hq_131 rfl (z_le rfl) h9 ?_
      refine Ev_if_ne (tgt := 44) hq_210 (show decode prog_7_method_84_code 38 = .ok (.ifCond .ne 6, 3) by decide +kernel) (by decide) (fun c11 => ?_) (fun c11 => ?_)
      · have k := k.1 c11
        refine Ev_aload_n hq_210 (show decode prog_7_method_84_code 44 = .ok (.aload_n 0, 1) by decide +kernel) rfl ?_
        refine Ev_getR hq_210 (show decode prog_7_method_84_code 45 = .ok (.getfield 37, 3) by decide +kernel) rfl (SGn hS (by decide)) (SGk hS rfl) (by decide) rfl (SGr hS rfl) ?_
        refine Ev_bipush (v := 40) hq_210 (show decode prog_7_method_84_code 48 = .ok (.bipush 40, 2) by decide +kernel) (by decide) ?_
        refine Ev_iload_n hq_210 (show decode prog_7_method_84_code 50 = .ok (.iload_n 1, 1) by decide +kernel) rfl ?_
        refine Ev_imul hq_210 (show decode prog_7_method_84_code 51 = .ok (.imul, 1) by decide +kernel) ?_
        refine Ev_iload_n hq_210 (show decode prog_7_method_84_code 52 = .ok (.iload_n 2, 1) by decide +kernel) rfl ?_
        refine Ev_iadd hq_210 (show decode prog_7_method_84_code 53 = .ok (.iadd, 1) by decide +kernel) ?_
        refine Ev_aload_n hq_210 (show decode prog_7_method_84_code 54 = .ok (.aload_n 0, 1) by decide +kernel) rfl ?_
        refine Ev_getR hq_210 (show decode prog_7_method_84_code 55 = .ok (.getfield 31, 3) by decide +kernel) rfl (SGn hS (by decide)) (SGk hS rfl) (by decide) rfl (SGr hS rfl) ?_
        refine Ev_iload_n hq_210 (show decode prog_7_method_84_code 58 = .ok (.iload_n 1, 1) by decide +kernel) rfl ?_
        obtain ⟨h12, k⟩ := k
        refine Ev_iald hq_210 (show decode prog_7_method_84_code 59 = .ok (.iaload, 1) by decide +kernel) (SGn hS (by decide)) (SGk hS rfl) (SGi hS rfl h12) ?_
        refine Ev_if_ne (tgt := 68) hq_210 (show decode prog_7_method_84_code 60 = .ok (.ifCond .ne 8, 3) by decide +kernel) (by decide) (fun c13 => ?_) (fun c13 => ?_)
        · have k := k.1 c13
          refine Ev_aload_n hq_210 (show decode prog_7_method_84_code 68 = .ok (.aload_n 0, 1) by decide +kernel) rfl ?_
          refine Ev_getR hq_210 (show decode prog_7_method_84_code 69 = .ok (.getfield 31, 3) by decide +kernel) rfl (SGn hS (by decide)) (SGk hS rfl) (by decide) rfl (SGr hS rfl) ?_
          refine Ev_iload_n hq_210 (show decode prog_7_method_84_code 72 = .ok (.iload_n 1, 1) by decide +kernel) rfl ?_
          obtain ⟨h14, k⟩ := k
          refine Ev_iald hq_210 (show decode prog_7_method_84_code 73 = .ok (.iaload, 1) by decide +kernel) (SGn hS (by decide)) (SGk hS rfl) (SGi hS rfl h14) ?_
          refine Ev_iconst (v := 1) hq_210 (show decode prog_7_method_84_code 74 = .ok (.iconst 1, 1) by decide +kernel) (by decide) ?_
          refine Ev_icmp_ne (tgt := 83) hq_210 (show decode prog_7_method_84_code 75 = .ok (.if_icmp .ne 8, 3) by decide +kernel) (by decide) (fun c15 => ?_) (fun c15 => ?_)
          · have k := k.1 c15
            refine Ev_iload_n hq_210 (show decode prog_7_method_84_code 83 = .ok (.iload_n 3, 1) by decide +kernel) rfl ?_
            obtain ⟨h16, k⟩ := k
            refine Ev_iast hq_210 (show decode prog_7_method_84_code 84 = .ok (.iastore, 1) by decide +kernel) (SGn hS (by decide)) (SGk hS rfl) (SGi hS rfl h16) ?_
            obtain ⟨I17, eI17⟩ : ∃ I17 : zI, I17 = z_up I8 67 ((40 * x1) + x2).toNatClampNeg x3 := ⟨_, rfl⟩
            have k := k I17 eI17
            rw [← eI17]
            refine Ev_iconst (v := 1) hq_210 (show decode prog_7_method_84_code 85 = .ok (.iconst 1, 1) by decide +kernel) (by decide) ?_
            exact Ev_iret hq_210 (show decode prog_7_method_84_code 86 = .ok (.ireturn, 1) by decide +kernel) rfl k
          · have k := k.2 (Classical.not_not.mp c15)
            refine Ev_iload_n hq_210 (show decode prog_7_method_84_code 78 = .ok (.iload_n 3, 1) by decide +kernel) rfl ?_
            refine Ev_i2s hq_210 (show decode prog_7_method_84_code 79 = .ok (.i2s, 1) by decide +kernel) ?_
            refine Ev_goto (tgt := 84) hq_210 (show decode prog_7_method_84_code 80 = .ok (.goto 4, 3) by decide +kernel) (by decide) ?_
            obtain ⟨h18, k⟩ := k
            refine Ev_iast hq_210 (show decode prog_7_method_84_code 84 = .ok (.iastore, 1) by decide +kernel) (SGn hS (by decide)) (SGk hS rfl) (SGi hS rfl h18) ?_
            obtain ⟨I19, eI19⟩ : ∃ I19 : zI, I19 = z_up I8 67 ((40 * x1) + x2).toNatClampNeg (x3.toInt16.toInt32) := ⟨_, rfl⟩
            have k := k I19 eI19
            rw [← eI19]
            refine Ev_iconst (v := 1) hq_210 (show decode prog_7_method_84_code 85 = .ok (.iconst 1, 1) by decide +kernel) (by decide) ?_
            exact Ev_iret hq_210 (show decode prog_7_method_84_code 86 = .ok (.ireturn, 1) by decide +kernel) rfl k
        · have k := k.2 (Classical.not_not.mp c13)
          refine Ev_iload_n hq_210 (show decode prog_7_method_84_code 63 = .ok (.iload_n 3, 1) by decide +kernel) rfl ?_
          refine Ev_i2b hq_210 (show decode prog_7_method_84_code 64 = .ok (.i2b, 1) by decide +kernel) ?_
          refine Ev_goto (tgt := 84) hq_210 (show decode prog_7_method_84_code 65 = .ok (.goto 19, 3) by decide +kernel) (by decide) ?_
          obtain ⟨h20, k⟩ := k
          refine Ev_iast hq_210 (show decode prog_7_method_84_code 84 = .ok (.iastore, 1) by decide +kernel) (SGn hS (by decide)) (SGk hS rfl) (SGi hS rfl h20) ?_
          obtain ⟨I21, eI21⟩ : ∃ I21 : zI, I21 = z_up I8 67 ((40 * x1) + x2).toNatClampNeg (x3.toInt8.toInt32) := ⟨_, rfl⟩
          have k := k I21 eI21
          rw [← eI21]
          refine Ev_iconst (v := 1) hq_210 (show decode prog_7_method_84_code 85 = .ok (.iconst 1, 1) by decide +kernel) (by decide) ?_
          exact Ev_iret hq_210 (show decode prog_7_method_84_code 86 = .ok (.ireturn, 1) by decide +kernel) rfl k
      · have k := k.2 (Classical.not_not.mp c11)
        refine Ev_bipush (v := (-12)) hq_210 (show decode prog_7_method_84_code 41 = .ok (.bipush (-12), 2) by decide +kernel) (by decide) ?_
        exact Ev_iret hq_210 (show decode prog_7_method_84_code 43 = .ok (.ireturn, 1) by decide +kernel) rfl k
    · have k := k.2 (Classical.not_not.mp c6)
      refine Ev_bipush (v := (-11)) hq_210 (show decode prog_7_method_84_code 22 = .ok (.bipush (-11), 2) by decide +kernel) (by decide) ?_
      exact Ev_iret hq_210 (show decode prog_7_method_84_code 24 = .ok (.ireturn, 1) by decide +kernel) rfl k
  · have k := k.2 (Classical.not_not.mp c4)
    refine Ev_bipush (v := (-2)) hq_210 (show decode prog_7_method_84_code 9 = .ok (.bipush (-2), 2) by decide +kernel) (by decide) ?_
    exact Ev_iret hq_210 (show decode prog_7_method_84_code 11 = .ok (.ireturn, 1) by decide +kernel) rfl k
set_option maxRecDepth 20000 in
theorem wp_Z_copy {X : Nat × (Nat → Int32)} {d : Nat} {G : zG} {I : zI} {res : Option Value × zG × zI} (x1 : Int32) (x2 : Int32) (x3 : Int32) (x4 : Int32) (x5 : Int32) (hS : SG G) 
    (k : ∃ (r3 : Int32) (I1 : zI), Cv X d 131 [.int x1, .int 0, .int 3] G I (some (.int r3), G, I1) ∧ ((r3 = 0 → res = (some (.int (-2)), G, I1)) ∧ (¬ r3 = 0 → ∃ (r7 : Int32) (I5 : zI), Cv X d 131 [.int x3, .int 0, .int 3] G I1 (some (.int r7), G, I5) ∧ ((¬ r7 = 0 → z_inr x1 4 ∧ (((I5 65 x1.toNatClampNeg) = (-1) → res = (some (.int (-11)), G, I5)) ∧ (¬ (I5 65 x1.toNatClampNeg) = (-1) → z_inr x3 4 ∧ ((¬ (I5 65 x3.toNatClampNeg) = (-1) → z_inr x1 4 ∧ (z_inr x3 4 ∧ (((I5 65 x1.toNatClampNeg) = (I5 65 x3.toNatClampNeg) → (x5 < 0 → res = (some (.int (-12)), G, I5)) ∧ (¬ x5 < 0 → (x2 < 0 → res = (some (.int (-12)), G, I5)) ∧ (¬ x2 < 0 → (x4 < 0 → res = (some (.int (-12)), G, I5)) ∧ (¬ x4 < 0 → z_inr x1 4 ∧ (((I5 66 x1.toNatClampNeg) < x2 → res = (some (.int (-12)), G, I5)) ∧ (¬ (I5 66 x1.toNatClampNeg) < x2 → z_inr x3 4 ∧ (((I5 66 x3.toNatClampNeg) < x4 → res = (some (.int (-12)), G, I5)) ∧ (¬ (I5 66 x3.toNatClampNeg) < x4 → z_inr x1 4 ∧ ((((I5 66 x1.toNatClampNeg) - x2) < x5 → res = (some (.int (-12)), G, I5)) ∧ (¬ ((I5 66 x1.toNatClampNeg) - x2) < x5 → z_inr x3 4 ∧ ((x5 ≤ ((I5 66 x3.toNatClampNeg) - x4) → ∀ y27 : Int32, y27 = ((40 * x1) + x2) → ∀ y28 : Int32, y28 = ((40 * x3) + x4) → Ev X (d + 1) 211 147 [.ref 57, .int x1, .int x2, .int x3, .int x4, .int x5, .int y27, .int y28, .int 0, zU] [] G I5 res) ∧ (¬ x5 ≤ ((I5 66 x3.toNatClampNeg) - x4) → res = (some (.int (-12)), G, I5))))))))))))) ∧ (¬ (I5 65 x1.toNatClampNeg) = (I5 65 x3.toNatClampNeg) → res = (some (.int (-13)), G, I5))))) ∧ ((I5 65 x3.toNatClampNeg) = (-1) → res = (some (.int (-11)), G, I5)))))) ∧ (r7 = 0 → res = (some (.int (-2)), G, I5)))))) :
    Ev X (d + 1) 211 0 [.ref 57, .int x1, .int x2, .int x3, .int x4, .int x5, zU, zU, zU, zU] [] G I res := by
  refine Ev_iload_n hq_211 (show decode prog_7_method_85_code 0 = .ok (.iload_n 1, 1) by decide +kernel) rfl ?_
  refine Ev_iconst (v := 0) hq_211 (show decode prog_7_method_85_code 1 = .ok (.iconst 0, 1) by decide +kernel) (by decide) ?_
  refine Ev_iconst (v := 3) hq_211 (show decode prog_7_method_85_code 2 = .ok (.iconst 3, 1) by decide +kernel) (by decide) ?_
  obtain ⟨r3, I1, h2, k⟩ := k
  refine Ev_stat (as := [.int x1, .int 0, .int 3]) hq_211 (show decode prog_7_method_85_code 3 = .ok (.invokestatic 90, 3) by decide +kernel) rfl (Or.inl rfl) hq_131 rfl (z_le rfl) h2 ?_
  refine Ev_if_eq (tgt := 18) hq_211 (show decode prog_7_method_85_code 6 = .ok (.ifCond .eq 12, 3) by decide +kernel) (by decide) (fun c4 => ?_) (fun c4 => ?_)
  · have k := k.1 c4
    refine Ev_bipush (v := (-2)) hq_211 (show decode prog_7_method_85_code 18 = .ok (.bipush (-2), 2) by decide +kernel) (by decide) ?_
    exact Ev_iret hq_211 (show decode prog_7_method_85_code 20 = .ok (.ireturn, 1) by decide +kernel) rfl k
  · have k := k.2 c4
    refine Ev_iload_n hq_211 (show decode prog_7_method_85_code 9 = .ok (.iload_n 3, 1) by decide +kernel) rfl ?_
    refine Ev_iconst (v := 0) hq_211 (show decode prog_7_method_85_code 10 = .ok (.iconst 0, 1) by decide +kernel) (by decide) ?_
    refine Ev_iconst (v := 3) hq_211 (show decode prog_7_method_85_code 11 = .ok (.iconst 3, 1) by decide +kernel) (by decide) ?_
    obtain ⟨r7, I5, h6, k⟩ := k
    refine Ev_stat (as := [.int x3, .int 0, .int 3]) hq_211 (show decode prog_7_method_85_code 12 = .ok (.invokestatic 90, 3) by decide +kernel) rfl (Or.inl rfl) hq_131 rfl (z_le rfl) h6 ?_
    refine Ev_if_ne (tgt := 21) hq_211 (show decode prog_7_method_85_code 15 = .ok (.ifCond .ne 6, 3) by decide +kernel) (by decide) (fun c8 => ?_) (fun c8 => ?_)
    · have k := k.1 c8
      refine Ev_aload_n hq_211 (show decode prog_7_method_85_code 21 = .ok (.aload_n 0, 1) by decide +kernel) rfl ?_
      refine Ev_getR hq_211 (show decode prog_7_method_85_code 22 = .ok (.getfield 31, 3) by decide +kernel) rfl (SGn hS (by decide)) (SGk hS rfl) (by decide) rfl (SGr hS rfl) ?_
      refine Ev_iload_n hq_211 (show decode prog_7_method_85_code 25 = .ok (.iload_n 1, 1) by decide +kernel) rfl ?_
      obtain ⟨h9, k⟩ := k
      refine Ev_iald hq_211 (show decode prog_7_method_85_code 26 = .ok (.iaload, 1) by decide +kernel) (SGn hS (by decide)) (SGk hS rfl) (SGi hS rfl h9) ?_
      refine Ev_iconst (v := (-1)) hq_211 (show decode prog_7_method_85_code 27 = .ok (.iconst (-1), 1) by decide +kernel) (by decide) ?_
      refine Ev_icmp_eq (tgt := 41) hq_211 (show decode prog_7_method_85_code 28 = .ok (.if_icmp .eq 13, 3) by decide +kernel) (by decide) (fun c10 => ?_) (fun c10 => ?_)
      · have k := k.1 c10
        refine Ev_bipush (v := (-11)) hq_211 (show decode prog_7_method_85_code 41 = .ok (.bipush (-11), 2) by decide +kernel) (by decide) ?_
        exact Ev_iret hq_211 (show decode prog_7_method_85_code 43 = .ok (.ireturn, 1) by decide +kernel) rfl k
      · have k := k.2 c10
        refine Ev_aload_n hq_211 (show decode prog_7_method_85_code 31 = .ok (.aload_n 0, 1) by decide +kernel) rfl ?_
        refine Ev_getR hq_211 (show decode prog_7_method_85_code 32 = .ok (.getfield 31, 3) by decide +kernel) rfl (SGn hS (by decide)) (SGk hS rfl) (by decide) rfl (SGr hS rfl) ?_
        refine Ev_iload_n hq_211 (show decode prog_7_method_85_code 35 = .ok (.iload_n 3, 1) by decide +kernel) rfl ?_
        obtain ⟨h11, k⟩ := k
        refine Ev_iald hq_211 (show decode prog_7_method_85_code 36 = .ok (.iaload, 1) by decide +kernel) (SGn hS (by decide)) (SGk hS rfl) (SGi hS rfl h11) ?_
        refine Ev_iconst (v := (-1)) hq_211 (show decode prog_7_method_85_code 37 = .ok (.iconst (-1), 1) by decide +kernel) (by decide) ?_
        refine Ev_icmp_ne (tgt := 44) hq_211 (show decode prog_7_method_85_code 38 = .ok (.if_icmp .ne 6, 3) by decide +kernel) (by decide) (fun c12 => ?_) (fun c12 => ?_)
        · have k := k.1 c12
          refine Ev_aload_n hq_211 (show decode prog_7_method_85_code 44 = .ok (.aload_n 0, 1) by decide +kernel) rfl ?_
          refine Ev_getR hq_211 (show decode prog_7_method_85_code 45 = .ok (.getfield 31, 3) by decide +kernel) rfl (SGn hS (by decide)) (SGk hS rfl) (by decide) rfl (SGr hS rfl) ?_
          refine Ev_iload_n hq_211 (show decode prog_7_method_85_code 48 = .ok (.iload_n 1, 1) by decide +kernel) rfl ?_
          obtain ⟨h13, k⟩ := k
          refine Ev_iald hq_211 (show decode prog_7_method_85_code 49 = .ok (.iaload, 1) by decide +kernel) (SGn hS (by decide)) (SGk hS rfl) (SGi hS rfl h13) ?_
          refine Ev_aload_n hq_211 (show decode prog_7_method_85_code 50 = .ok (.aload_n 0, 1) by decide +kernel) rfl ?_
          refine Ev_getR hq_211 (show decode prog_7_method_85_code 51 = .ok (.getfield 31, 3) by decide +kernel) rfl (SGn hS (by decide)) (SGk hS rfl) (by decide) rfl (SGr hS rfl) ?_
          refine Ev_iload_n hq_211 (show decode prog_7_method_85_code 54 = .ok (.iload_n 3, 1) by decide +kernel) rfl ?_
          obtain ⟨h14, k⟩ := k
          refine Ev_iald hq_211 (show decode prog_7_method_85_code 55 = .ok (.iaload, 1) by decide +kernel) (SGn hS (by decide)) (SGk hS rfl) (SGi hS rfl h14) ?_
          refine Ev_icmp_eq (tgt := 62) hq_211 (show decode prog_7_method_85_code 56 = .ok (.if_icmp .eq 6, 3) by decide +kernel) (by decide) (fun c15 => ?_) (fun c15 => ?_)
          · have k := k.1 c15
            refine Ev_iload hq_211 (show decode prog_7_method_85_code 62 = .ok (.iload 5, 2) by decide +kernel) rfl ?_
            refine Ev_if_lt (tgt := 124) hq_211 (show decode prog_7_method_85_code 64 = .ok (.ifCond .lt 60, 3) by decide +kernel) (by decide) (fun c16 => ?_) (fun c16 => ?_)
            · have k := k.1 c16
              refine Ev_bipush (v := (-12)) hq_211 (show decode prog_7_method_85_code 124 = .ok (.bipush (-12), 2) by decide +kernel) (by decide) ?_
              exact Ev_iret hq_211 (show decode prog_7_method_85_code 126 = .ok (.ireturn, 1) by decide +kernel) rfl k
            · have k := k.2 c16
              refine Ev_iload_n hq_211 (show decode prog_7_method_85_code 67 = .ok (.iload_n 2, 1) by decide +kernel) rfl ?_
              refine Ev_if_lt (tgt := 124) hq_211 (show decode prog_7_method_85_code 68 = .ok (.ifCond .lt 56, 3) by decide +kernel) (by decide) (fun c17 => ?_) (fun c17 => ?_)
              · have k := k.1 c17
                refine Ev_bipush (v := (-12)) hq_211 (show decode prog_7_method_85_code 124 = .ok (.bipush (-12), 2) by decide +kernel) (by decide) ?_
                exact Ev_iret hq_211 (show decode prog_7_method_85_code 126 = .ok (.ireturn, 1) by decide +kernel) rfl k
              · have k := k.2 c17
                refine Ev_iload hq_211 (show decode prog_7_method_85_code 71 = .ok (.iload 4, 2) by decide +kernel) rfl ?_
                refine Ev_if_lt (tgt := 124) hq_211 (show decode prog_7_method_85_code 73 = .ok (.ifCond .lt 51, 3) by decide +kernel) (by decide) (fun c18 => ?_) (fun c18 => ?_)
                · have k := k.1 c18
                  refine Ev_bipush (v := (-12)) hq_211 (show decode prog_7_method_85_code 124 = .ok (.bipush (-12), 2) by decide +kernel) (by decide) ?_
                  exact Ev_iret hq_211 (show decode prog_7_method_85_code 126 = .ok (.ireturn, 1) by decide +kernel) rfl k
                · have k := k.2 c18
                  refine Ev_iload_n hq_211 (show decode prog_7_method_85_code 76 = .ok (.iload_n 2, 1) by decide +kernel) rfl ?_
                  refine Ev_aload_n hq_211 (show decode prog_7_method_85_code 77 = .ok (.aload_n 0, 1) by decide +kernel) rfl ?_
                  refine Ev_getR hq_211 (show decode prog_7_method_85_code 78 = .ok (.getfield 34, 3) by decide +kernel) rfl (SGn hS (by decide)) (SGk hS rfl) (by decide) rfl (SGr hS rfl) ?_
                  refine Ev_iload_n hq_211 (show decode prog_7_method_85_code 81 = .ok (.iload_n 1, 1) by decide +kernel) rfl ?_
                  obtain ⟨h19, k⟩ := k
                  refine Ev_iald hq_211 (show decode prog_7_method_85_code 82 = .ok (.iaload, 1) by decide +kernel) (SGn hS (by decide)) (SGk hS rfl) (SGi hS rfl h19) ?_
                  refine Ev_icmp_gt (tgt := 124) hq_211 (show decode prog_7_method_85_code 83 = .ok (.if_icmp .gt 41, 3) by decide +kernel) (by decide) (fun c20 => ?_) (fun c20 => ?_)
                  · have k := k.1 c20
                    refine Ev_bipush (v := (-12)) hq_211 (show decode prog_7_method_85_code 124 = .ok (.bipush (-12), 2) by decide +kernel) (by decide) ?_
                    exact Ev_iret hq_211 (show decode prog_7_method_85_code 126 = .ok (.ireturn, 1) by decide +kernel) rfl k
                  · have k := k.2 c20
                    refine Ev_iload hq_211 (show decode prog_7_method_85_code 86 = .ok (.iload 4, 2) by decide +kernel) rfl ?_
                    refine Ev_aload_n hq_211 (show decode prog_7_method_85_code 88 = .ok (.aload_n 0, 1) by decide +kernel) rfl ?_
                    refine Ev_getR hq_211 (show decode prog_7_method_85_code 89 = .ok (.getfield 34, 3) by decide +kernel) rfl (SGn hS (by decide)) (SGk hS rfl) (by decide) rfl (SGr hS rfl) ?_
                    refine Ev_iload_n hq_211 (show decode prog_7_method_85_code 92 = .ok (.iload_n 3, 1) by decide +kernel) rfl ?_
                    obtain ⟨h21, k⟩ := k
                    refine Ev_iald hq_211 (show decode prog_7_method_85_code 93 = .ok (.iaload, 1) by decide +kernel) (SGn hS (by decide)) (SGk hS rfl) (SGi hS rfl h21) ?_
                    refine Ev_icmp_gt (tgt := 124) hq_211 (show decode prog_7_method_85_code 94 = .ok (.if_icmp .gt 30, 3) by decide +kernel) (by decide) (fun c22 => ?_) (fun c22 => ?_)
                    · have k := k.1 c22
                      refine Ev_bipush (v := (-12)) hq_211 (show decode prog_7_method_85_code 124 = .ok (.bipush (-12), 2) by decide +kernel) (by decide) ?_
                      exact Ev_iret hq_211 (show decode prog_7_method_85_code 126 = .ok (.ireturn, 1) by decide +kernel) rfl k
                    · have k := k.2 c22
                      refine Ev_iload hq_211 (show decode prog_7_method_85_code 97 = .ok (.iload 5, 2) by decide +kernel) rfl ?_
                      refine Ev_aload_n hq_211 (show decode prog_7_method_85_code 99 = .ok (.aload_n 0, 1) by decide +kernel) rfl ?_
                      refine Ev_getR hq_211 (show decode prog_7_method_85_code 100 = .ok (.getfield 34, 3) by decide +kernel) rfl (SGn hS (by decide)) (SGk hS rfl) (by decide) rfl (SGr hS rfl) ?_
                      refine Ev_iload_n hq_211 (show decode prog_7_method_85_code 103 = .ok (.iload_n 1, 1) by decide +kernel) rfl ?_
                      obtain ⟨h23, k⟩ := k
                      refine Ev_iald hq_211 (show decode prog_7_method_85_code 104 = .ok (.iaload, 1) by decide +kernel) (SGn hS (by decide)) (SGk hS rfl) (SGi hS rfl h23) ?_
                      refine Ev_iload_n hq_211 (show decode prog_7_method_85_code 105 = .ok (.iload_n 2, 1) by decide +kernel) rfl ?_
                      refine Ev_isub hq_211 (show decode prog_7_method_85_code 106 = .ok (.isub, 1) by decide +kernel) ?_
                      refine Ev_icmp_gt (tgt := 124) hq_211 (show decode prog_7_method_85_code 107 = .ok (.if_icmp .gt 17, 3) by decide +kernel) (by decide) (fun c24 => ?_) (fun c24 => ?_)
                      · have k := k.1 c24
                        refine Ev_bipush (v := (-12)) hq_211 (show decode prog_7_method_85_code 124 = .ok (.bipush (-12), 2) by decide +kernel) (by decide) ?_
                        exact Ev_iret hq_211 (show decode prog_7_method_85_code 126 = .ok (.ireturn, 1) by decide +kernel) rfl k
                      · have k := k.2 c24
                        refine Ev_iload hq_211 (show decode prog_7_method_85_code 110 = .ok (.iload 5, 2) by decide +kernel) rfl ?_
                        refine Ev_aload_n hq_211 (show decode prog_7_method_85_code 112 = .ok (.aload_n 0, 1) by decide +kernel) rfl ?_
                        refine Ev_getR hq_211 (show decode prog_7_method_85_code 113 = .ok (.getfield 34, 3) by decide +kernel) rfl (SGn hS (by decide)) (SGk hS rfl) (by decide) rfl (SGr hS rfl) ?_
                        refine Ev_iload_n hq_211 (show decode prog_7_method_85_code 116 = .ok (.iload_n 3, 1) by decide +kernel) rfl ?_
                        obtain ⟨h25, k⟩ := k
                        refine Ev_iald hq_211 (show decode prog_7_method_85_code 117 = .ok (.iaload, 1) by decide +kernel) (SGn hS (by decide)) (SGk hS rfl) (SGi hS rfl h25) ?_
                        refine Ev_iload hq_211 (show decode prog_7_method_85_code 118 = .ok (.iload 4, 2) by decide +kernel) rfl ?_
                        refine Ev_isub hq_211 (show decode prog_7_method_85_code 120 = .ok (.isub, 1) by decide +kernel) ?_
                        refine Ev_icmp_le (tgt := 127) hq_211 (show decode prog_7_method_85_code 121 = .ok (.if_icmp .le 6, 3) by decide +kernel) (by decide) (fun c26 => ?_) (fun c26 => ?_)
                        · have k := k.1 c26
                          refine Ev_bipush (v := 40) hq_211 (show decode prog_7_method_85_code 127 = .ok (.bipush 40, 2) by decide +kernel) (by decide) ?_
                          refine Ev_iload_n hq_211 (show decode prog_7_method_85_code 129 = .ok (.iload_n 1, 1) by decide +kernel) rfl ?_
                          refine Ev_imul hq_211 (show decode prog_7_method_85_code 130 = .ok (.imul, 1) by decide +kernel) ?_
                          refine Ev_iload_n hq_211 (show decode prog_7_method_85_code 131 = .ok (.iload_n 2, 1) by decide +kernel) rfl ?_
                          refine Ev_iadd hq_211 (show decode prog_7_method_85_code 132 = .ok (.iadd, 1) by decide +kernel) ?_
                          obtain ⟨y27, ey27⟩ : ∃ y27 : Int32, y27 = ((40 * x1) + x2) := ⟨_, rfl⟩
                          have k := k y27 ey27
                          rw [← ey27]
                          refine Ev_istore (lo2 := [.ref 57, .int x1, .int x2, .int x3, .int x4, .int x5, .int y27, zU, zU, zU]) hq_211 (show decode prog_7_method_85_code 133 = .ok (.istore 6, 2) by decide +kernel) (z_le rfl) rfl ?_
                          refine Ev_bipush (v := 40) hq_211 (show decode prog_7_method_85_code 135 = .ok (.bipush 40, 2) by decide +kernel) (by decide) ?_
                          refine Ev_iload_n hq_211 (show decode prog_7_method_85_code 137 = .ok (.iload_n 3, 1) by decide +kernel) rfl ?_
                          refine Ev_imul hq_211 (show decode prog_7_method_85_code 138 = .ok (.imul, 1) by decide +kernel) ?_
                          refine Ev_iload hq_211 (show decode prog_7_method_85_code 139 = .ok (.iload 4, 2) by decide +kernel) rfl ?_
                          refine Ev_iadd hq_211 (show decode prog_7_method_85_code 141 = .ok (.iadd, 1) by decide +kernel) ?_
                          obtain ⟨y28, ey28⟩ : ∃ y28 : Int32, y28 = ((40 * x3) + x4) := ⟨_, rfl⟩
                          have k := k y28 ey28
                          rw [← ey28]
                          refine Ev_istore (lo2 := [.ref 57, .int x1, .int x2, .int x3, .int x4, .int x5, .int y27, .int y28, zU, zU]) hq_211 (show decode prog_7_method_85_code 142 = .ok (.istore 7, 2) by decide +kernel) (z_le rfl) rfl ?_
                          refine Ev_iconst (v := 0) hq_211 (show decode prog_7_method_85_code 144 = .ok (.iconst 0, 1) by decide +kernel) (by decide) ?_
                          refine Ev_istore (lo2 := [.ref 57, .int x1, .int x2, .int x3, .int x4, .int x5, .int y27, .int y28, .int 0, zU]) hq_211 (show decode prog_7_method_85_code 145 = .ok (.istore 8, 2) by decide +kernel) (z_le rfl) rfl ?_
                          exact k
                        · have k := k.2 c26
                          refine Ev_bipush (v := (-12)) hq_211 (show decode prog_7_method_85_code 124 = .ok (.bipush (-12), 2) by decide +kernel) (by decide) ?_
                          exact Ev_iret hq_211 (show decode prog_7_method_85_code 126 = .ok (.ireturn, 1) by decide +kernel) rfl k
          · have k := k.2 c15
            refine Ev_bipush (v := (-13)) hq_211 (show decode prog_7_method_85_code 59 = .ok (.bipush (-13), 2) by decide +kernel) (by decide) ?_
            exact Ev_iret hq_211 (show decode prog_7_method_85_code 61 = .ok (.ireturn, 1) by decide +kernel) rfl k
        · have k := k.2 (Classical.not_not.mp c12)
          refine Ev_bipush (v := (-11)) hq_211 (show decode prog_7_method_85_code 41 = .ok (.bipush (-11), 2) by decide +kernel) (by decide) ?_
          exact Ev_iret hq_211 (show decode prog_7_method_85_code 43 = .ok (.ireturn, 1) by decide +kernel) rfl k
    · have k := k.2 (Classical.not_not.mp c8)
      refine Ev_bipush (v := (-2)) hq_211 (show decode prog_7_method_85_code 18 = .ok (.bipush (-2), 2) by decide +kernel) (by decide) ?_
      exact Ev_iret hq_211 (show decode prog_7_method_85_code 20 = .ok (.ireturn, 1) by decide +kernel) rfl k
set_option maxRecDepth 20000 in
theorem wp_Z_copy_147 {X : Nat × (Nat → Int32)} {d : Nat} {G : zG} {I : zI} {res : Option Value × zG × zI} (x1 : Int32) (x2 : Int32) (x3 : Int32) (x4 : Int32) (x5 : Int32) (x6 : Int32) (x7 : Int32) (x8 : Int32) (v9 : Value) (cv9 : v9.category = 1) (hS : SG G) 
    (k : (x5 ≤ x8 → res = (some (.int x5), G, I)) ∧ (¬ x5 ≤ x8 → (x7 ≤ x6 → z_inr (x6 + x8) 160 ∧ (z_inr (x7 + x8) 160 ∧ (∀ I5 : zI, I5 = z_up I 67 (x7 + x8).toNatClampNeg (I 67 (x6 + x8).toNatClampNeg) → ∀ y6 : Int32, y6 = x8 + 1 → Ev X d 211 147 [.ref 57, .int x1, .int x2, .int x3, .int x4, .int x5, .int x6, .int x7, .int y6, .int x8] [] G I5 res))) ∧ (¬ x7 ≤ x6 → ∀ y7 : Int32, y7 = ((x5 - 1) - x8) → z_inr (x6 + y7) 160 ∧ (z_inr (x7 + y7) 160 ∧ (∀ I10 : zI, I10 = z_up I 67 (x7 + y7).toNatClampNeg (I 67 (x6 + y7).toNatClampNeg) → ∀ y11 : Int32, y11 = x8 + 1 → Ev X d 211 147 [.ref 57, .int x1, .int x2, .int x3, .int x4, .int x5, .int x6, .int x7, .int y11, .int y7] [] G I10 res))))) :
    Ev X d 211 147 [.ref 57, .int x1, .int x2, .int x3, .int x4, .int x5, .int x6, .int x7, .int x8, v9] [] G I res := by
  refine Ev_iload hq_211 (show decode prog_7_method_85_code 147 = .ok (.iload 8, 2) by decide +kernel) rfl ?_
  refine Ev_iload hq_211 (show decode prog_7_method_85_code 149 = .ok (.iload 5, 2) by decide +kernel) rfl ?_
  refine Ev_icmp_ge (tgt := 201) hq_211 (show decode prog_7_method_85_code 151 = .ok (.if_icmp .ge 50, 3) by decide +kernel) (by decide) (fun c1 => ?_) (fun c1 => ?_)
  · have k := k.1 c1
    refine Ev_iload hq_211 (show decode prog_7_method_85_code 201 = .ok (.iload 5, 2) by decide +kernel) rfl ?_
    exact Ev_iret hq_211 (show decode prog_7_method_85_code 203 = .ok (.ireturn, 1) by decide +kernel) rfl k
  · have k := k.2 c1
    refine Ev_iload hq_211 (show decode prog_7_method_85_code 154 = .ok (.iload 6, 2) by decide +kernel) rfl ?_
    refine Ev_iload hq_211 (show decode prog_7_method_85_code 156 = .ok (.iload 7, 2) by decide +kernel) rfl ?_
    refine Ev_icmp_ge (tgt := 171) hq_211 (show decode prog_7_method_85_code 158 = .ok (.if_icmp .ge 13, 3) by decide +kernel) (by decide) (fun c2 => ?_) (fun c2 => ?_)
    · have k := k.1 c2
      refine Ev_iload hq_211 (show decode prog_7_method_85_code 171 = .ok (.iload 8, 2) by decide +kernel) rfl ?_
      refine Ev_istore (lo2 := [.ref 57, .int x1, .int x2, .int x3, .int x4, .int x5, .int x6, .int x7, .int x8, .int x8]) hq_211 (show decode prog_7_method_85_code 173 = .ok (.istore 9, 2) by decide +kernel) (z_le rfl) rfl ?_
      refine Ev_aload_n hq_211 (show decode prog_7_method_85_code 175 = .ok (.aload_n 0, 1) by decide +kernel) rfl ?_
      refine Ev_getR hq_211 (show decode prog_7_method_85_code 176 = .ok (.getfield 37, 3) by decide +kernel) rfl (SGn hS (by decide)) (SGk hS rfl) (by decide) rfl (SGr hS rfl) ?_
      refine Ev_iload hq_211 (show decode prog_7_method_85_code 179 = .ok (.iload 7, 2) by decide +kernel) rfl ?_
      refine Ev_iload hq_211 (show decode prog_7_method_85_code 181 = .ok (.iload 9, 2) by decide +kernel) rfl ?_
      refine Ev_iadd hq_211 (show decode prog_7_method_85_code 183 = .ok (.iadd, 1) by decide +kernel) ?_
      refine Ev_aload_n hq_211 (show decode prog_7_method_85_code 184 = .ok (.aload_n 0, 1) by decide +kernel) rfl ?_
      refine Ev_getR hq_211 (show decode prog_7_method_85_code 185 = .ok (.getfield 37, 3) by decide +kernel) rfl (SGn hS (by decide)) (SGk hS rfl) (by decide) rfl (SGr hS rfl) ?_
      refine Ev_iload hq_211 (show decode prog_7_method_85_code 188 = .ok (.iload 6, 2) by decide +kernel) rfl ?_
      refine Ev_iload hq_211 (show decode prog_7_method_85_code 190 = .ok (.iload 9, 2) by decide +kernel) rfl ?_
      refine Ev_iadd hq_211 (show decode prog_7_method_85_code 192 = .ok (.iadd, 1) by decide +kernel) ?_
      obtain ⟨h3, k⟩ := k
      refine Ev_iald hq_211 (show decode prog_7_method_85_code 193 = .ok (.iaload, 1) by decide +kernel) (SGn hS (by decide)) (SGk hS rfl) (SGi hS rfl h3) ?_
      obtain ⟨h4, k⟩ := k
      refine Ev_iast hq_211 (show decode prog_7_method_85_code 194 = .ok (.iastore, 1) by decide +kernel) (SGn hS (by decide)) (SGk hS rfl) (SGi hS rfl h4) ?_
      obtain ⟨I5, eI5⟩ : ∃ I5 : zI, I5 = z_up I 67 (x7 + x8).toNatClampNeg (I 67 (x6 + x8).toNatClampNeg) := ⟨_, rfl⟩
      have k := k I5 eI5
      rw [← eI5]
      obtain ⟨y6, ey6⟩ : ∃ y6 : Int32, y6 = x8 + 1 := ⟨_, rfl⟩
      have k := k y6 ey6
      refine Ev_iinc (v := y6) (lo2 := [.ref 57, .int x1, .int x2, .int x3, .int x4, .int x5, .int x6, .int x7, .int y6, .int x8]) hq_211 (show decode prog_7_method_85_code 195 = .ok (.iinc 8 1, 3) by decide +kernel) rfl (by rw [ey6]; rfl) rfl ?_
      refine Ev_goto (tgt := 147) hq_211 (show decode prog_7_method_85_code 198 = .ok (.goto (-51), 3) by decide +kernel) (by decide) ?_
      exact k
    · have k := k.2 c2
      refine Ev_iload hq_211 (show decode prog_7_method_85_code 161 = .ok (.iload 5, 2) by decide +kernel) rfl ?_
      refine Ev_iconst (v := 1) hq_211 (show decode prog_7_method_85_code 163 = .ok (.iconst 1, 1) by decide +kernel) (by decide) ?_
      refine Ev_isub hq_211 (show decode prog_7_method_85_code 164 = .ok (.isub, 1) by decide +kernel) ?_
      refine Ev_iload hq_211 (show decode prog_7_method_85_code 165 = .ok (.iload 8, 2) by decide +kernel) rfl ?_
      refine Ev_isub hq_211 (show decode prog_7_method_85_code 167 = .ok (.isub, 1) by decide +kernel) ?_
      refine Ev_goto (tgt := 173) hq_211 (show decode prog_7_method_85_code 168 = .ok (.goto 5, 3) by decide +kernel) (by decide) ?_
      obtain ⟨y7, ey7⟩ : ∃ y7 : Int32, y7 = ((x5 - 1) - x8) := ⟨_, rfl⟩
      have k := k y7 ey7
      rw [← ey7]
      refine Ev_istore (lo2 := [.ref 57, .int x1, .int x2, .int x3, .int x4, .int x5, .int x6, .int x7, .int x8, .int y7]) hq_211 (show decode prog_7_method_85_code 173 = .ok (.istore 9, 2) by decide +kernel) (z_le rfl) rfl ?_
      refine Ev_aload_n hq_211 (show decode prog_7_method_85_code 175 = .ok (.aload_n 0, 1) by decide +kernel) rfl ?_
      refine Ev_getR hq_211 (show decode prog_7_method_85_code 176 = .ok (.getfield 37, 3) by decide +kernel) rfl (SGn hS (by decide)) (SGk hS rfl) (by decide) rfl (SGr hS rfl) ?_
      refine Ev_iload hq_211 (show decode prog_7_method_85_code 179 = .ok (.iload 7, 2) by decide +kernel) rfl ?_
      refine Ev_iload hq_211 (show decode prog_7_method_85_code 181 = .ok (.iload 9, 2) by decide +kernel) rfl ?_
      refine Ev_iadd hq_211 (show decode prog_7_method_85_code 183 = .ok (.iadd, 1) by decide +kernel) ?_
      refine Ev_aload_n hq_211 (show decode prog_7_method_85_code 184 = .ok (.aload_n 0, 1) by decide +kernel) rfl ?_
      refine Ev_getR hq_211 (show decode prog_7_method_85_code 185 = .ok (.getfield 37, 3) by decide +kernel) rfl (SGn hS (by decide)) (SGk hS rfl) (by decide) rfl (SGr hS rfl) ?_
      refine Ev_iload hq_211 (show decode prog_7_method_85_code 188 = .ok (.iload 6, 2) by decide +kernel) rfl ?_
      refine Ev_iload hq_211 (show decode prog_7_method_85_code 190 = .ok (.iload 9, 2) by decide +kernel) rfl ?_
      refine Ev_iadd hq_211 (show decode prog_7_method_85_code 192 = .ok (.iadd, 1) by decide +kernel) ?_
      obtain ⟨h8, k⟩ := k
      refine Ev_iald hq_211 (show decode prog_7_method_85_code 193 = .ok (.iaload, 1) by decide +kernel) (SGn hS (by decide)) (SGk hS rfl) (SGi hS rfl h8) ?_
      obtain ⟨h9, k⟩ := k
      refine Ev_iast hq_211 (show decode prog_7_method_85_code 194 = .ok (.iastore, 1) by decide +kernel) (SGn hS (by decide)) (SGk hS rfl) (SGi hS rfl h9) ?_
      obtain ⟨I10, eI10⟩ : ∃ I10 : zI, I10 = z_up I 67 (x7 + y7).toNatClampNeg (I 67 (x6 + y7).toNatClampNeg) := ⟨_, rfl⟩
      have k := k I10 eI10
      rw [← eI10]
      obtain ⟨y11, ey11⟩ : ∃ y11 : Int32, y11 = x8 + 1 := ⟨_, rfl⟩
      have k := k y11 ey11
      refine Ev_iinc (v := y11) (lo2 := [.ref 57, .int x1, .int x2, .int x3, .int x4, .int x5, .int x6, .int x7, .int y11, .int y7]) hq_211 (show decode prog_7_method_85_code 195 = .ok (.iinc 8 1, 3) by decide +kernel) rfl (by rw [ey11]; rfl) rfl ?_
      refine Ev_goto (tgt := 147) hq_211 (show decode prog_7_method_85_code 198 = .ok (.goto (-51), 3) by decide +kernel) (by decide) ?_
      exact k
set_option maxRecDepth 20000 in
theorem wp_Z_showersBy {X : Nat × (Nat → Int32)} {d : Nat} {G : zG} {I : zI} {res : Option Value × zG × zI} (x1 : Int32) (x2 : Int32) (x3 : Int32) (x4 : Int32) (hS : SG G) 
    (k : ∃ (r3 : Int32) (I1 : zI), Cv X d 131 [.int x1, .int 0, .int 3] G I (some (.int r3), G, I1) ∧ ((r3 = 0 → res = (some (.int (-2)), G, I1)) ∧ (¬ r3 = 0 → ∃ (r7 : Int32) (I5 : zI), Cv X d 131 [.int x2, .int 0, .int 2] G I1 (some (.int r7), G, I5) ∧ ((r7 = 0 → res = (some (.int (-2)), G, I5)) ∧ (¬ r7 = 0 → ∃ (r11 : Int32) (I9 : zI), Cv X d 131 [.int x4, .int 0, .int 4] G I5 (some (.int r11), G, I9) ∧ ((¬ r11 = 0 → z_inr x1 4 ∧ ((¬ (I9 65 x1.toNatClampNeg) = (-1) → z_inr x1 4 ∧ (((I9 65 x1.toNatClampNeg) = x2 → Ev X (d + 1) 212 63 [.ref 57, .int x1, .int x2, .int x3, .int x4, .int 0, .int 0, zU, zU] [] G I9 res) ∧ (¬ (I9 65 x1.toNatClampNeg) = x2 → res = (some (.int (-13)), G, I9)))) ∧ ((I9 65 x1.toNatClampNeg) = (-1) → res = (some (.int (-11)), G, I9)))) ∧ (r11 = 0 → res = (some (.int (-2)), G, I9)))))))) :
    Ev X (d + 1) 212 0 [.ref 57, .int x1, .int x2, .int x3, .int x4, zU, zU, zU, zU] [] G I res := by
  refine Ev_iload_n hq_212 (show decode prog_7_method_86_code 0 = .ok (.iload_n 1, 1) by decide +kernel) rfl ?_
  refine Ev_iconst (v := 0) hq_212 (show decode prog_7_method_86_code 1 = .ok (.iconst 0, 1) by decide +kernel) (by decide) ?_
  refine Ev_iconst (v := 3) hq_212 (show decode prog_7_method_86_code 2 = .ok (.iconst 3, 1) by decide +kernel) (by decide) ?_
  obtain ⟨r3, I1, h2, k⟩ := k
  refine Ev_stat (as := [.int x1, .int 0, .int 3]) hq_212 (show decode prog_7_method_86_code 3 = .ok (.invokestatic 90, 3) by decide +kernel) rfl (Or.inl rfl) hq_131 rfl (z_le rfl) h2 ?_
  refine Ev_if_eq (tgt := 28) hq_212 (show decode prog_7_method_86_code 6 = .ok (.ifCond .eq 22, 3) by decide +kernel) (by decide) (fun c4 => ?_) (fun c4 => ?_)
  · have k := k.1 c4
    refine Ev_bipush (v := (-2)) hq_212 (show decode prog_7_method_86_code 28 = .ok (.bipush (-2), 2) by decide +kernel) (by decide) ?_
    exact Ev_iret hq_212 (show decode prog_7_method_86_code 30 = .ok (.ireturn, 1) by decide +kernel) rfl k
  · have k := k.2 c4
    refine Ev_iload_n hq_212 (show decode prog_7_method_86_code 9 = .ok (.iload_n 2, 1) by decide +kernel) rfl ?_
    refine Ev_iconst (v := 0) hq_212 (show decode prog_7_method_86_code 10 = .ok (.iconst 0, 1) by decide +kernel) (by decide) ?_
    refine Ev_iconst (v := 2) hq_212 (show decode prog_7_method_86_code 11 = .ok (.iconst 2, 1) by decide +kernel) (by decide) ?_
    obtain ⟨r7, I5, h6, k⟩ := k
    refine Ev_stat (as := [.int x2, .int 0, .int 2]) hq_212 (show decode prog_7_method_86_code 12 = .ok (.invokestatic 90, 3) by decide +kernel) rfl (Or.inl rfl) hq_131 rfl (z_le rfl) h6 ?_
    refine Ev_if_eq (tgt := 28) hq_212 (show decode prog_7_method_86_code 15 = .ok (.ifCond .eq 13, 3) by decide +kernel) (by decide) (fun c8 => ?_) (fun c8 => ?_)
    · have k := k.1 c8
      refine Ev_bipush (v := (-2)) hq_212 (show decode prog_7_method_86_code 28 = .ok (.bipush (-2), 2) by decide +kernel) (by decide) ?_
      exact Ev_iret hq_212 (show decode prog_7_method_86_code 30 = .ok (.ireturn, 1) by decide +kernel) rfl k
    · have k := k.2 c8
      refine Ev_iload hq_212 (show decode prog_7_method_86_code 18 = .ok (.iload 4, 2) by decide +kernel) rfl ?_
      refine Ev_iconst (v := 0) hq_212 (show decode prog_7_method_86_code 20 = .ok (.iconst 0, 1) by decide +kernel) (by decide) ?_
      refine Ev_iconst (v := 4) hq_212 (show decode prog_7_method_86_code 21 = .ok (.iconst 4, 1) by decide +kernel) (by decide) ?_
      obtain ⟨r11, I9, h10, k⟩ := k
      refine Ev_stat (as := [.int x4, .int 0, .int 4]) hq_212 (show decode prog_7_method_86_code 22 = .ok (.invokestatic 90, 3) by decide +kernel) rfl (Or.inl rfl) hq_131 rfl (z_le rfl) h10 ?_
      refine Ev_if_ne (tgt := 31) hq_212 (show decode prog_7_method_86_code 25 = .ok (.ifCond .ne 6, 3) by decide +kernel) (by decide) (fun c12 => ?_) (fun c12 => ?_)
      · have k := k.1 c12
        refine Ev_aload_n hq_212 (show decode prog_7_method_86_code 31 = .ok (.aload_n 0, 1) by decide +kernel) rfl ?_
        refine Ev_getR hq_212 (show decode prog_7_method_86_code 32 = .ok (.getfield 31, 3) by decide +kernel) rfl (SGn hS (by decide)) (SGk hS rfl) (by decide) rfl (SGr hS rfl) ?_
        refine Ev_iload_n hq_212 (show decode prog_7_method_86_code 35 = .ok (.iload_n 1, 1) by decide +kernel) rfl ?_
        obtain ⟨h13, k⟩ := k
        refine Ev_iald hq_212 (show decode prog_7_method_86_code 36 = .ok (.iaload, 1) by decide +kernel) (SGn hS (by decide)) (SGk hS rfl) (SGi hS rfl h13) ?_
        refine Ev_iconst (v := (-1)) hq_212 (show decode prog_7_method_86_code 37 = .ok (.iconst (-1), 1) by decide +kernel) (by decide) ?_
        refine Ev_icmp_ne (tgt := 44) hq_212 (show decode prog_7_method_86_code 38 = .ok (.if_icmp .ne 6, 3) by decide +kernel) (by decide) (fun c14 => ?_) (fun c14 => ?_)
        · have k := k.1 c14
          refine Ev_aload_n hq_212 (show decode prog_7_method_86_code 44 = .ok (.aload_n 0, 1) by decide +kernel) rfl ?_
          refine Ev_getR hq_212 (show decode prog_7_method_86_code 45 = .ok (.getfield 31, 3) by decide +kernel) rfl (SGn hS (by decide)) (SGk hS rfl) (by decide) rfl (SGr hS rfl) ?_
          refine Ev_iload_n hq_212 (show decode prog_7_method_86_code 48 = .ok (.iload_n 1, 1) by decide +kernel) rfl ?_
          obtain ⟨h15, k⟩ := k
          refine Ev_iald hq_212 (show decode prog_7_method_86_code 49 = .ok (.iaload, 1) by decide +kernel) (SGn hS (by decide)) (SGk hS rfl) (SGi hS rfl h15) ?_
          refine Ev_iload_n hq_212 (show decode prog_7_method_86_code 50 = .ok (.iload_n 2, 1) by decide +kernel) rfl ?_
          refine Ev_icmp_eq (tgt := 57) hq_212 (show decode prog_7_method_86_code 51 = .ok (.if_icmp .eq 6, 3) by decide +kernel) (by decide) (fun c16 => ?_) (fun c16 => ?_)
          · have k := k.1 c16
            refine Ev_iconst (v := 0) hq_212 (show decode prog_7_method_86_code 57 = .ok (.iconst 0, 1) by decide +kernel) (by decide) ?_
            refine Ev_istore (lo2 := [.ref 57, .int x1, .int x2, .int x3, .int x4, .int 0, zU, zU, zU]) hq_212 (show decode prog_7_method_86_code 58 = .ok (.istore 5, 2) by decide +kernel) (z_le rfl) rfl ?_
            refine Ev_iconst (v := 0) hq_212 (show decode prog_7_method_86_code 60 = .ok (.iconst 0, 1) by decide +kernel) (by decide) ?_
            refine Ev_istore (lo2 := [.ref 57, .int x1, .int x2, .int x3, .int x4, .int 0, .int 0, zU, zU]) hq_212 (show decode prog_7_method_86_code 61 = .ok (.istore 6, 2) by decide +kernel) (z_le rfl) rfl ?_
            exact k
          · have k := k.2 c16
            refine Ev_bipush (v := (-13)) hq_212 (show decode prog_7_method_86_code 54 = .ok (.bipush (-13), 2) by decide +kernel) (by decide) ?_
            exact Ev_iret hq_212 (show decode prog_7_method_86_code 56 = .ok (.ireturn, 1) by decide +kernel) rfl k
        · have k := k.2 (Classical.not_not.mp c14)
          refine Ev_bipush (v := (-11)) hq_212 (show decode prog_7_method_86_code 41 = .ok (.bipush (-11), 2) by decide +kernel) (by decide) ?_
          exact Ev_iret hq_212 (show decode prog_7_method_86_code 43 = .ok (.ireturn, 1) by decide +kernel) rfl k
      · have k := k.2 (Classical.not_not.mp c12)
        refine Ev_bipush (v := (-2)) hq_212 (show decode prog_7_method_86_code 28 = .ok (.bipush (-2), 2) by decide +kernel) (by decide) ?_
        exact Ev_iret hq_212 (show decode prog_7_method_86_code 30 = .ok (.ireturn, 1) by decide +kernel) rfl k
set_option maxRecDepth 20000 in
theorem wp_Z_showersBy_63 {X : Nat × (Nat → Int32)} {d : Nat} {G : zG} {I : zI} {res : Option Value × zG × zI} (x1 : Int32) (x2 : Int32) (x3 : Int32) (x4 : Int32) (x5 : Int32) (x6 : Int32) (v7 : Value) (cv7 : v7.category = 1) (v8 : Value) (cv8 : v8.category = 1) (hS : SG G) 
    (k : (x4 ≤ x6 → res = (some (.int x5), G, I)) ∧ (¬ x4 ≤ x6 → ∀ y2 : Int32, y2 = (x3 + (3 * x6)) → (x3 < 0 → res = (some (.int (-12)), G, I)) ∧ (¬ x3 < 0 → (y2 < x3 → res = (some (.int (-12)), G, I)) ∧ (¬ y2 < x3 → z_inr x1 4 ∧ ((y2 ≤ ((I 66 x1.toNatClampNeg) - 3) → ∀ y7 : Int32, y7 = ((40 * x1) + y2) → z_inr y7 160 ∧ (z_inr (y7 + 1) 160 ∧ (z_inr (y7 + 2) 160 ∧ (∃ (r13 : Int32) (I11 : zI), Cv X d 153 [.ref 57, .int (I 67 y7.toNatClampNeg), .int (I 67 (y7 + 1).toNatClampNeg), .int (I 67 (y7 + 2).toNatClampNeg)] G I (some (.int r13), G, I11) ∧ ((r13 < 0 → ∀ y15 : Int32, y15 = (x5 + 0) → ∀ y16 : Int32, y16 = x6 + 1 → Ev X (d + 1) 212 63 [.ref 57, .int x1, .int x2, .int x3, .int x4, .int y15, .int y16, .int y2, .int y7] [] G I11 res) ∧ (¬ r13 < 0 → ∀ y17 : Int32, y17 = (x5 + 1) → ∀ y18 : Int32, y18 = x6 + 1 → Ev X (d + 1) 212 63 [.ref 57, .int x1, .int x2, .int x3, .int x4, .int y17, .int y18, .int y2, .int y7] [] G I11 res)))))) ∧ (¬ y2 ≤ ((I 66 x1.toNatClampNeg) - 3) → res = (some (.int (-12)), G, I))))))) :
    Ev X (d + 1) 212 63 [.ref 57, .int x1, .int x2, .int x3, .int x4, .int x5, .int x6, v7, v8] [] G I res := by
  refine Ev_iload hq_212 (show decode prog_7_method_86_code 63 = .ok (.iload 6, 2) by decide +kernel) rfl ?_
  refine Ev_iload hq_212 (show decode prog_7_method_86_code 65 = .ok (.iload 4, 2) by decide +kernel) rfl ?_
  refine Ev_icmp_ge (tgt := 161) hq_212 (show decode prog_7_method_86_code 67 = .ok (.if_icmp .ge 94, 3) by decide +kernel) (by decide) (fun c1 => ?_) (fun c1 => ?_)
  · have k := k.1 c1
    refine Ev_iload hq_212 (show decode prog_7_method_86_code 161 = .ok (.iload 5, 2) by decide +kernel) rfl ?_
    exact Ev_iret hq_212 (show decode prog_7_method_86_code 163 = .ok (.ireturn, 1) by decide +kernel) rfl k
  · have k := k.2 c1
    refine Ev_iload_n hq_212 (show decode prog_7_method_86_code 70 = .ok (.iload_n 3, 1) by decide +kernel) rfl ?_
    refine Ev_iconst (v := 3) hq_212 (show decode prog_7_method_86_code 71 = .ok (.iconst 3, 1) by decide +kernel) (by decide) ?_
    refine Ev_iload hq_212 (show decode prog_7_method_86_code 72 = .ok (.iload 6, 2) by decide +kernel) rfl ?_
    refine Ev_imul hq_212 (show decode prog_7_method_86_code 74 = .ok (.imul, 1) by decide +kernel) ?_
    refine Ev_iadd hq_212 (show decode prog_7_method_86_code 75 = .ok (.iadd, 1) by decide +kernel) ?_
    obtain ⟨y2, ey2⟩ : ∃ y2 : Int32, y2 = (x3 + (3 * x6)) := ⟨_, rfl⟩
    have k := k y2 ey2
    rw [← ey2]
    refine Ev_istore (lo2 := [.ref 57, .int x1, .int x2, .int x3, .int x4, .int x5, .int x6, .int y2, v8]) hq_212 (show decode prog_7_method_86_code 76 = .ok (.istore 7, 2) by decide +kernel) (z_le rfl) rfl ?_
    refine Ev_iload_n hq_212 (show decode prog_7_method_86_code 78 = .ok (.iload_n 3, 1) by decide +kernel) rfl ?_
    refine Ev_if_lt (tgt := 101) hq_212 (show decode prog_7_method_86_code 79 = .ok (.ifCond .lt 22, 3) by decide +kernel) (by decide) (fun c3 => ?_) (fun c3 => ?_)
    · have k := k.1 c3
      refine Ev_bipush (v := (-12)) hq_212 (show decode prog_7_method_86_code 101 = .ok (.bipush (-12), 2) by decide +kernel) (by decide) ?_
      exact Ev_iret hq_212 (show decode prog_7_method_86_code 103 = .ok (.ireturn, 1) by decide +kernel) rfl k
    · have k := k.2 c3
      refine Ev_iload hq_212 (show decode prog_7_method_86_code 82 = .ok (.iload 7, 2) by decide +kernel) rfl ?_
      refine Ev_iload_n hq_212 (show decode prog_7_method_86_code 84 = .ok (.iload_n 3, 1) by decide +kernel) rfl ?_
      refine Ev_icmp_lt (tgt := 101) hq_212 (show decode prog_7_method_86_code 85 = .ok (.if_icmp .lt 16, 3) by decide +kernel) (by decide) (fun c4 => ?_) (fun c4 => ?_)
      · have k := k.1 c4
        refine Ev_bipush (v := (-12)) hq_212 (show decode prog_7_method_86_code 101 = .ok (.bipush (-12), 2) by decide +kernel) (by decide) ?_
        exact Ev_iret hq_212 (show decode prog_7_method_86_code 103 = .ok (.ireturn, 1) by decide +kernel) rfl k
      · have k := k.2 c4
        refine Ev_iload hq_212 (show decode prog_7_method_86_code 88 = .ok (.iload 7, 2) by decide +kernel) rfl ?_
        refine Ev_aload_n hq_212 (show decode prog_7_method_86_code 90 = .ok (.aload_n 0, 1) by decide +kernel) rfl ?_
        refine Ev_getR hq_212 (show decode prog_7_method_86_code 91 = .ok (.getfield 34, 3) by decide +kernel) rfl (SGn hS (by decide)) (SGk hS rfl) (by decide) rfl (SGr hS rfl) ?_
        refine Ev_iload_n hq_212 (show decode prog_7_method_86_code 94 = .ok (.iload_n 1, 1) by decide +kernel) rfl ?_
        obtain ⟨h5, k⟩ := k
        refine Ev_iald hq_212 (show decode prog_7_method_86_code 95 = .ok (.iaload, 1) by decide +kernel) (SGn hS (by decide)) (SGk hS rfl) (SGi hS rfl h5) ?_
        refine Ev_iconst (v := 3) hq_212 (show decode prog_7_method_86_code 96 = .ok (.iconst 3, 1) by decide +kernel) (by decide) ?_
        refine Ev_isub hq_212 (show decode prog_7_method_86_code 97 = .ok (.isub, 1) by decide +kernel) ?_
        refine Ev_icmp_le (tgt := 104) hq_212 (show decode prog_7_method_86_code 98 = .ok (.if_icmp .le 6, 3) by decide +kernel) (by decide) (fun c6 => ?_) (fun c6 => ?_)
        · have k := k.1 c6
          refine Ev_bipush (v := 40) hq_212 (show decode prog_7_method_86_code 104 = .ok (.bipush 40, 2) by decide +kernel) (by decide) ?_
          refine Ev_iload_n hq_212 (show decode prog_7_method_86_code 106 = .ok (.iload_n 1, 1) by decide +kernel) rfl ?_
          refine Ev_imul hq_212 (show decode prog_7_method_86_code 107 = .ok (.imul, 1) by decide +kernel) ?_
          refine Ev_iload hq_212 (show decode prog_7_method_86_code 108 = .ok (.iload 7, 2) by decide +kernel) rfl ?_
          refine Ev_iadd hq_212 (show decode prog_7_method_86_code 110 = .ok (.iadd, 1) by decide +kernel) ?_
          obtain ⟨y7, ey7⟩ : ∃ y7 : Int32, y7 = ((40 * x1) + y2) := ⟨_, rfl⟩
          have k := k y7 ey7
          rw [← ey7]
          refine Ev_istore (lo2 := [.ref 57, .int x1, .int x2, .int x3, .int x4, .int x5, .int x6, .int y2, .int y7]) hq_212 (show decode prog_7_method_86_code 111 = .ok (.istore 8, 2) by decide +kernel) (z_le rfl) rfl ?_
          refine Ev_iload hq_212 (show decode prog_7_method_86_code 113 = .ok (.iload 5, 2) by decide +kernel) rfl ?_
          refine Ev_aload_n hq_212 (show decode prog_7_method_86_code 115 = .ok (.aload_n 0, 1) by decide +kernel) rfl ?_
          refine Ev_aload_n hq_212 (show decode prog_7_method_86_code 116 = .ok (.aload_n 0, 1) by decide +kernel) rfl ?_
          refine Ev_getR hq_212 (show decode prog_7_method_86_code 117 = .ok (.getfield 37, 3) by decide +kernel) rfl (SGn hS (by decide)) (SGk hS rfl) (by decide) rfl (SGr hS rfl) ?_
          refine Ev_iload hq_212 (show decode prog_7_method_86_code 120 = .ok (.iload 8, 2) by decide +kernel) rfl ?_
          obtain ⟨h8, k⟩ := k
          refine Ev_iald hq_212 (show decode prog_7_method_86_code 122 = .ok (.iaload, 1) by decide +kernel) (SGn hS (by decide)) (SGk hS rfl) (SGi hS rfl h8) ?_
          refine Ev_aload_n hq_212 (show decode prog_7_method_86_code 123 = .ok (.aload_n 0, 1) by decide +kernel) rfl ?_
          refine Ev_getR hq_212 (show decode prog_7_method_86_code 124 = .ok (.getfield 37, 3) by decide +kernel) rfl (SGn hS (by decide)) (SGk hS rfl) (by decide) rfl (SGr hS rfl) ?_
          refine Ev_iload hq_212 (show decode prog_7_method_86_code 127 = .ok (.iload 8, 2) by decide +kernel) rfl ?_
          refine Ev_iconst (v := 1) hq_212 (show decode prog_7_method_86_code 129 = .ok (.iconst 1, 1) by decide +kernel) (by decide) ?_
          refine Ev_iadd hq_212 (show decode prog_7_method_86_code 130 = .ok (.iadd, 1) by decide +kernel) ?_
          obtain ⟨h9, k⟩ := k
          refine Ev_iald hq_212 (show decode prog_7_method_86_code 131 = .ok (.iaload, 1) by decide +kernel) (SGn hS (by decide)) (SGk hS rfl) (SGi hS rfl h9) ?_
          refine Ev_aload_n hq_212 (show decode prog_7_method_86_code 132 = .ok (.aload_n 0, 1) by decide +kernel) rfl ?_
          refine Ev_getR hq_212 (show decode prog_7_method_86_code 133 = .ok (.getfield 37, 3) by decide +kernel) rfl (SGn hS (by decide)) (SGk hS rfl) (by decide) rfl (SGr hS rfl) ?_
          refine Ev_iload hq_212 (show decode prog_7_method_86_code 136 = .ok (.iload 8, 2) by decide +kernel) rfl ?_
          refine Ev_iconst (v := 2) hq_212 (show decode prog_7_method_86_code 138 = .ok (.iconst 2, 1) by decide +kernel) (by decide) ?_
          refine Ev_iadd hq_212 (show decode prog_7_method_86_code 139 = .ok (.iadd, 1) by decide +kernel) ?_
          obtain ⟨h10, k⟩ := k
          refine Ev_iald hq_212 (show decode prog_7_method_86_code 140 = .ok (.iaload, 1) by decide +kernel) (SGn hS (by decide)) (SGk hS rfl) (SGi hS rfl h10) ?_
          obtain ⟨r13, I11, h12, k⟩ := k
          refine Ev_virt (as := [.int (I 67 y7.toNatClampNeg), .int (I 67 (y7 + 1).toNatClampNeg), .int (I 67 (y7 + 2).toNatClampNeg)]) hq_212 (show decode prog_7_method_86_code 141 = .ok (.invokevirtual 292, 3) by decide +kernel) rfl hq_153 rfl (z_le rfl) ⟨(SGn hS (by decide)), (SGk hS rfl), by decide⟩ h12 ?_
          refine Ev_if_lt (tgt := 151) hq_212 (show decode prog_7_method_86_code 144 = .ok (.ifCond .lt 7, 3) by decide +kernel) (by decide) (fun c14 => ?_) (fun c14 => ?_)
          · have k := k.1 c14
            refine Ev_iconst (v := 0) hq_212 (show decode prog_7_method_86_code 151 = .ok (.iconst 0, 1) by decide +kernel) (by decide) ?_
            refine Ev_iadd hq_212 (show decode prog_7_method_86_code 152 = .ok (.iadd, 1) by decide +kernel) ?_
            obtain ⟨y15, ey15⟩ : ∃ y15 : Int32, y15 = (x5 + 0) := ⟨_, rfl⟩
            have k := k y15 ey15
            rw [← ey15]
            refine Ev_istore (lo2 := [.ref 57, .int x1, .int x2, .int x3, .int x4, .int y15, .int x6, .int y2, .int y7]) hq_212 (show decode prog_7_method_86_code 153 = .ok (.istore 5, 2) by decide +kernel) (z_le rfl) rfl ?_
            obtain ⟨y16, ey16⟩ : ∃ y16 : Int32, y16 = x6 + 1 := ⟨_, rfl⟩
            have k := k y16 ey16
            refine Ev_iinc (v := y16) (lo2 := [.ref 57, .int x1, .int x2, .int x3, .int x4, .int y15, .int y16, .int y2, .int y7]) hq_212 (show decode prog_7_method_86_code 155 = .ok (.iinc 6 1, 3) by decide +kernel) rfl (by rw [ey16]; rfl) rfl ?_
            refine Ev_goto (tgt := 63) hq_212 (show decode prog_7_method_86_code 158 = .ok (.goto (-95), 3) by decide +kernel) (by decide) ?_
            exact k
          · have k := k.2 c14
            refine Ev_iconst (v := 1) hq_212 (show decode prog_7_method_86_code 147 = .ok (.iconst 1, 1) by decide +kernel) (by decide) ?_
            refine Ev_goto (tgt := 152) hq_212 (show decode prog_7_method_86_code 148 = .ok (.goto 4, 3) by decide +kernel) (by decide) ?_
            refine Ev_iadd hq_212 (show decode prog_7_method_86_code 152 = .ok (.iadd, 1) by decide +kernel) ?_
            obtain ⟨y17, ey17⟩ : ∃ y17 : Int32, y17 = (x5 + 1) := ⟨_, rfl⟩
            have k := k y17 ey17
            rw [← ey17]
            refine Ev_istore (lo2 := [.ref 57, .int x1, .int x2, .int x3, .int x4, .int y17, .int x6, .int y2, .int y7]) hq_212 (show decode prog_7_method_86_code 153 = .ok (.istore 5, 2) by decide +kernel) (z_le rfl) rfl ?_
            obtain ⟨y18, ey18⟩ : ∃ y18 : Int32, y18 = x6 + 1 := ⟨_, rfl⟩
            have k := k y18 ey18
            refine Ev_iinc (v := y18) (lo2 := [.ref 57, .int x1, .int x2, .int x3, .int x4, .int y17, .int y18, .int y2, .int y7]) hq_212 (show decode prog_7_method_86_code 155 = .ok (.iinc 6 1, 3) by decide +kernel) rfl (by rw [ey18]; rfl) rfl ?_
            refine Ev_goto (tgt := 63) hq_212 (show decode prog_7_method_86_code 158 = .ok (.goto (-95), 3) by decide +kernel) (by decide) ?_
            exact k
        · have k := k.2 c6
          refine Ev_bipush (v := (-12)) hq_212 (show decode prog_7_method_86_code 101 = .ok (.bipush (-12), 2) by decide +kernel) (by decide) ?_
          exact Ev_iret hq_212 (show decode prog_7_method_86_code 103 = .ok (.ireturn, 1) by decide +kernel) rfl k
set_option maxRecDepth 20000 in
theorem wp_Z_taken {X : Nat × (Nat → Int32)} {d : Nat} {G : zG} {I : zI} {res : Option Value × zG × zI} (x1 : Int32) (x2 : Int32) (hS : SG G) 
    (k : ∃ (r3 : Int32) (I1 : zI), Cv X d 131 [.int x2, .int 0, .int 6] G I (some (.int r3), G, I1) ∧ ((¬ r3 = 0 → ∃ (r7 : Int32) (I5 : zI), Cv X d 131 [.int x1, .int 0, .int 7] G I1 (some (.int r7), G, I5) ∧ ((¬ r7 = 0 → ((x1 - x1 / 4 * 4) < (I5 57 0) → (4 ≤ x1 → ∃ (r13 : Int32) (I11 : zI), Cv X d 143 [.ref 57, .int (x1 - 4)] G I5 (some (.int r13), G, I11) ∧ ((¬ r13 = 0 → (¬ x2 = 6 → res = (some (.int (-13)), G, I11)) ∧ (x2 = 6 → z_inr ((5 * (x1 - 4)) + 2) 20 ∧ (res = (some (.int (I11 60 ((5 * (x1 - 4)) + 2).toNatClampNeg)), G, I11)))) ∧ (r13 = 0 → res = (some (.int (-11)), G, I11)))) ∧ (¬ 4 ≤ x1 → (6 ≤ x2 → res = (some (.int (-13)), G, I5)) ∧ (¬ 6 ≤ x2 → z_inr x1 4 ∧ (∃ (r21 : Int32) (I19 : zI), Cv X d 214 [.int (I5 58 x1.toNatClampNeg), .int x2] G I5 (some (.int r21), G, I19) ∧ ((r21 = 0 → res = (some (.int (-13)), G, I19)) ∧ (¬ r21 = 0 → res = (some (.int x1), G, I19))))))) ∧ (¬ (x1 - x1 / 4 * 4) < (I5 57 0) → res = (some (.int (-11)), G, I5))) ∧ (r7 = 0 → res = (some (.int (-12)), G, I5)))) ∧ (r3 = 0 → res = (some (.int (-2)), G, I1)))) :
    Ev X (d + 1) 213 0 [.ref 57, .int x1, .int x2] [] G I res := by
  refine Ev_iload_n hq_213 (show decode prog_7_method_88_code 0 = .ok (.iload_n 2, 1) by decide +kernel) rfl ?_
  refine Ev_iconst (v := 0) hq_213 (show decode prog_7_method_88_code 1 = .ok (.iconst 0, 1) by decide +kernel) (by decide) ?_
  refine Ev_bipush (v := 6) hq_213 (show decode prog_7_method_88_code 2 = .ok (.bipush 6, 2) by decide +kernel) (by decide) ?_
  obtain ⟨r3, I1, h2, k⟩ := k
  refine Ev_stat (as := [.int x2, .int 0, .int 6]) hq_213 (show decode prog_7_method_88_code 4 = .ok (.invokestatic 90, 3) by decide +kernel) rfl (Or.inl rfl) hq_131 rfl (z_le rfl) h2 ?_
  refine Ev_if_ne (tgt := 13) hq_213 (show decode prog_7_method_88_code 7 = .ok (.ifCond .ne 6, 3) by decide +kernel) (by decide) (fun c4 => ?_) (fun c4 => ?_)
  · have k := k.1 c4
    refine Ev_iload_n hq_213 (show decode prog_7_method_88_code 13 = .ok (.iload_n 1, 1) by decide +kernel) rfl ?_
    refine Ev_iconst (v := 0) hq_213 (show decode prog_7_method_88_code 14 = .ok (.iconst 0, 1) by decide +kernel) (by decide) ?_
    refine Ev_bipush (v := 7) hq_213 (show decode prog_7_method_88_code 15 = .ok (.bipush 7, 2) by decide +kernel) (by decide) ?_
    obtain ⟨r7, I5, h6, k⟩ := k
    refine Ev_stat (as := [.int x1, .int 0, .int 7]) hq_213 (show decode prog_7_method_88_code 17 = .ok (.invokestatic 90, 3) by decide +kernel) rfl (Or.inl rfl) hq_131 rfl (z_le rfl) h6 ?_
    refine Ev_if_ne (tgt := 26) hq_213 (show decode prog_7_method_88_code 20 = .ok (.ifCond .ne 6, 3) by decide +kernel) (by decide) (fun c8 => ?_) (fun c8 => ?_)
    · have k := k.1 c8
      refine Ev_iload_n hq_213 (show decode prog_7_method_88_code 26 = .ok (.iload_n 1, 1) by decide +kernel) rfl ?_
      refine Ev_iconst (v := 4) hq_213 (show decode prog_7_method_88_code 27 = .ok (.iconst 4, 1) by decide +kernel) (by decide) ?_
      refine Ev_irem hq_213 (show decode prog_7_method_88_code 28 = .ok (.irem, 1) by decide +kernel) (by decide) ?_
      refine Ev_aload_n hq_213 (show decode prog_7_method_88_code 29 = .ok (.aload_n 0, 1) by decide +kernel) rfl ?_
      refine Ev_getI hq_213 (show decode prog_7_method_88_code 30 = .ok (.getfield 87, 3) by decide +kernel) rfl (SGn hS (by decide)) (SGk hS rfl) (by decide) rfl ?_
      refine Ev_icmp_lt (tgt := 39) hq_213 (show decode prog_7_method_88_code 33 = .ok (.if_icmp .lt 6, 3) by decide +kernel) (by decide) (fun c9 => ?_) (fun c9 => ?_)
      · have k := k.1 c9
        refine Ev_iload_n hq_213 (show decode prog_7_method_88_code 39 = .ok (.iload_n 1, 1) by decide +kernel) rfl ?_
        refine Ev_iconst (v := 4) hq_213 (show decode prog_7_method_88_code 40 = .ok (.iconst 4, 1) by decide +kernel) (by decide) ?_
        refine Ev_icmp_ge (tgt := 70) hq_213 (show decode prog_7_method_88_code 41 = .ok (.if_icmp .ge 29, 3) by decide +kernel) (by decide) (fun c10 => ?_) (fun c10 => ?_)
        · have k := k.1 c10
          refine Ev_aload_n hq_213 (show decode prog_7_method_88_code 70 = .ok (.aload_n 0, 1) by decide +kernel) rfl ?_
          refine Ev_iload_n hq_213 (show decode prog_7_method_88_code 71 = .ok (.iload_n 1, 1) by decide +kernel) rfl ?_
          refine Ev_iconst (v := 4) hq_213 (show decode prog_7_method_88_code 72 = .ok (.iconst 4, 1) by decide +kernel) (by decide) ?_
          refine Ev_isub hq_213 (show decode prog_7_method_88_code 73 = .ok (.isub, 1) by decide +kernel) ?_
          obtain ⟨r13, I11, h12, k⟩ := k
          refine Ev_virt (as := [.int (x1 - 4)]) hq_213 (show decode prog_7_method_88_code 74 = .ok (.invokevirtual 94, 3) by decide +kernel) rfl hq_143 rfl (z_le rfl) ⟨(SGn hS (by decide)), (SGk hS rfl), by decide⟩ h12 ?_
          refine Ev_if_ne (tgt := 85) hq_213 (show decode prog_7_method_88_code 77 = .ok (.ifCond .ne 8, 3) by decide +kernel) (by decide) (fun c14 => ?_) (fun c14 => ?_)
          · have k := k.1 c14
            refine Ev_iload_n hq_213 (show decode prog_7_method_88_code 85 = .ok (.iload_n 2, 1) by decide +kernel) rfl ?_
            refine Ev_bipush (v := 6) hq_213 (show decode prog_7_method_88_code 86 = .ok (.bipush 6, 2) by decide +kernel) (by decide) ?_
            refine Ev_icmp_ne (tgt := 106) hq_213 (show decode prog_7_method_88_code 88 = .ok (.if_icmp .ne 18, 3) by decide +kernel) (by decide) (fun c15 => ?_) (fun c15 => ?_)
            · have k := k.1 c15
              refine Ev_bipush (v := (-13)) hq_213 (show decode prog_7_method_88_code 106 = .ok (.bipush (-13), 2) by decide +kernel) (by decide) ?_
              exact Ev_iret hq_213 (show decode prog_7_method_88_code 108 = .ok (.ireturn, 1) by decide +kernel) rfl k
            · have k := k.2 (Classical.not_not.mp c15)
              refine Ev_aload_n hq_213 (show decode prog_7_method_88_code 91 = .ok (.aload_n 0, 1) by decide +kernel) rfl ?_
              refine Ev_getR hq_213 (show decode prog_7_method_88_code 92 = .ok (.getfield 16, 3) by decide +kernel) rfl (SGn hS (by decide)) (SGk hS rfl) (by decide) rfl (SGr hS rfl) ?_
              refine Ev_iconst (v := 5) hq_213 (show decode prog_7_method_88_code 95 = .ok (.iconst 5, 1) by decide +kernel) (by decide) ?_
              refine Ev_iload_n hq_213 (show decode prog_7_method_88_code 96 = .ok (.iload_n 1, 1) by decide +kernel) rfl ?_
              refine Ev_iconst (v := 4) hq_213 (show decode prog_7_method_88_code 97 = .ok (.iconst 4, 1) by decide +kernel) (by decide) ?_
              refine Ev_isub hq_213 (show decode prog_7_method_88_code 98 = .ok (.isub, 1) by decide +kernel) ?_
              refine Ev_imul hq_213 (show decode prog_7_method_88_code 99 = .ok (.imul, 1) by decide +kernel) ?_
              refine Ev_iconst (v := 2) hq_213 (show decode prog_7_method_88_code 100 = .ok (.iconst 2, 1) by decide +kernel) (by decide) ?_
              refine Ev_iadd hq_213 (show decode prog_7_method_88_code 101 = .ok (.iadd, 1) by decide +kernel) ?_
              obtain ⟨h16, k⟩ := k
              refine Ev_iald hq_213 (show decode prog_7_method_88_code 102 = .ok (.iaload, 1) by decide +kernel) (SGn hS (by decide)) (SGk hS rfl) (SGi hS rfl h16) ?_
              refine Ev_goto (tgt := 108) hq_213 (show decode prog_7_method_88_code 103 = .ok (.goto 5, 3) by decide +kernel) (by decide) ?_
              exact Ev_iret hq_213 (show decode prog_7_method_88_code 108 = .ok (.ireturn, 1) by decide +kernel) rfl k
          · have k := k.2 (Classical.not_not.mp c14)
            refine Ev_bipush (v := (-11)) hq_213 (show decode prog_7_method_88_code 80 = .ok (.bipush (-11), 2) by decide +kernel) (by decide) ?_
            refine Ev_goto (tgt := 108) hq_213 (show decode prog_7_method_88_code 82 = .ok (.goto 26, 3) by decide +kernel) (by decide) ?_
            exact Ev_iret hq_213 (show decode prog_7_method_88_code 108 = .ok (.ireturn, 1) by decide +kernel) rfl k
        · have k := k.2 c10
          refine Ev_iload_n hq_213 (show decode prog_7_method_88_code 44 = .ok (.iload_n 2, 1) by decide +kernel) rfl ?_
          refine Ev_bipush (v := 6) hq_213 (show decode prog_7_method_88_code 45 = .ok (.bipush 6, 2) by decide +kernel) (by decide) ?_
          refine Ev_icmp_ge (tgt := 67) hq_213 (show decode prog_7_method_88_code 47 = .ok (.if_icmp .ge 20, 3) by decide +kernel) (by decide) (fun c17 => ?_) (fun c17 => ?_)
          · have k := k.1 c17
            refine Ev_bipush (v := (-13)) hq_213 (show decode prog_7_method_88_code 67 = .ok (.bipush (-13), 2) by decide +kernel) (by decide) ?_
            exact Ev_iret hq_213 (show decode prog_7_method_88_code 69 = .ok (.ireturn, 1) by decide +kernel) rfl k
          · have k := k.2 c17
            refine Ev_aload_n hq_213 (show decode prog_7_method_88_code 50 = .ok (.aload_n 0, 1) by decide +kernel) rfl ?_
            refine Ev_getR hq_213 (show decode prog_7_method_88_code 51 = .ok (.getfield 7, 3) by decide +kernel) rfl (SGn hS (by decide)) (SGk hS rfl) (by decide) rfl (SGr hS rfl) ?_
            refine Ev_iload_n hq_213 (show decode prog_7_method_88_code 54 = .ok (.iload_n 1, 1) by decide +kernel) rfl ?_
            obtain ⟨h18, k⟩ := k
            refine Ev_iald hq_213 (show decode prog_7_method_88_code 55 = .ok (.iaload, 1) by decide +kernel) (SGn hS (by decide)) (SGk hS rfl) (SGi hS rfl h18) ?_
            refine Ev_iload_n hq_213 (show decode prog_7_method_88_code 56 = .ok (.iload_n 2, 1) by decide +kernel) rfl ?_
            obtain ⟨r21, I19, h20, k⟩ := k
            refine Ev_stat (as := [.int (I5 58 x1.toNatClampNeg), .int x2]) hq_213 (show decode prog_7_method_88_code 57 = .ok (.invokestatic 295, 3) by decide +kernel) rfl (Or.inl rfl) hq_214 rfl (z_le rfl) h20 ?_
            refine Ev_if_eq (tgt := 67) hq_213 (show decode prog_7_method_88_code 60 = .ok (.ifCond .eq 7, 3) by decide +kernel) (by decide) (fun c22 => ?_) (fun c22 => ?_)
            · have k := k.1 c22
              refine Ev_bipush (v := (-13)) hq_213 (show decode prog_7_method_88_code 67 = .ok (.bipush (-13), 2) by decide +kernel) (by decide) ?_
              exact Ev_iret hq_213 (show decode prog_7_method_88_code 69 = .ok (.ireturn, 1) by decide +kernel) rfl k
            · have k := k.2 c22
              refine Ev_iload_n hq_213 (show decode prog_7_method_88_code 63 = .ok (.iload_n 1, 1) by decide +kernel) rfl ?_
              refine Ev_goto (tgt := 69) hq_213 (show decode prog_7_method_88_code 64 = .ok (.goto 5, 3) by decide +kernel) (by decide) ?_
              exact Ev_iret hq_213 (show decode prog_7_method_88_code 69 = .ok (.ireturn, 1) by decide +kernel) rfl k
      · have k := k.2 c9
        refine Ev_bipush (v := (-11)) hq_213 (show decode prog_7_method_88_code 36 = .ok (.bipush (-11), 2) by decide +kernel) (by decide) ?_
        exact Ev_iret hq_213 (show decode prog_7_method_88_code 38 = .ok (.ireturn, 1) by decide +kernel) rfl k
    · have k := k.2 (Classical.not_not.mp c8)
      refine Ev_bipush (v := (-12)) hq_213 (show decode prog_7_method_88_code 23 = .ok (.bipush (-12), 2) by decide +kernel) (by decide) ?_
      exact Ev_iret hq_213 (show decode prog_7_method_88_code 25 = .ok (.ireturn, 1) by decide +kernel) rfl k
  · have k := k.2 (Classical.not_not.mp c4)
    refine Ev_bipush (v := (-2)) hq_213 (show decode prog_7_method_88_code 10 = .ok (.bipush (-2), 2) by decide +kernel) (by decide) ?_
    exact Ev_iret hq_213 (show decode prog_7_method_88_code 12 = .ok (.ireturn, 1) by decide +kernel) rfl k
set_option maxRecDepth 20000 in
theorem wp_Z_isUnder {X : Nat × (Nat → Int32)} {d : Nat} {G : zG} {I : zI} {res : Option Value × zG × zI} (x0 : Int32) (x1 : Int32) 
    (k : (x1 = 0 → res = (some (.int 1), G, I)) ∧ (¬ x1 = 0 → (x0 = x1 → res = (some (.int 1), G, I)) ∧ (¬ x0 = x1 → (¬ x1 = 1 → (¬ x1 = 2 → res = (some (.int 0), G, I)) ∧ (x1 = 2 → (¬ x0 = 4 → res = (some (.int 0), G, I)) ∧ (x0 = 4 → res = (some (.int 1), G, I)))) ∧ (x1 = 1 → (x0 = 3 → res = (some (.int 1), G, I)) ∧ (¬ x0 = 3 → (¬ x1 = 2 → res = (some (.int 0), G, I)) ∧ (x1 = 2 → (¬ x0 = 4 → res = (some (.int 0), G, I)) ∧ (x0 = 4 → res = (some (.int 1), G, I)))))))) :
    Ev X d 214 0 [.int x0, .int x1] [] G I res := by
  refine Ev_iload_n hq_214 (show decode prog_7_method_87_code 0 = .ok (.iload_n 1, 1) by decide +kernel) rfl ?_
  refine Ev_if_eq (tgt := 29) hq_214 (show decode prog_7_method_87_code 1 = .ok (.ifCond .eq 28, 3) by decide +kernel) (by decide) (fun c1 => ?_) (fun c1 => ?_)
  · have k := k.1 c1
    refine Ev_iconst (v := 1) hq_214 (show decode prog_7_method_87_code 29 = .ok (.iconst 1, 1) by decide +kernel) (by decide) ?_
    refine Ev_goto (tgt := 34) hq_214 (show decode prog_7_method_87_code 30 = .ok (.goto 4, 3) by decide +kernel) (by decide) ?_
    exact Ev_iret hq_214 (show decode prog_7_method_87_code 34 = .ok (.ireturn, 1) by decide +kernel) rfl k
  · have k := k.2 c1
    refine Ev_iload_n hq_214 (show decode prog_7_method_87_code 4 = .ok (.iload_n 0, 1) by decide +kernel) rfl ?_
    refine Ev_iload_n hq_214 (show decode prog_7_method_87_code 5 = .ok (.iload_n 1, 1) by decide +kernel) rfl ?_
    refine Ev_icmp_eq (tgt := 29) hq_214 (show decode prog_7_method_87_code 6 = .ok (.if_icmp .eq 23, 3) by decide +kernel) (by decide) (fun c2 => ?_) (fun c2 => ?_)
    · have k := k.1 c2
      refine Ev_iconst (v := 1) hq_214 (show decode prog_7_method_87_code 29 = .ok (.iconst 1, 1) by decide +kernel) (by decide) ?_
      refine Ev_goto (tgt := 34) hq_214 (show decode prog_7_method_87_code 30 = .ok (.goto 4, 3) by decide +kernel) (by decide) ?_
      exact Ev_iret hq_214 (show decode prog_7_method_87_code 34 = .ok (.ireturn, 1) by decide +kernel) rfl k
    · have k := k.2 c2
      refine Ev_iload_n hq_214 (show decode prog_7_method_87_code 9 = .ok (.iload_n 1, 1) by decide +kernel) rfl ?_
      refine Ev_iconst (v := 1) hq_214 (show decode prog_7_method_87_code 10 = .ok (.iconst 1, 1) by decide +kernel) (by decide) ?_
      refine Ev_icmp_ne (tgt := 19) hq_214 (show decode prog_7_method_87_code 11 = .ok (.if_icmp .ne 8, 3) by decide +kernel) (by decide) (fun c3 => ?_) (fun c3 => ?_)
      · have k := k.1 c3
        refine Ev_iload_n hq_214 (show decode prog_7_method_87_code 19 = .ok (.iload_n 1, 1) by decide +kernel) rfl ?_
        refine Ev_iconst (v := 2) hq_214 (show decode prog_7_method_87_code 20 = .ok (.iconst 2, 1) by decide +kernel) (by decide) ?_
        refine Ev_icmp_ne (tgt := 33) hq_214 (show decode prog_7_method_87_code 21 = .ok (.if_icmp .ne 12, 3) by decide +kernel) (by decide) (fun c4 => ?_) (fun c4 => ?_)
        · have k := k.1 c4
          refine Ev_iconst (v := 0) hq_214 (show decode prog_7_method_87_code 33 = .ok (.iconst 0, 1) by decide +kernel) (by decide) ?_
          exact Ev_iret hq_214 (show decode prog_7_method_87_code 34 = .ok (.ireturn, 1) by decide +kernel) rfl k
        · have k := k.2 (Classical.not_not.mp c4)
          refine Ev_iload_n hq_214 (show decode prog_7_method_87_code 24 = .ok (.iload_n 0, 1) by decide +kernel) rfl ?_
          refine Ev_iconst (v := 4) hq_214 (show decode prog_7_method_87_code 25 = .ok (.iconst 4, 1) by decide +kernel) (by decide) ?_
          refine Ev_icmp_ne (tgt := 33) hq_214 (show decode prog_7_method_87_code 26 = .ok (.if_icmp .ne 7, 3) by decide +kernel) (by decide) (fun c5 => ?_) (fun c5 => ?_)
          · have k := k.1 c5
            refine Ev_iconst (v := 0) hq_214 (show decode prog_7_method_87_code 33 = .ok (.iconst 0, 1) by decide +kernel) (by decide) ?_
            exact Ev_iret hq_214 (show decode prog_7_method_87_code 34 = .ok (.ireturn, 1) by decide +kernel) rfl k
          · have k := k.2 (Classical.not_not.mp c5)
            refine Ev_iconst (v := 1) hq_214 (show decode prog_7_method_87_code 29 = .ok (.iconst 1, 1) by decide +kernel) (by decide) ?_
            refine Ev_goto (tgt := 34) hq_214 (show decode prog_7_method_87_code 30 = .ok (.goto 4, 3) by decide +kernel) (by decide) ?_
            exact Ev_iret hq_214 (show decode prog_7_method_87_code 34 = .ok (.ireturn, 1) by decide +kernel) rfl k
      · have k := k.2 (Classical.not_not.mp c3)
        refine Ev_iload_n hq_214 (show decode prog_7_method_87_code 14 = .ok (.iload_n 0, 1) by decide +kernel) rfl ?_
        refine Ev_iconst (v := 3) hq_214 (show decode prog_7_method_87_code 15 = .ok (.iconst 3, 1) by decide +kernel) (by decide) ?_
        refine Ev_icmp_eq (tgt := 29) hq_214 (show decode prog_7_method_87_code 16 = .ok (.if_icmp .eq 13, 3) by decide +kernel) (by decide) (fun c6 => ?_) (fun c6 => ?_)
        · have k := k.1 c6
          refine Ev_iconst (v := 1) hq_214 (show decode prog_7_method_87_code 29 = .ok (.iconst 1, 1) by decide +kernel) (by decide) ?_
          refine Ev_goto (tgt := 34) hq_214 (show decode prog_7_method_87_code 30 = .ok (.goto 4, 3) by decide +kernel) (by decide) ?_
          exact Ev_iret hq_214 (show decode prog_7_method_87_code 34 = .ok (.ireturn, 1) by decide +kernel) rfl k
        · have k := k.2 c6
          refine Ev_iload_n hq_214 (show decode prog_7_method_87_code 19 = .ok (.iload_n 1, 1) by decide +kernel) rfl ?_
          refine Ev_iconst (v := 2) hq_214 (show decode prog_7_method_87_code 20 = .ok (.iconst 2, 1) by decide +kernel) (by decide) ?_
          refine Ev_icmp_ne (tgt := 33) hq_214 (show decode prog_7_method_87_code 21 = .ok (.if_icmp .ne 12, 3) by decide +kernel) (by decide) (fun c7 => ?_) (fun c7 => ?_)
          · have k := k.1 c7
            refine Ev_iconst (v := 0) hq_214 (show decode prog_7_method_87_code 33 = .ok (.iconst 0, 1) by decide +kernel) (by decide) ?_
            exact Ev_iret hq_214 (show decode prog_7_method_87_code 34 = .ok (.ireturn, 1) by decide +kernel) rfl k
          · have k := k.2 (Classical.not_not.mp c7)
            refine Ev_iload_n hq_214 (show decode prog_7_method_87_code 24 = .ok (.iload_n 0, 1) by decide +kernel) rfl ?_
            refine Ev_iconst (v := 4) hq_214 (show decode prog_7_method_87_code 25 = .ok (.iconst 4, 1) by decide +kernel) (by decide) ?_
            refine Ev_icmp_ne (tgt := 33) hq_214 (show decode prog_7_method_87_code 26 = .ok (.if_icmp .ne 7, 3) by decide +kernel) (by decide) (fun c8 => ?_) (fun c8 => ?_)
            · have k := k.1 c8
              refine Ev_iconst (v := 0) hq_214 (show decode prog_7_method_87_code 33 = .ok (.iconst 0, 1) by decide +kernel) (by decide) ?_
              exact Ev_iret hq_214 (show decode prog_7_method_87_code 34 = .ok (.ireturn, 1) by decide +kernel) rfl k
            · have k := k.2 (Classical.not_not.mp c8)
              refine Ev_iconst (v := 1) hq_214 (show decode prog_7_method_87_code 29 = .ok (.iconst 1, 1) by decide +kernel) (by decide) ?_
              refine Ev_goto (tgt := 34) hq_214 (show decode prog_7_method_87_code 30 = .ok (.goto 4, 3) by decide +kernel) (by decide) ?_
              exact Ev_iret hq_214 (show decode prog_7_method_87_code 34 = .ok (.ireturn, 1) by decide +kernel) rfl k
