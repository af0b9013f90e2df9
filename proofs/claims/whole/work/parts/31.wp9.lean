set_option maxRecDepth 20000 in
theorem wp_Z_areTwo {X : Nat × (Nat → Int32)} {d : Nat} {G : zG} {I : zI} {res : Option Value × zG × zI} (x1 : Int32) (x2 : Int32) (hS : SG G) 
    (k : ∃ (r3 : Int32) (I1 : zI), Cv X d 148 [.ref 57, .int x1] G I (some (.int r3), G, I1) ∧ ((r3 = 0 → res = (some (.int 0), G, I1)) ∧ (¬ r3 = 0 → ∃ (r7 : Int32) (I5 : zI), Cv X d 148 [.ref 57, .int x2] G I1 (some (.int r7), G, I5) ∧ ((r7 = 0 → res = (some (.int 0), G, I5)) ∧ (¬ r7 = 0 → (x1 = x2 → res = (some (.int 0), G, I5)) ∧ (¬ x1 = x2 → res = (some (.int 1), G, I5))))))) :
    Ev X (d + 1) 186 0 [.ref 57, .int x1, .int x2] [] G I res := by
  refine Ev_aload_n hq_186 (show decode prog_7_method_59_code 0 = .ok (.aload_n 0, 1) by decide +kernel) rfl ?_
  refine Ev_iload_n hq_186 (show decode prog_7_method_59_code 1 = .ok (.iload_n 1, 1) by decide +kernel) rfl ?_
  obtain ⟨r3, I1, h2, k⟩ := k
  refine Ev_virt (as := [.int x1]) hq_186 (show decode prog_7_method_59_code 2 = .ok (.invokevirtual 176, 3) by decide +kernel) rfl hq_148 rfl (z_le rfl) ⟨(SGn hS (by decide)), (SGk hS rfl), by decide⟩ h2 ?_
  refine Ev_if_eq (tgt := 25) hq_186 (show decode prog_7_method_59_code 5 = .ok (.ifCond .eq 20, 3) by decide +kernel) (by decide) (fun c4 => ?_) (fun c4 => ?_)
  · have k := k.1 c4
    refine Ev_iconst (v := 0) hq_186 (show decode prog_7_method_59_code 25 = .ok (.iconst 0, 1) by decide +kernel) (by decide) ?_
    exact Ev_iret hq_186 (show decode prog_7_method_59_code 26 = .ok (.ireturn, 1) by decide +kernel) rfl k
  · have k := k.2 c4
    refine Ev_aload_n hq_186 (show decode prog_7_method_59_code 8 = .ok (.aload_n 0, 1) by decide +kernel) rfl ?_
    refine Ev_iload_n hq_186 (show decode prog_7_method_59_code 9 = .ok (.iload_n 2, 1) by decide +kernel) rfl ?_
    obtain ⟨r7, I5, h6, k⟩ := k
    refine Ev_virt (as := [.int x2]) hq_186 (show decode prog_7_method_59_code 10 = .ok (.invokevirtual 176, 3) by decide +kernel) rfl hq_148 rfl (z_le rfl) ⟨(SGn hS (by decide)), (SGk hS rfl), by decide⟩ h6 ?_
    refine Ev_if_eq (tgt := 25) hq_186 (show decode prog_7_method_59_code 13 = .ok (.ifCond .eq 12, 3) by decide +kernel) (by decide) (fun c8 => ?_) (fun c8 => ?_)
    · have k := k.1 c8
      refine Ev_iconst (v := 0) hq_186 (show decode prog_7_method_59_code 25 = .ok (.iconst 0, 1) by decide +kernel) (by decide) ?_
      exact Ev_iret hq_186 (show decode prog_7_method_59_code 26 = .ok (.ireturn, 1) by decide +kernel) rfl k
    · have k := k.2 c8
      refine Ev_iload_n hq_186 (show decode prog_7_method_59_code 16 = .ok (.iload_n 1, 1) by decide +kernel) rfl ?_
      refine Ev_iload_n hq_186 (show decode prog_7_method_59_code 17 = .ok (.iload_n 2, 1) by decide +kernel) rfl ?_
      refine Ev_icmp_eq (tgt := 25) hq_186 (show decode prog_7_method_59_code 18 = .ok (.if_icmp .eq 7, 3) by decide +kernel) (by decide) (fun c9 => ?_) (fun c9 => ?_)
      · have k := k.1 c9
        refine Ev_iconst (v := 0) hq_186 (show decode prog_7_method_59_code 25 = .ok (.iconst 0, 1) by decide +kernel) (by decide) ?_
        exact Ev_iret hq_186 (show decode prog_7_method_59_code 26 = .ok (.ireturn, 1) by decide +kernel) rfl k
      · have k := k.2 c9
        refine Ev_iconst (v := 1) hq_186 (show decode prog_7_method_59_code 21 = .ok (.iconst 1, 1) by decide +kernel) (by decide) ?_
        refine Ev_goto (tgt := 26) hq_186 (show decode prog_7_method_59_code 22 = .ok (.goto 4, 3) by decide +kernel) (by decide) ?_
        exact Ev_iret hq_186 (show decode prog_7_method_59_code 26 = .ok (.ireturn, 1) by decide +kernel) rfl k
set_option maxRecDepth 20000 in
theorem wp_Z_hurts {X : Nat × (Nat → Int32)} {d : Nat} {G : zG} {I : zI} {res : Option Value × zG × zI} (x1 : Int32) (x2 : Int32) (hS : SG G) 
    (k : ∃ (r3 : Int32) (I1 : zI), Cv X d 186 [.ref 57, .int x1, .int x2] G I (some (.int r3), G, I1) ∧ ((¬ r3 = 0 → ∃ (r7 : Int32) (I5 : zI), Cv X d 179 [.ref 57, .int x2] G I1 (some (.int r7), G, I5) ∧ (z_inr ((5 * x1) + 4) 20 ∧ (∀ y9 : Int32, y9 = (I5 60 ((5 * x1) + 4).toNatClampNeg) → z_inr ((5 * x1) + 4) 20 ∧ (∀ I11 : zI, I11 = z_up I5 60 ((5 * x1) + 4).toNatClampNeg 0 → ∃ (r14 : Int32) (I12 : zI), Cv X d 179 [.ref 57, .int x2] G I11 (some (.int r14), G, I12) ∧ (z_inr ((5 * x1) + 4) 20 ∧ (∀ I16 : zI, I16 = z_up I12 60 ((5 * x1) + 4).toNatClampNeg y9 → res = (some (.int (r7 - r14)), G, I16))))))) ∧ (r3 = 0 → res = (some (.int (-100000)), G, I1)))) :
    Ev X (d + 1) 187 0 [.ref 57, .int x1, .int x2, zU, zU, zU] [] G I res := by
  refine Ev_aload_n hq_187 (show decode prog_7_method_61_code 0 = .ok (.aload_n 0, 1) by decide +kernel) rfl ?_
  refine Ev_iload_n hq_187 (show decode prog_7_method_61_code 1 = .ok (.iload_n 1, 1) by decide +kernel) rfl ?_
  refine Ev_iload_n hq_187 (show decode prog_7_method_61_code 2 = .ok (.iload_n 2, 1) by decide +kernel) rfl ?_
  obtain ⟨r3, I1, h2, k⟩ := k
  refine Ev_virt (as := [.int x1, .int x2]) hq_187 (show decode prog_7_method_61_code 3 = .ok (.invokevirtual 250, 3) by decide +kernel) rfl hq_186 rfl (z_le rfl) ⟨(SGn hS (by decide)), (SGk hS rfl), by decide⟩ h2 ?_
  refine Ev_if_ne (tgt := 12) hq_187 (show decode prog_7_method_61_code 6 = .ok (.ifCond .ne 6, 3) by decide +kernel) (by decide) (fun c4 => ?_) (fun c4 => ?_)
  · have k := k.1 c4
    refine Ev_aload_n hq_187 (show decode prog_7_method_61_code 12 = .ok (.aload_n 0, 1) by decide +kernel) rfl ?_
    refine Ev_iload_n hq_187 (show decode prog_7_method_61_code 13 = .ok (.iload_n 2, 1) by decide +kernel) rfl ?_
    obtain ⟨r7, I5, h6, k⟩ := k
    refine Ev_virt (as := [.int x2]) hq_187 (show decode prog_7_method_61_code 14 = .ok (.invokevirtual 235, 3) by decide +kernel) rfl hq_179 rfl (z_le rfl) ⟨(SGn hS (by decide)), (SGk hS rfl), by decide⟩ h6 ?_
    refine Ev_istore_n (lo2 := [.ref 57, .int x1, .int x2, .int r7, zU, zU]) hq_187 (show decode prog_7_method_61_code 17 = .ok (.istore_n 3, 1) by decide +kernel) (z_le rfl) rfl ?_
    refine Ev_aload_n hq_187 (show decode prog_7_method_61_code 18 = .ok (.aload_n 0, 1) by decide +kernel) rfl ?_
    refine Ev_getR hq_187 (show decode prog_7_method_61_code 19 = .ok (.getfield 16, 3) by decide +kernel) rfl (SGn hS (by decide)) (SGk hS rfl) (by decide) rfl (SGr hS rfl) ?_
    refine Ev_iconst (v := 5) hq_187 (show decode prog_7_method_61_code 22 = .ok (.iconst 5, 1) by decide +kernel) (by decide) ?_
    refine Ev_iload_n hq_187 (show decode prog_7_method_61_code 23 = .ok (.iload_n 1, 1) by decide +kernel) rfl ?_
    refine Ev_imul hq_187 (show decode prog_7_method_61_code 24 = .ok (.imul, 1) by decide +kernel) ?_
    refine Ev_iconst (v := 4) hq_187 (show decode prog_7_method_61_code 25 = .ok (.iconst 4, 1) by decide +kernel) (by decide) ?_
    refine Ev_iadd hq_187 (show decode prog_7_method_61_code 26 = .ok (.iadd, 1) by decide +kernel) ?_
    obtain ⟨h8, k⟩ := k
    refine Ev_iald hq_187 (show decode prog_7_method_61_code 27 = .ok (.iaload, 1) by decide +kernel) (SGn hS (by decide)) (SGk hS rfl) (SGi hS rfl h8) ?_
    obtain ⟨y9, ey9⟩ : ∃ y9 : Int32, y9 = (I5 60 ((5 * x1) + 4).toNatClampNeg) := ⟨_, rfl⟩
    have k := k y9 ey9
    rw [← ey9]
    refine Ev_istore (lo2 := [.ref 57, .int x1, .int x2, .int r7, .int y9, zU]) hq_187 (show decode prog_7_method_61_code 28 = .ok (.istore 4, 2) by decide +kernel) (z_le rfl) rfl ?_
    refine Ev_aload_n hq_187 (show decode prog_7_method_61_code 30 = .ok (.aload_n 0, 1) by decide +kernel) rfl ?_
    refine Ev_getR hq_187 (show decode prog_7_method_61_code 31 = .ok (.getfield 16, 3) by decide +kernel) rfl (SGn hS (by decide)) (SGk hS rfl) (by decide) rfl (SGr hS rfl) ?_
    refine Ev_iconst (v := 5) hq_187 (show decode prog_7_method_61_code 34 = .ok (.iconst 5, 1) by decide +kernel) (by decide) ?_
    refine Ev_iload_n hq_187 (show decode prog_7_method_61_code 35 = .ok (.iload_n 1, 1) by decide +kernel) rfl ?_
    refine Ev_imul hq_187 (show decode prog_7_method_61_code 36 = .ok (.imul, 1) by decide +kernel) ?_
    refine Ev_iconst (v := 4) hq_187 (show decode prog_7_method_61_code 37 = .ok (.iconst 4, 1) by decide +kernel) (by decide) ?_
    refine Ev_iadd hq_187 (show decode prog_7_method_61_code 38 = .ok (.iadd, 1) by decide +kernel) ?_
    refine Ev_iconst (v := 0) hq_187 (show decode prog_7_method_61_code 39 = .ok (.iconst 0, 1) by decide +kernel) (by decide) ?_
    obtain ⟨h10, k⟩ := k
    refine Ev_iast hq_187 (show decode prog_7_method_61_code 40 = .ok (.iastore, 1) by decide +kernel) (SGn hS (by decide)) (SGk hS rfl) (SGi hS rfl h10) ?_
    obtain ⟨I11, eI11⟩ : ∃ I11 : zI, I11 = z_up I5 60 ((5 * x1) + 4).toNatClampNeg 0 := ⟨_, rfl⟩
    have k := k I11 eI11
    rw [← eI11]
    refine Ev_aload_n hq_187 (show decode prog_7_method_61_code 41 = .ok (.aload_n 0, 1) by decide +kernel) rfl ?_
    refine Ev_iload_n hq_187 (show decode prog_7_method_61_code 42 = .ok (.iload_n 2, 1) by decide +kernel) rfl ?_
    obtain ⟨r14, I12, h13, k⟩ := k
    refine Ev_virt (as := [.int x2]) hq_187 (show decode prog_7_method_61_code 43 = .ok (.invokevirtual 235, 3) by decide +kernel) rfl hq_179 rfl (z_le rfl) ⟨(SGn hS (by decide)), (SGk hS rfl), by decide⟩ h13 ?_
    refine Ev_istore (lo2 := [.ref 57, .int x1, .int x2, .int r7, .int y9, .int r14]) hq_187 (show decode prog_7_method_61_code 46 = .ok (.istore 5, 2) by decide +kernel) (z_le rfl) rfl ?_
    refine Ev_aload_n hq_187 (show decode prog_7_method_61_code 48 = .ok (.aload_n 0, 1) by decide +kernel) rfl ?_
    refine Ev_getR hq_187 (show decode prog_7_method_61_code 49 = .ok (.getfield 16, 3) by decide +kernel) rfl (SGn hS (by decide)) (SGk hS rfl) (by decide) rfl (SGr hS rfl) ?_
    refine Ev_iconst (v := 5) hq_187 (show decode prog_7_method_61_code 52 = .ok (.iconst 5, 1) by decide +kernel) (by decide) ?_
    refine Ev_iload_n hq_187 (show decode prog_7_method_61_code 53 = .ok (.iload_n 1, 1) by decide +kernel) rfl ?_
    refine Ev_imul hq_187 (show decode prog_7_method_61_code 54 = .ok (.imul, 1) by decide +kernel) ?_
    refine Ev_iconst (v := 4) hq_187 (show decode prog_7_method_61_code 55 = .ok (.iconst 4, 1) by decide +kernel) (by decide) ?_
    refine Ev_iadd hq_187 (show decode prog_7_method_61_code 56 = .ok (.iadd, 1) by decide +kernel) ?_
    refine Ev_iload hq_187 (show decode prog_7_method_61_code 57 = .ok (.iload 4, 2) by decide +kernel) rfl ?_
    obtain ⟨h15, k⟩ := k
    refine Ev_iast hq_187 (show decode prog_7_method_61_code 59 = .ok (.iastore, 1) by decide +kernel) (SGn hS (by decide)) (SGk hS rfl) (SGi hS rfl h15) ?_
    obtain ⟨I16, eI16⟩ : ∃ I16 : zI, I16 = z_up I12 60 ((5 * x1) + 4).toNatClampNeg y9 := ⟨_, rfl⟩
    have k := k I16 eI16
    rw [← eI16]
    refine Ev_iload_n hq_187 (show decode prog_7_method_61_code 60 = .ok (.iload_n 3, 1) by decide +kernel) rfl ?_
    refine Ev_iload hq_187 (show decode prog_7_method_61_code 61 = .ok (.iload 5, 2) by decide +kernel) rfl ?_
    refine Ev_isub hq_187 (show decode prog_7_method_61_code 63 = .ok (.isub, 1) by decide +kernel) ?_
    exact Ev_iret hq_187 (show decode prog_7_method_61_code 64 = .ok (.ireturn, 1) by decide +kernel) rfl k
  · have k := k.2 (Classical.not_not.mp c4)
    refine Ev_ldc (v := (-100000)) hq_187 (show decode prog_7_method_61_code 9 = .ok (.ldc 211, 2) by decide +kernel) rfl ?_
    exact Ev_iret hq_187 (show decode prog_7_method_61_code 11 = .ok (.ireturn, 1) by decide +kernel) rfl k
set_option maxRecDepth 20000 in
theorem wp_Z_off {X : Nat × (Nat → Int32)} {d : Nat} {G : zG} {I : zI} {res : Option Value × zG × zI} (x1 : Int32) 
    (k : ∃ (r3 : Int32) (I1 : zI), Cv X d 131 [.int x1, .int 0, .int 1] G I (some (.int r3), G, I1) ∧ ((¬ r3 = 0 → Ev X (d + 1) 188 19 [.ref 57, .int x1, .int (-1), .int (-1), .int 0, zU, zU] [] G I1 res) ∧ (r3 = 0 → res = (some (.int (-2)), G, I1)))) :
    Ev X (d + 1) 188 0 [.ref 57, .int x1, zU, zU, zU, zU, zU] [] G I res := by
  refine Ev_iload_n hq_188 (show decode prog_7_method_62_code 0 = .ok (.iload_n 1, 1) by decide +kernel) rfl ?_
  refine Ev_iconst (v := 0) hq_188 (show decode prog_7_method_62_code 1 = .ok (.iconst 0, 1) by decide +kernel) (by decide) ?_
  refine Ev_iconst (v := 1) hq_188 (show decode prog_7_method_62_code 2 = .ok (.iconst 1, 1) by decide +kernel) (by decide) ?_
  obtain ⟨r3, I1, h2, k⟩ := k
  refine Ev_stat (as := [.int x1, .int 0, .int 1]) hq_188 (show decode prog_7_method_62_code 3 = .ok (.invokestatic 90, 3) by decide +kernel) rfl (Or.inl rfl) hq_131 rfl (z_le rfl) h2 ?_
  refine Ev_if_ne (tgt := 12) hq_188 (show decode prog_7_method_62_code 6 = .ok (.ifCond .ne 6, 3) by decide +kernel) (by decide) (fun c4 => ?_) (fun c4 => ?_)
  · have k := k.1 c4
    refine Ev_iconst (v := (-1)) hq_188 (show decode prog_7_method_62_code 12 = .ok (.iconst (-1), 1) by decide +kernel) (by decide) ?_
    refine Ev_istore_n (lo2 := [.ref 57, .int x1, .int (-1), zU, zU, zU, zU]) hq_188 (show decode prog_7_method_62_code 13 = .ok (.istore_n 2, 1) by decide +kernel) (z_le rfl) rfl ?_
    refine Ev_iconst (v := (-1)) hq_188 (show decode prog_7_method_62_code 14 = .ok (.iconst (-1), 1) by decide +kernel) (by decide) ?_
    refine Ev_istore_n (lo2 := [.ref 57, .int x1, .int (-1), .int (-1), zU, zU, zU]) hq_188 (show decode prog_7_method_62_code 15 = .ok (.istore_n 3, 1) by decide +kernel) (z_le rfl) rfl ?_
    refine Ev_iconst (v := 0) hq_188 (show decode prog_7_method_62_code 16 = .ok (.iconst 0, 1) by decide +kernel) (by decide) ?_
    refine Ev_istore (lo2 := [.ref 57, .int x1, .int (-1), .int (-1), .int 0, zU, zU]) hq_188 (show decode prog_7_method_62_code 17 = .ok (.istore 4, 2) by decide +kernel) (z_le rfl) rfl ?_
    exact k
  · have k := k.2 (Classical.not_not.mp c4)
    refine Ev_bipush (v := (-2)) hq_188 (show decode prog_7_method_62_code 9 = .ok (.bipush (-2), 2) by decide +kernel) (by decide) ?_
    exact Ev_iret hq_188 (show decode prog_7_method_62_code 11 = .ok (.ireturn, 1) by decide +kernel) rfl k
set_option maxRecDepth 20000 in
theorem wp_Z_off_19 {X : Nat × (Nat → Int32)} {d : Nat} {G : zG} {I : zI} {res : Option Value × zG × zI} (x1 : Int32) (x2 : Int32) (x3 : Int32) (x4 : Int32) (v5 : Value) (cv5 : v5.category = 1) (v6 : Value) (cv6 : v6.category = 1) (hS : SG G) 
    (k : ((I 57 0) ≤ x4 → (¬ x1 = 0 → res = (some (.int x3), G, I)) ∧ (x1 = 0 → res = (some (.int x2), G, I))) ∧ (¬ (I 57 0) ≤ x4 → ∃ (r5 : Int32) (I3 : zI), Cv X d 143 [.ref 57, .int x4] G I (some (.int r5), G, I3) ∧ ((r5 = 0 → ∀ y7 : Int32, y7 = x4 + 1 → Ev X (d + 1) 188 19 [.ref 57, .int x1, .int x2, .int x3, .int y7, v5, v6] [] G I3 res) ∧ (¬ r5 = 0 → z_inr ((5 * x4) + 4) 20 ∧ (∀ I9 : zI, I9 = z_up I3 60 ((5 * x4) + 4).toNatClampNeg 0 → ∃ (r12 : Int32) (I10 : zI), Cv X d 184 [.ref 57] G I9 (some (.int r12), G, I10) ∧ (z_inr ((5 * x4) + 4) 20 ∧ (∀ I14 : zI, I14 = z_up I10 60 ((5 * x4) + 4).toNatClampNeg 1 → (x2 = (-1) → ∀ y16 : Int32, y16 = x4 + 1 → Ev X (d + 1) 188 19 [.ref 57, .int x1, .int x4, .int r12, .int y16, .int r12, .int 1] [] G I14 res) ∧ (¬ x2 = (-1) → (x3 ≤ r12 → ∀ y18 : Int32, y18 = x4 + 1 → Ev X (d + 1) 188 19 [.ref 57, .int x1, .int x2, .int x3, .int y18, .int r12, .int 0] [] G I14 res) ∧ (¬ x3 ≤ r12 → ∀ y19 : Int32, y19 = x4 + 1 → Ev X (d + 1) 188 19 [.ref 57, .int x1, .int x4, .int r12, .int y19, .int r12, .int 1] [] G I14 res))))))))) :
    Ev X (d + 1) 188 19 [.ref 57, .int x1, .int x2, .int x3, .int x4, v5, v6] [] G I res := by
  refine Ev_iload hq_188 (show decode prog_7_method_62_code 19 = .ok (.iload 4, 2) by decide +kernel) rfl ?_
  refine Ev_aload_n hq_188 (show decode prog_7_method_62_code 21 = .ok (.aload_n 0, 1) by decide +kernel) rfl ?_
  refine Ev_getI hq_188 (show decode prog_7_method_62_code 22 = .ok (.getfield 87, 3) by decide +kernel) rfl (SGn hS (by decide)) (SGk hS rfl) (by decide) rfl ?_
  refine Ev_icmp_ge (tgt := 115) hq_188 (show decode prog_7_method_62_code 25 = .ok (.if_icmp .ge 90, 3) by decide +kernel) (by decide) (fun c1 => ?_) (fun c1 => ?_)
  · have k := k.1 c1
    refine Ev_iload_n hq_188 (show decode prog_7_method_62_code 115 = .ok (.iload_n 1, 1) by decide +kernel) rfl ?_
    refine Ev_if_ne (tgt := 123) hq_188 (show decode prog_7_method_62_code 116 = .ok (.ifCond .ne 7, 3) by decide +kernel) (by decide) (fun c2 => ?_) (fun c2 => ?_)
    · have k := k.1 c2
      refine Ev_iload_n hq_188 (show decode prog_7_method_62_code 123 = .ok (.iload_n 3, 1) by decide +kernel) rfl ?_
      exact Ev_iret hq_188 (show decode prog_7_method_62_code 124 = .ok (.ireturn, 1) by decide +kernel) rfl k
    · have k := k.2 (Classical.not_not.mp c2)
      refine Ev_iload_n hq_188 (show decode prog_7_method_62_code 119 = .ok (.iload_n 2, 1) by decide +kernel) rfl ?_
      refine Ev_goto (tgt := 124) hq_188 (show decode prog_7_method_62_code 120 = .ok (.goto 4, 3) by decide +kernel) (by decide) ?_
      exact Ev_iret hq_188 (show decode prog_7_method_62_code 124 = .ok (.ireturn, 1) by decide +kernel) rfl k
  · have k := k.2 c1
    refine Ev_aload_n hq_188 (show decode prog_7_method_62_code 28 = .ok (.aload_n 0, 1) by decide +kernel) rfl ?_
    refine Ev_iload hq_188 (show decode prog_7_method_62_code 29 = .ok (.iload 4, 2) by decide +kernel) rfl ?_
    obtain ⟨r5, I3, h4, k⟩ := k
    refine Ev_virt (as := [.int x4]) hq_188 (show decode prog_7_method_62_code 31 = .ok (.invokevirtual 94, 3) by decide +kernel) rfl hq_143 rfl (z_le rfl) ⟨(SGn hS (by decide)), (SGk hS rfl), by decide⟩ h4 ?_
    refine Ev_if_eq (tgt := 109) hq_188 (show decode prog_7_method_62_code 34 = .ok (.ifCond .eq 75, 3) by decide +kernel) (by decide) (fun c6 => ?_) (fun c6 => ?_)
    · have k := k.1 c6
      obtain ⟨y7, ey7⟩ : ∃ y7 : Int32, y7 = x4 + 1 := ⟨_, rfl⟩
      have k := k y7 ey7
      refine Ev_iinc (v := y7) (lo2 := [.ref 57, .int x1, .int x2, .int x3, .int y7, v5, v6]) hq_188 (show decode prog_7_method_62_code 109 = .ok (.iinc 4 1, 3) by decide +kernel) rfl (by rw [ey7]; rfl) rfl ?_
      refine Ev_goto (tgt := 19) hq_188 (show decode prog_7_method_62_code 112 = .ok (.goto (-93), 3) by decide +kernel) (by decide) ?_
      exact k
    · have k := k.2 c6
      refine Ev_aload_n hq_188 (show decode prog_7_method_62_code 37 = .ok (.aload_n 0, 1) by decide +kernel) rfl ?_
      refine Ev_getR hq_188 (show decode prog_7_method_62_code 38 = .ok (.getfield 16, 3) by decide +kernel) rfl (SGn hS (by decide)) (SGk hS rfl) (by decide) rfl (SGr hS rfl) ?_
      refine Ev_iconst (v := 5) hq_188 (show decode prog_7_method_62_code 41 = .ok (.iconst 5, 1) by decide +kernel) (by decide) ?_
      refine Ev_iload hq_188 (show decode prog_7_method_62_code 42 = .ok (.iload 4, 2) by decide +kernel) rfl ?_
      refine Ev_imul hq_188 (show decode prog_7_method_62_code 44 = .ok (.imul, 1) by decide +kernel) ?_
      refine Ev_iconst (v := 4) hq_188 (show decode prog_7_method_62_code 45 = .ok (.iconst 4, 1) by decide +kernel) (by decide) ?_
      refine Ev_iadd hq_188 (show decode prog_7_method_62_code 46 = .ok (.iadd, 1) by decide +kernel) ?_
      refine Ev_iconst (v := 0) hq_188 (show decode prog_7_method_62_code 47 = .ok (.iconst 0, 1) by decide +kernel) (by decide) ?_
      obtain ⟨h8, k⟩ := k
      refine Ev_iast hq_188 (show decode prog_7_method_62_code 48 = .ok (.iastore, 1) by decide +kernel) (SGn hS (by decide)) (SGk hS rfl) (SGi hS rfl h8) ?_
      obtain ⟨I9, eI9⟩ : ∃ I9 : zI, I9 = z_up I3 60 ((5 * x4) + 4).toNatClampNeg 0 := ⟨_, rfl⟩
      have k := k I9 eI9
      rw [← eI9]
      refine Ev_aload_n hq_188 (show decode prog_7_method_62_code 49 = .ok (.aload_n 0, 1) by decide +kernel) rfl ?_
      obtain ⟨r12, I10, h11, k⟩ := k
      refine Ev_virt (as := []) hq_188 (show decode prog_7_method_62_code 50 = .ok (.invokevirtual 247, 3) by decide +kernel) rfl hq_184 rfl (z_le rfl) ⟨(SGn hS (by decide)), (SGk hS rfl), by decide⟩ h11 ?_
      refine Ev_istore (lo2 := [.ref 57, .int x1, .int x2, .int x3, .int x4, .int r12, v6]) hq_188 (show decode prog_7_method_62_code 53 = .ok (.istore 5, 2) by decide +kernel) (z_le rfl) rfl ?_
      refine Ev_aload_n hq_188 (show decode prog_7_method_62_code 55 = .ok (.aload_n 0, 1) by decide +kernel) rfl ?_
      refine Ev_getR hq_188 (show decode prog_7_method_62_code 56 = .ok (.getfield 16, 3) by decide +kernel) rfl (SGn hS (by decide)) (SGk hS rfl) (by decide) rfl (SGr hS rfl) ?_
      refine Ev_iconst (v := 5) hq_188 (show decode prog_7_method_62_code 59 = .ok (.iconst 5, 1) by decide +kernel) (by decide) ?_
      refine Ev_iload hq_188 (show decode prog_7_method_62_code 60 = .ok (.iload 4, 2) by decide +kernel) rfl ?_
      refine Ev_imul hq_188 (show decode prog_7_method_62_code 62 = .ok (.imul, 1) by decide +kernel) ?_
      refine Ev_iconst (v := 4) hq_188 (show decode prog_7_method_62_code 63 = .ok (.iconst 4, 1) by decide +kernel) (by decide) ?_
      refine Ev_iadd hq_188 (show decode prog_7_method_62_code 64 = .ok (.iadd, 1) by decide +kernel) ?_
      refine Ev_iconst (v := 1) hq_188 (show decode prog_7_method_62_code 65 = .ok (.iconst 1, 1) by decide +kernel) (by decide) ?_
      obtain ⟨h13, k⟩ := k
      refine Ev_iast hq_188 (show decode prog_7_method_62_code 66 = .ok (.iastore, 1) by decide +kernel) (SGn hS (by decide)) (SGk hS rfl) (SGi hS rfl h13) ?_
      obtain ⟨I14, eI14⟩ : ∃ I14 : zI, I14 = z_up I10 60 ((5 * x4) + 4).toNatClampNeg 1 := ⟨_, rfl⟩
      have k := k I14 eI14
      rw [← eI14]
      refine Ev_iload_n hq_188 (show decode prog_7_method_62_code 67 = .ok (.iload_n 2, 1) by decide +kernel) rfl ?_
      refine Ev_iconst (v := (-1)) hq_188 (show decode prog_7_method_62_code 68 = .ok (.iconst (-1), 1) by decide +kernel) (by decide) ?_
      refine Ev_icmp_eq (tgt := 78) hq_188 (show decode prog_7_method_62_code 69 = .ok (.if_icmp .eq 9, 3) by decide +kernel) (by decide) (fun c15 => ?_) (fun c15 => ?_)
      · have k := k.1 c15
        refine Ev_iconst (v := 1) hq_188 (show decode prog_7_method_62_code 78 = .ok (.iconst 1, 1) by decide +kernel) (by decide) ?_
        refine Ev_goto (tgt := 83) hq_188 (show decode prog_7_method_62_code 79 = .ok (.goto 4, 3) by decide +kernel) (by decide) ?_
        refine Ev_istore (lo2 := [.ref 57, .int x1, .int x2, .int x3, .int x4, .int r12, .int 1]) hq_188 (show decode prog_7_method_62_code 83 = .ok (.istore 6, 2) by decide +kernel) (z_le rfl) rfl ?_
        refine Ev_iload hq_188 (show decode prog_7_method_62_code 85 = .ok (.iload 6, 2) by decide +kernel) rfl ?_
        refine Ev_if_eq (tgt := 95) hq_188 (show decode prog_7_method_62_code 87 = .ok (.ifCond .eq 8, 3) by decide +kernel) (by decide) (fun hz => absurd hz (by decide)) (fun _ => ?_)
        refine Ev_iload hq_188 (show decode prog_7_method_62_code 90 = .ok (.iload 4, 2) by decide +kernel) rfl ?_
        refine Ev_goto (tgt := 96) hq_188 (show decode prog_7_method_62_code 92 = .ok (.goto 4, 3) by decide +kernel) (by decide) ?_
        refine Ev_istore_n (lo2 := [.ref 57, .int x1, .int x4, .int x3, .int x4, .int r12, .int 1]) hq_188 (show decode prog_7_method_62_code 96 = .ok (.istore_n 2, 1) by decide +kernel) (z_le rfl) rfl ?_
        refine Ev_iload hq_188 (show decode prog_7_method_62_code 97 = .ok (.iload 6, 2) by decide +kernel) rfl ?_
        refine Ev_if_eq (tgt := 107) hq_188 (show decode prog_7_method_62_code 99 = .ok (.ifCond .eq 8, 3) by decide +kernel) (by decide) (fun hz => absurd hz (by decide)) (fun _ => ?_)
        refine Ev_iload hq_188 (show decode prog_7_method_62_code 102 = .ok (.iload 5, 2) by decide +kernel) rfl ?_
        refine Ev_goto (tgt := 108) hq_188 (show decode prog_7_method_62_code 104 = .ok (.goto 4, 3) by decide +kernel) (by decide) ?_
        refine Ev_istore_n (lo2 := [.ref 57, .int x1, .int x4, .int r12, .int x4, .int r12, .int 1]) hq_188 (show decode prog_7_method_62_code 108 = .ok (.istore_n 3, 1) by decide +kernel) (z_le rfl) rfl ?_
        obtain ⟨y16, ey16⟩ : ∃ y16 : Int32, y16 = x4 + 1 := ⟨_, rfl⟩
        have k := k y16 ey16
        refine Ev_iinc (v := y16) (lo2 := [.ref 57, .int x1, .int x4, .int r12, .int y16, .int r12, .int 1]) hq_188 (show decode prog_7_method_62_code 109 = .ok (.iinc 4 1, 3) by decide +kernel) rfl (by rw [ey16]; rfl) rfl ?_
        refine Ev_goto (tgt := 19) hq_188 (show decode prog_7_method_62_code 112 = .ok (.goto (-93), 3) by decide +kernel) (by decide) ?_
        exact k
      · have k := k.2 c15
        refine Ev_iload hq_188 (show decode prog_7_method_62_code 72 = .ok (.iload 5, 2) by decide +kernel) rfl ?_
        refine Ev_iload_n hq_188 (show decode prog_7_method_62_code 74 = .ok (.iload_n 3, 1) by decide +kernel) rfl ?_
        refine Ev_icmp_ge (tgt := 82) hq_188 (show decode prog_7_method_62_code 75 = .ok (.if_icmp .ge 7, 3) by decide +kernel) (by decide) (fun c17 => ?_) (fun c17 => ?_)
        · have k := k.1 c17
          refine Ev_iconst (v := 0) hq_188 (show decode prog_7_method_62_code 82 = .ok (.iconst 0, 1) by decide +kernel) (by decide) ?_
          refine Ev_istore (lo2 := [.ref 57, .int x1, .int x2, .int x3, .int x4, .int r12, .int 0]) hq_188 (show decode prog_7_method_62_code 83 = .ok (.istore 6, 2) by decide +kernel) (z_le rfl) rfl ?_
          refine Ev_iload hq_188 (show decode prog_7_method_62_code 85 = .ok (.iload 6, 2) by decide +kernel) rfl ?_
          refine Ev_if_eq (tgt := 95) hq_188 (show decode prog_7_method_62_code 87 = .ok (.ifCond .eq 8, 3) by decide +kernel) (by decide) (fun _ => ?_) (fun hz => absurd (by decide) hz)
          refine Ev_iload_n hq_188 (show decode prog_7_method_62_code 95 = .ok (.iload_n 2, 1) by decide +kernel) rfl ?_
          refine Ev_istore_n (lo2 := [.ref 57, .int x1, .int x2, .int x3, .int x4, .int r12, .int 0]) hq_188 (show decode prog_7_method_62_code 96 = .ok (.istore_n 2, 1) by decide +kernel) (z_le rfl) rfl ?_
          refine Ev_iload hq_188 (show decode prog_7_method_62_code 97 = .ok (.iload 6, 2) by decide +kernel) rfl ?_
          refine Ev_if_eq (tgt := 107) hq_188 (show decode prog_7_method_62_code 99 = .ok (.ifCond .eq 8, 3) by decide +kernel) (by decide) (fun _ => ?_) (fun hz => absurd (by decide) hz)
          refine Ev_iload_n hq_188 (show decode prog_7_method_62_code 107 = .ok (.iload_n 3, 1) by decide +kernel) rfl ?_
          refine Ev_istore_n (lo2 := [.ref 57, .int x1, .int x2, .int x3, .int x4, .int r12, .int 0]) hq_188 (show decode prog_7_method_62_code 108 = .ok (.istore_n 3, 1) by decide +kernel) (z_le rfl) rfl ?_
          obtain ⟨y18, ey18⟩ : ∃ y18 : Int32, y18 = x4 + 1 := ⟨_, rfl⟩
          have k := k y18 ey18
          refine Ev_iinc (v := y18) (lo2 := [.ref 57, .int x1, .int x2, .int x3, .int y18, .int r12, .int 0]) hq_188 (show decode prog_7_method_62_code 109 = .ok (.iinc 4 1, 3) by decide +kernel) rfl (by rw [ey18]; rfl) rfl ?_
          refine Ev_goto (tgt := 19) hq_188 (show decode prog_7_method_62_code 112 = .ok (.goto (-93), 3) by decide +kernel) (by decide) ?_
          exact k
        · have k := k.2 c17
          refine Ev_iconst (v := 1) hq_188 (show decode prog_7_method_62_code 78 = .ok (.iconst 1, 1) by decide +kernel) (by decide) ?_
          refine Ev_goto (tgt := 83) hq_188 (show decode prog_7_method_62_code 79 = .ok (.goto 4, 3) by decide +kernel) (by decide) ?_
          refine Ev_istore (lo2 := [.ref 57, .int x1, .int x2, .int x3, .int x4, .int r12, .int 1]) hq_188 (show decode prog_7_method_62_code 83 = .ok (.istore 6, 2) by decide +kernel) (z_le rfl) rfl ?_
          refine Ev_iload hq_188 (show decode prog_7_method_62_code 85 = .ok (.iload 6, 2) by decide +kernel) rfl ?_
          refine Ev_if_eq (tgt := 95) hq_188 (show decode prog_7_method_62_code 87 = .ok (.ifCond .eq 8, 3) by decide +kernel) (by decide) (fun hz => absurd hz (by decide)) (fun _ => ?_)
          refine Ev_iload hq_188 (show decode prog_7_method_62_code 90 = .ok (.iload 4, 2) by decide +kernel) rfl ?_
          refine Ev_goto (tgt := 96) hq_188 (show decode prog_7_method_62_code 92 = .ok (.goto 4, 3) by decide +kernel) (by decide) ?_
          refine Ev_istore_n (lo2 := [.ref 57, .int x1, .int x4, .int x3, .int x4, .int r12, .int 1]) hq_188 (show decode prog_7_method_62_code 96 = .ok (.istore_n 2, 1) by decide +kernel) (z_le rfl) rfl ?_
          refine Ev_iload hq_188 (show decode prog_7_method_62_code 97 = .ok (.iload 6, 2) by decide +kernel) rfl ?_
          refine Ev_if_eq (tgt := 107) hq_188 (show decode prog_7_method_62_code 99 = .ok (.ifCond .eq 8, 3) by decide +kernel) (by decide) (fun hz => absurd hz (by decide)) (fun _ => ?_)
          refine Ev_iload hq_188 (show decode prog_7_method_62_code 102 = .ok (.iload 5, 2) by decide +kernel) rfl ?_
          refine Ev_goto (tgt := 108) hq_188 (show decode prog_7_method_62_code 104 = .ok (.goto 4, 3) by decide +kernel) (by decide) ?_
          refine Ev_istore_n (lo2 := [.ref 57, .int x1, .int x4, .int r12, .int x4, .int r12, .int 1]) hq_188 (show decode prog_7_method_62_code 108 = .ok (.istore_n 3, 1) by decide +kernel) (z_le rfl) rfl ?_
          obtain ⟨y19, ey19⟩ : ∃ y19 : Int32, y19 = x4 + 1 := ⟨_, rfl⟩
          have k := k y19 ey19
          refine Ev_iinc (v := y19) (lo2 := [.ref 57, .int x1, .int x4, .int r12, .int y19, .int r12, .int 1]) hq_188 (show decode prog_7_method_62_code 109 = .ok (.iinc 4 1, 3) by decide +kernel) rfl (by rw [ey19]; rfl) rfl ?_
          refine Ev_goto (tgt := 19) hq_188 (show decode prog_7_method_62_code 112 = .ok (.goto (-93), 3) by decide +kernel) (by decide) ?_
          exact k
set_option maxRecDepth 20000 in
theorem wp_Z_stills {X : Nat × (Nat → Int32)} {d : Nat} {G : zG} {I : zI} {res : Option Value × zG × zI} (x1 : Int32) (hS : SG G) 
    (k : ∃ (r3 : Int32) (I1 : zI), Cv X d 148 [.ref 57, .int x1] G I (some (.int r3), G, I1) ∧ ((¬ r3 = 0 → ∃ (r7 : Int32) (I5 : zI), Cv X d 184 [.ref 57] G I1 (some (.int r7), G, I5) ∧ (z_inr x1 4 ∧ (∀ y9 : Int32, y9 = (r7 - (I5 75 x1.toNatClampNeg)) → (∀ I10 : zI, I10 = z_up I5 57 34 x1 → ∃ (r13 : Int32) (I11 : zI), Cv X d 184 [.ref 57] G I10 (some (.int r13), G, I11) ∧ (z_inr x1 4 ∧ (∀ y15 : Int32, y15 = (r13 - (I11 75 x1.toNatClampNeg)) → (∀ I16 : zI, I16 = z_up I11 57 34 (-1) → res = (some (.int (y15 - y9)), G, I16)))))))) ∧ (r3 = 0 → res = (some (.int (-100000)), G, I1)))) :
    Ev X (d + 1) 189 0 [.ref 57, .int x1, zU, zU] [] G I res := by
  refine Ev_aload_n hq_189 (show decode prog_7_method_63_code 0 = .ok (.aload_n 0, 1) by decide +kernel) rfl ?_
  refine Ev_iload_n hq_189 (show decode prog_7_method_63_code 1 = .ok (.iload_n 1, 1) by decide +kernel) rfl ?_
  obtain ⟨r3, I1, h2, k⟩ := k
  refine Ev_virt (as := [.int x1]) hq_189 (show decode prog_7_method_63_code 2 = .ok (.invokevirtual 176, 3) by decide +kernel) rfl hq_148 rfl (z_le rfl) ⟨(SGn hS (by decide)), (SGk hS rfl), by decide⟩ h2 ?_
  refine Ev_if_ne (tgt := 11) hq_189 (show decode prog_7_method_63_code 5 = .ok (.ifCond .ne 6, 3) by decide +kernel) (by decide) (fun c4 => ?_) (fun c4 => ?_)
  · have k := k.1 c4
    refine Ev_aload_n hq_189 (show decode prog_7_method_63_code 11 = .ok (.aload_n 0, 1) by decide +kernel) rfl ?_
    obtain ⟨r7, I5, h6, k⟩ := k
    refine Ev_virt (as := []) hq_189 (show decode prog_7_method_63_code 12 = .ok (.invokevirtual 247, 3) by decide +kernel) rfl hq_184 rfl (z_le rfl) ⟨(SGn hS (by decide)), (SGk hS rfl), by decide⟩ h6 ?_
    refine Ev_aload_n hq_189 (show decode prog_7_method_63_code 15 = .ok (.aload_n 0, 1) by decide +kernel) rfl ?_
    refine Ev_getR hq_189 (show decode prog_7_method_63_code 16 = .ok (.getfield 61, 3) by decide +kernel) rfl (SGn hS (by decide)) (SGk hS rfl) (by decide) rfl (SGr hS rfl) ?_
    refine Ev_iload_n hq_189 (show decode prog_7_method_63_code 19 = .ok (.iload_n 1, 1) by decide +kernel) rfl ?_
    obtain ⟨h8, k⟩ := k
    refine Ev_iald hq_189 (show decode prog_7_method_63_code 20 = .ok (.iaload, 1) by decide +kernel) (SGn hS (by decide)) (SGk hS rfl) (SGi hS rfl h8) ?_
    refine Ev_isub hq_189 (show decode prog_7_method_63_code 21 = .ok (.isub, 1) by decide +kernel) ?_
    obtain ⟨y9, ey9⟩ : ∃ y9 : Int32, y9 = (r7 - (I5 75 x1.toNatClampNeg)) := ⟨_, rfl⟩
    have k := k y9 ey9
    rw [← ey9]
    refine Ev_istore_n (lo2 := [.ref 57, .int x1, .int y9, zU]) hq_189 (show decode prog_7_method_63_code 22 = .ok (.istore_n 2, 1) by decide +kernel) (z_le rfl) rfl ?_
    refine Ev_aload_n hq_189 (show decode prog_7_method_63_code 23 = .ok (.aload_n 0, 1) by decide +kernel) rfl ?_
    refine Ev_iload_n hq_189 (show decode prog_7_method_63_code 24 = .ok (.iload_n 1, 1) by decide +kernel) rfl ?_
    refine Ev_putI hq_189 (show decode prog_7_method_63_code 25 = .ok (.putfield 70, 3) by decide +kernel) rfl (SGn hS (by decide)) (SGk hS rfl) (by decide) (by decide) rfl (fun hz => by cases hz) ?_
    obtain ⟨I10, eI10⟩ : ∃ I10 : zI, I10 = z_up I5 57 34 x1 := ⟨_, rfl⟩
    have k := k I10 eI10
    rw [← eI10]
    refine Ev_aload_n hq_189 (show decode prog_7_method_63_code 28 = .ok (.aload_n 0, 1) by decide +kernel) rfl ?_
    obtain ⟨r13, I11, h12, k⟩ := k
    refine Ev_virt (as := []) hq_189 (show decode prog_7_method_63_code 29 = .ok (.invokevirtual 247, 3) by decide +kernel) rfl hq_184 rfl (z_le rfl) ⟨(SGn hS (by decide)), (SGk hS rfl), by decide⟩ h12 ?_
    refine Ev_aload_n hq_189 (show decode prog_7_method_63_code 32 = .ok (.aload_n 0, 1) by decide +kernel) rfl ?_
    refine Ev_getR hq_189 (show decode prog_7_method_63_code 33 = .ok (.getfield 61, 3) by decide +kernel) rfl (SGn hS (by decide)) (SGk hS rfl) (by decide) rfl (SGr hS rfl) ?_
    refine Ev_iload_n hq_189 (show decode prog_7_method_63_code 36 = .ok (.iload_n 1, 1) by decide +kernel) rfl ?_
    obtain ⟨h14, k⟩ := k
    refine Ev_iald hq_189 (show decode prog_7_method_63_code 37 = .ok (.iaload, 1) by decide +kernel) (SGn hS (by decide)) (SGk hS rfl) (SGi hS rfl h14) ?_
    refine Ev_isub hq_189 (show decode prog_7_method_63_code 38 = .ok (.isub, 1) by decide +kernel) ?_
    obtain ⟨y15, ey15⟩ : ∃ y15 : Int32, y15 = (r13 - (I11 75 x1.toNatClampNeg)) := ⟨_, rfl⟩
    have k := k y15 ey15
    rw [← ey15]
    refine Ev_istore_n (lo2 := [.ref 57, .int x1, .int y9, .int y15]) hq_189 (show decode prog_7_method_63_code 39 = .ok (.istore_n 3, 1) by decide +kernel) (z_le rfl) rfl ?_
    refine Ev_aload_n hq_189 (show decode prog_7_method_63_code 40 = .ok (.aload_n 0, 1) by decide +kernel) rfl ?_
    refine Ev_iconst (v := (-1)) hq_189 (show decode prog_7_method_63_code 41 = .ok (.iconst (-1), 1) by decide +kernel) (by decide) ?_
    refine Ev_putI hq_189 (show decode prog_7_method_63_code 42 = .ok (.putfield 70, 3) by decide +kernel) rfl (SGn hS (by decide)) (SGk hS rfl) (by decide) (by decide) rfl (fun hz => by cases hz) ?_
    obtain ⟨I16, eI16⟩ : ∃ I16 : zI, I16 = z_up I11 57 34 (-1) := ⟨_, rfl⟩
    have k := k I16 eI16
    rw [← eI16]
    refine Ev_iload_n hq_189 (show decode prog_7_method_63_code 45 = .ok (.iload_n 3, 1) by decide +kernel) rfl ?_
    refine Ev_iload_n hq_189 (show decode prog_7_method_63_code 46 = .ok (.iload_n 2, 1) by decide +kernel) rfl ?_
    refine Ev_isub hq_189 (show decode prog_7_method_63_code 47 = .ok (.isub, 1) by decide +kernel) ?_
    exact Ev_iret hq_189 (show decode prog_7_method_63_code 48 = .ok (.ireturn, 1) by decide +kernel) rfl k
  · have k := k.2 (Classical.not_not.mp c4)
    refine Ev_ldc (v := (-100000)) hq_189 (show decode prog_7_method_63_code 8 = .ok (.ldc 211, 2) by decide +kernel) rfl ?_
    exact Ev_iret hq_189 (show decode prog_7_method_63_code 10 = .ok (.ireturn, 1) by decide +kernel) rfl k
set_option maxRecDepth 20000 in
theorem wp_Z_leave {X : Nat × (Nat → Int32)} {d : Nat} {G : zG} {I : zI} {res : Option Value × zG × zI} (x1 : Int32) (x2 : Int32) (hS : SG G) 
    (k : ∃ (r3 : Int32) (I1 : zI), Cv X d 148 [.ref 57, .int x1] G I (some (.int r3), G, I1) ∧ ((¬ r3 = 0 → ∃ (r7 : Int32) (I5 : zI), Cv X d 131 [.int x2, .int 0, .int 1] G I1 (some (.int r7), G, I5) ∧ ((¬ r7 = 0 → z_inr ((5 * x1) + 2) 20 ∧ (∀ y10 : Int32, y10 = (I5 60 ((5 * x1) + 2).toNatClampNeg) → (∀ I11 : zI, I11 = z_up I5 57 34 x1 → Ev X (d + 1) 190 48 [.ref 57, .int x1, .int x2, .int y10, .int (-1), .int 0, .int 0, zU, zU] [] G I11 res))) ∧ (r7 = 0 → res = (some (.int (-7)), G, I5)))) ∧ (r3 = 0 → res = (some (.int (-5)), G, I1)))) :
    Ev X (d + 1) 190 0 [.ref 57, .int x1, .int x2, zU, zU, zU, zU, zU, zU] [] G I res := by
  refine Ev_aload_n hq_190 (show decode prog_7_method_64_code 0 = .ok (.aload_n 0, 1) by decide +kernel) rfl ?_
  refine Ev_iload_n hq_190 (show decode prog_7_method_64_code 1 = .ok (.iload_n 1, 1) by decide +kernel) rfl ?_
  obtain ⟨r3, I1, h2, k⟩ := k
  refine Ev_virt (as := [.int x1]) hq_190 (show decode prog_7_method_64_code 2 = .ok (.invokevirtual 176, 3) by decide +kernel) rfl hq_148 rfl (z_le rfl) ⟨(SGn hS (by decide)), (SGk hS rfl), by decide⟩ h2 ?_
  refine Ev_if_ne (tgt := 11) hq_190 (show decode prog_7_method_64_code 5 = .ok (.ifCond .ne 6, 3) by decide +kernel) (by decide) (fun c4 => ?_) (fun c4 => ?_)
  · have k := k.1 c4
    refine Ev_iload_n hq_190 (show decode prog_7_method_64_code 11 = .ok (.iload_n 2, 1) by decide +kernel) rfl ?_
    refine Ev_iconst (v := 0) hq_190 (show decode prog_7_method_64_code 12 = .ok (.iconst 0, 1) by decide +kernel) (by decide) ?_
    refine Ev_iconst (v := 1) hq_190 (show decode prog_7_method_64_code 13 = .ok (.iconst 1, 1) by decide +kernel) (by decide) ?_
    obtain ⟨r7, I5, h6, k⟩ := k
    refine Ev_stat (as := [.int x2, .int 0, .int 1]) hq_190 (show decode prog_7_method_64_code 14 = .ok (.invokestatic 90, 3) by decide +kernel) rfl (Or.inl rfl) hq_131 rfl (z_le rfl) h6 ?_
    refine Ev_if_ne (tgt := 23) hq_190 (show decode prog_7_method_64_code 17 = .ok (.ifCond .ne 6, 3) by decide +kernel) (by decide) (fun c8 => ?_) (fun c8 => ?_)
    · have k := k.1 c8
      refine Ev_aload_n hq_190 (show decode prog_7_method_64_code 23 = .ok (.aload_n 0, 1) by decide +kernel) rfl ?_
      refine Ev_getR hq_190 (show decode prog_7_method_64_code 24 = .ok (.getfield 16, 3) by decide +kernel) rfl (SGn hS (by decide)) (SGk hS rfl) (by decide) rfl (SGr hS rfl) ?_
      refine Ev_iconst (v := 5) hq_190 (show decode prog_7_method_64_code 27 = .ok (.iconst 5, 1) by decide +kernel) (by decide) ?_
      refine Ev_iload_n hq_190 (show decode prog_7_method_64_code 28 = .ok (.iload_n 1, 1) by decide +kernel) rfl ?_
      refine Ev_imul hq_190 (show decode prog_7_method_64_code 29 = .ok (.imul, 1) by decide +kernel) ?_
      refine Ev_iconst (v := 2) hq_190 (show decode prog_7_method_64_code 30 = .ok (.iconst 2, 1) by decide +kernel) (by decide) ?_
      refine Ev_iadd hq_190 (show decode prog_7_method_64_code 31 = .ok (.iadd, 1) by decide +kernel) ?_
      obtain ⟨h9, k⟩ := k
      refine Ev_iald hq_190 (show decode prog_7_method_64_code 32 = .ok (.iaload, 1) by decide +kernel) (SGn hS (by decide)) (SGk hS rfl) (SGi hS rfl h9) ?_
      obtain ⟨y10, ey10⟩ : ∃ y10 : Int32, y10 = (I5 60 ((5 * x1) + 2).toNatClampNeg) := ⟨_, rfl⟩
      have k := k y10 ey10
      rw [← ey10]
      refine Ev_istore_n (lo2 := [.ref 57, .int x1, .int x2, .int y10, zU, zU, zU, zU, zU]) hq_190 (show decode prog_7_method_64_code 33 = .ok (.istore_n 3, 1) by decide +kernel) (z_le rfl) rfl ?_
      refine Ev_iconst (v := (-1)) hq_190 (show decode prog_7_method_64_code 34 = .ok (.iconst (-1), 1) by decide +kernel) (by decide) ?_
      refine Ev_istore (lo2 := [.ref 57, .int x1, .int x2, .int y10, .int (-1), zU, zU, zU, zU]) hq_190 (show decode prog_7_method_64_code 35 = .ok (.istore 4, 2) by decide +kernel) (z_le rfl) rfl ?_
      refine Ev_iconst (v := 0) hq_190 (show decode prog_7_method_64_code 37 = .ok (.iconst 0, 1) by decide +kernel) (by decide) ?_
      refine Ev_istore (lo2 := [.ref 57, .int x1, .int x2, .int y10, .int (-1), .int 0, zU, zU, zU]) hq_190 (show decode prog_7_method_64_code 38 = .ok (.istore 5, 2) by decide +kernel) (z_le rfl) rfl ?_
      refine Ev_aload_n hq_190 (show decode prog_7_method_64_code 40 = .ok (.aload_n 0, 1) by decide +kernel) rfl ?_
      refine Ev_iload_n hq_190 (show decode prog_7_method_64_code 41 = .ok (.iload_n 1, 1) by decide +kernel) rfl ?_
      refine Ev_putI hq_190 (show decode prog_7_method_64_code 42 = .ok (.putfield 70, 3) by decide +kernel) rfl (SGn hS (by decide)) (SGk hS rfl) (by decide) (by decide) rfl (fun hz => by cases hz) ?_
      obtain ⟨I11, eI11⟩ : ∃ I11 : zI, I11 = z_up I5 57 34 x1 := ⟨_, rfl⟩
      have k := k I11 eI11
      rw [← eI11]
      refine Ev_iconst (v := 0) hq_190 (show decode prog_7_method_64_code 45 = .ok (.iconst 0, 1) by decide +kernel) (by decide) ?_
      refine Ev_istore (lo2 := [.ref 57, .int x1, .int x2, .int y10, .int (-1), .int 0, .int 0, zU, zU]) hq_190 (show decode prog_7_method_64_code 46 = .ok (.istore 6, 2) by decide +kernel) (z_le rfl) rfl ?_
      exact k
    · have k := k.2 (Classical.not_not.mp c8)
      refine Ev_bipush (v := (-7)) hq_190 (show decode prog_7_method_64_code 20 = .ok (.bipush (-7), 2) by decide +kernel) (by decide) ?_
      exact Ev_iret hq_190 (show decode prog_7_method_64_code 22 = .ok (.ireturn, 1) by decide +kernel) rfl k
  · have k := k.2 (Classical.not_not.mp c4)
    refine Ev_bipush (v := (-5)) hq_190 (show decode prog_7_method_64_code 8 = .ok (.bipush (-5), 2) by decide +kernel) (by decide) ?_
    exact Ev_iret hq_190 (show decode prog_7_method_64_code 10 = .ok (.ireturn, 1) by decide +kernel) rfl k
set_option maxRecDepth 20000 in
theorem wp_Z_leave_48 {X : Nat × (Nat → Int32)} {d : Nat} {G : zG} {I : zI} {res : Option Value × zG × zI} (x1 : Int32) (x2 : Int32) (x3 : Int32) (x4 : Int32) (x5 : Int32) (x6 : Int32) (v7 : Value) (cv7 : v7.category = 1) (v8 : Value) (cv8 : v8.category = 1) (hS : SG G) 
    (k : (990 < x6 → (∀ I2 : zI, I2 = z_up I 57 34 (-1) → z_inr ((5 * x1) + 2) 20 ∧ (∀ I4 : zI, I4 = z_up I2 60 ((5 * x1) + 2).toNatClampNeg x3 → (¬ x2 = 0 → res = (some (.int x5), G, I4)) ∧ (x2 = 0 → res = (some (.int x4), G, I4))))) ∧ (¬ 990 < x6 → z_inr ((5 * x1) + 2) 20 ∧ (∀ I7 : zI, I7 = z_up I 60 ((5 * x1) + 2).toNatClampNeg x6 → ∃ (r10 : Int32) (I8 : zI), Cv X d 179 [.ref 57, .int x1] G I7 (some (.int r10), G, I8) ∧ ((x4 = (-1) → ∀ y12 : Int32, y12 = x6 + 10 → Ev X (d + 1) 190 48 [.ref 57, .int x1, .int x2, .int x3, .int x6, .int r10, .int y12, .int r10, .int 1] [] G I8 res) ∧ (¬ x4 = (-1) → (x5 ≤ r10 → ∀ y14 : Int32, y14 = x6 + 10 → Ev X (d + 1) 190 48 [.ref 57, .int x1, .int x2, .int x3, .int x4, .int x5, .int y14, .int r10, .int 0] [] G I8 res) ∧ (¬ x5 ≤ r10 → ∀ y15 : Int32, y15 = x6 + 10 → Ev X (d + 1) 190 48 [.ref 57, .int x1, .int x2, .int x3, .int x6, .int r10, .int y15, .int r10, .int 1] [] G I8 res)))))) :
    Ev X (d + 1) 190 48 [.ref 57, .int x1, .int x2, .int x3, .int x4, .int x5, .int x6, v7, v8] [] G I res := by
  refine Ev_iload hq_190 (show decode prog_7_method_64_code 48 = .ok (.iload 6, 2) by decide +kernel) rfl ?_
  refine Ev_sipush (v := 990) hq_190 (show decode prog_7_method_64_code 50 = .ok (.sipush 990, 3) by decide +kernel) (by decide) ?_
  refine Ev_icmp_gt (tgt := 129) hq_190 (show decode prog_7_method_64_code 53 = .ok (.if_icmp .gt 76, 3) by decide +kernel) (by decide) (fun c1 => ?_) (fun c1 => ?_)
  · have k := k.1 c1
    refine Ev_aload_n hq_190 (show decode prog_7_method_64_code 129 = .ok (.aload_n 0, 1) by decide +kernel) rfl ?_
    refine Ev_iconst (v := (-1)) hq_190 (show decode prog_7_method_64_code 130 = .ok (.iconst (-1), 1) by decide +kernel) (by decide) ?_
    refine Ev_putI hq_190 (show decode prog_7_method_64_code 131 = .ok (.putfield 70, 3) by decide +kernel) rfl (SGn hS (by decide)) (SGk hS rfl) (by decide) (by decide) rfl (fun hz => by cases hz) ?_
    obtain ⟨I2, eI2⟩ : ∃ I2 : zI, I2 = z_up I 57 34 (-1) := ⟨_, rfl⟩
    have k := k I2 eI2
    rw [← eI2]
    refine Ev_aload_n hq_190 (show decode prog_7_method_64_code 134 = .ok (.aload_n 0, 1) by decide +kernel) rfl ?_
    refine Ev_getR hq_190 (show decode prog_7_method_64_code 135 = .ok (.getfield 16, 3) by decide +kernel) rfl (SGn hS (by decide)) (SGk hS rfl) (by decide) rfl (SGr hS rfl) ?_
    refine Ev_iconst (v := 5) hq_190 (show decode prog_7_method_64_code 138 = .ok (.iconst 5, 1) by decide +kernel) (by decide) ?_
    refine Ev_iload_n hq_190 (show decode prog_7_method_64_code 139 = .ok (.iload_n 1, 1) by decide +kernel) rfl ?_
    refine Ev_imul hq_190 (show decode prog_7_method_64_code 140 = .ok (.imul, 1) by decide +kernel) ?_
    refine Ev_iconst (v := 2) hq_190 (show decode prog_7_method_64_code 141 = .ok (.iconst 2, 1) by decide +kernel) (by decide) ?_
    refine Ev_iadd hq_190 (show decode prog_7_method_64_code 142 = .ok (.iadd, 1) by decide +kernel) ?_
    refine Ev_iload_n hq_190 (show decode prog_7_method_64_code 143 = .ok (.iload_n 3, 1) by decide +kernel) rfl ?_
    obtain ⟨h3, k⟩ := k
    refine Ev_iast hq_190 (show decode prog_7_method_64_code 144 = .ok (.iastore, 1) by decide +kernel) (SGn hS (by decide)) (SGk hS rfl) (SGi hS rfl h3) ?_
    obtain ⟨I4, eI4⟩ : ∃ I4 : zI, I4 = z_up I2 60 ((5 * x1) + 2).toNatClampNeg x3 := ⟨_, rfl⟩
    have k := k I4 eI4
    rw [← eI4]
    refine Ev_iload_n hq_190 (show decode prog_7_method_64_code 145 = .ok (.iload_n 2, 1) by decide +kernel) rfl ?_
    refine Ev_if_ne (tgt := 154) hq_190 (show decode prog_7_method_64_code 146 = .ok (.ifCond .ne 8, 3) by decide +kernel) (by decide) (fun c5 => ?_) (fun c5 => ?_)
    · have k := k.1 c5
      refine Ev_iload hq_190 (show decode prog_7_method_64_code 154 = .ok (.iload 5, 2) by decide +kernel) rfl ?_
      exact Ev_iret hq_190 (show decode prog_7_method_64_code 156 = .ok (.ireturn, 1) by decide +kernel) rfl k
    · have k := k.2 (Classical.not_not.mp c5)
      refine Ev_iload hq_190 (show decode prog_7_method_64_code 149 = .ok (.iload 4, 2) by decide +kernel) rfl ?_
      refine Ev_goto (tgt := 156) hq_190 (show decode prog_7_method_64_code 151 = .ok (.goto 5, 3) by decide +kernel) (by decide) ?_
      exact Ev_iret hq_190 (show decode prog_7_method_64_code 156 = .ok (.ireturn, 1) by decide +kernel) rfl k
  · have k := k.2 c1
    refine Ev_aload_n hq_190 (show decode prog_7_method_64_code 56 = .ok (.aload_n 0, 1) by decide +kernel) rfl ?_
    refine Ev_getR hq_190 (show decode prog_7_method_64_code 57 = .ok (.getfield 16, 3) by decide +kernel) rfl (SGn hS (by decide)) (SGk hS rfl) (by decide) rfl (SGr hS rfl) ?_
    refine Ev_iconst (v := 5) hq_190 (show decode prog_7_method_64_code 60 = .ok (.iconst 5, 1) by decide +kernel) (by decide) ?_
    refine Ev_iload_n hq_190 (show decode prog_7_method_64_code 61 = .ok (.iload_n 1, 1) by decide +kernel) rfl ?_
    refine Ev_imul hq_190 (show decode prog_7_method_64_code 62 = .ok (.imul, 1) by decide +kernel) ?_
    refine Ev_iconst (v := 2) hq_190 (show decode prog_7_method_64_code 63 = .ok (.iconst 2, 1) by decide +kernel) (by decide) ?_
    refine Ev_iadd hq_190 (show decode prog_7_method_64_code 64 = .ok (.iadd, 1) by decide +kernel) ?_
    refine Ev_iload hq_190 (show decode prog_7_method_64_code 65 = .ok (.iload 6, 2) by decide +kernel) rfl ?_
    obtain ⟨h6, k⟩ := k
    refine Ev_iast hq_190 (show decode prog_7_method_64_code 67 = .ok (.iastore, 1) by decide +kernel) (SGn hS (by decide)) (SGk hS rfl) (SGi hS rfl h6) ?_
    obtain ⟨I7, eI7⟩ : ∃ I7 : zI, I7 = z_up I 60 ((5 * x1) + 2).toNatClampNeg x6 := ⟨_, rfl⟩
    have k := k I7 eI7
    rw [← eI7]
    refine Ev_aload_n hq_190 (show decode prog_7_method_64_code 68 = .ok (.aload_n 0, 1) by decide +kernel) rfl ?_
    refine Ev_iload_n hq_190 (show decode prog_7_method_64_code 69 = .ok (.iload_n 1, 1) by decide +kernel) rfl ?_
    obtain ⟨r10, I8, h9, k⟩ := k
    refine Ev_virt (as := [.int x1]) hq_190 (show decode prog_7_method_64_code 70 = .ok (.invokevirtual 235, 3) by decide +kernel) rfl hq_179 rfl (z_le rfl) ⟨(SGn hS (by decide)), (SGk hS rfl), by decide⟩ h9 ?_
    refine Ev_istore (lo2 := [.ref 57, .int x1, .int x2, .int x3, .int x4, .int x5, .int x6, .int r10, v8]) hq_190 (show decode prog_7_method_64_code 73 = .ok (.istore 7, 2) by decide +kernel) (z_le rfl) rfl ?_
    refine Ev_iload hq_190 (show decode prog_7_method_64_code 75 = .ok (.iload 4, 2) by decide +kernel) rfl ?_
    refine Ev_iconst (v := (-1)) hq_190 (show decode prog_7_method_64_code 77 = .ok (.iconst (-1), 1) by decide +kernel) (by decide) ?_
    refine Ev_icmp_eq (tgt := 88) hq_190 (show decode prog_7_method_64_code 78 = .ok (.if_icmp .eq 10, 3) by decide +kernel) (by decide) (fun c11 => ?_) (fun c11 => ?_)
    · have k := k.1 c11
      refine Ev_iconst (v := 1) hq_190 (show decode prog_7_method_64_code 88 = .ok (.iconst 1, 1) by decide +kernel) (by decide) ?_
      refine Ev_goto (tgt := 93) hq_190 (show decode prog_7_method_64_code 89 = .ok (.goto 4, 3) by decide +kernel) (by decide) ?_
      refine Ev_istore (lo2 := [.ref 57, .int x1, .int x2, .int x3, .int x4, .int x5, .int x6, .int r10, .int 1]) hq_190 (show decode prog_7_method_64_code 93 = .ok (.istore 8, 2) by decide +kernel) (z_le rfl) rfl ?_
      refine Ev_iload hq_190 (show decode prog_7_method_64_code 95 = .ok (.iload 8, 2) by decide +kernel) rfl ?_
      refine Ev_if_eq (tgt := 105) hq_190 (show decode prog_7_method_64_code 97 = .ok (.ifCond .eq 8, 3) by decide +kernel) (by decide) (fun hz => absurd hz (by decide)) (fun _ => ?_)
      refine Ev_iload hq_190 (show decode prog_7_method_64_code 100 = .ok (.iload 6, 2) by decide +kernel) rfl ?_
      refine Ev_goto (tgt := 107) hq_190 (show decode prog_7_method_64_code 102 = .ok (.goto 5, 3) by decide +kernel) (by decide) ?_
      refine Ev_istore (lo2 := [.ref 57, .int x1, .int x2, .int x3, .int x6, .int x5, .int x6, .int r10, .int 1]) hq_190 (show decode prog_7_method_64_code 107 = .ok (.istore 4, 2) by decide +kernel) (z_le rfl) rfl ?_
      refine Ev_iload hq_190 (show decode prog_7_method_64_code 109 = .ok (.iload 8, 2) by decide +kernel) rfl ?_
      refine Ev_if_eq (tgt := 119) hq_190 (show decode prog_7_method_64_code 111 = .ok (.ifCond .eq 8, 3) by decide +kernel) (by decide) (fun hz => absurd hz (by decide)) (fun _ => ?_)
      refine Ev_iload hq_190 (show decode prog_7_method_64_code 114 = .ok (.iload 7, 2) by decide +kernel) rfl ?_
      refine Ev_goto (tgt := 121) hq_190 (show decode prog_7_method_64_code 116 = .ok (.goto 5, 3) by decide +kernel) (by decide) ?_
      refine Ev_istore (lo2 := [.ref 57, .int x1, .int x2, .int x3, .int x6, .int r10, .int x6, .int r10, .int 1]) hq_190 (show decode prog_7_method_64_code 121 = .ok (.istore 5, 2) by decide +kernel) (z_le rfl) rfl ?_
      obtain ⟨y12, ey12⟩ : ∃ y12 : Int32, y12 = x6 + 10 := ⟨_, rfl⟩
      have k := k y12 ey12
      refine Ev_iinc (v := y12) (lo2 := [.ref 57, .int x1, .int x2, .int x3, .int x6, .int r10, .int y12, .int r10, .int 1]) hq_190 (show decode prog_7_method_64_code 123 = .ok (.iinc 6 10, 3) by decide +kernel) rfl (by rw [ey12]; rfl) rfl ?_
      refine Ev_goto (tgt := 48) hq_190 (show decode prog_7_method_64_code 126 = .ok (.goto (-78), 3) by decide +kernel) (by decide) ?_
      exact k
    · have k := k.2 c11
      refine Ev_iload hq_190 (show decode prog_7_method_64_code 81 = .ok (.iload 7, 2) by decide +kernel) rfl ?_
      refine Ev_iload hq_190 (show decode prog_7_method_64_code 83 = .ok (.iload 5, 2) by decide +kernel) rfl ?_
      refine Ev_icmp_ge (tgt := 92) hq_190 (show decode prog_7_method_64_code 85 = .ok (.if_icmp .ge 7, 3) by decide +kernel) (by decide) (fun c13 => ?_) (fun c13 => ?_)
      · have k := k.1 c13
        refine Ev_iconst (v := 0) hq_190 (show decode prog_7_method_64_code 92 = .ok (.iconst 0, 1) by decide +kernel) (by decide) ?_
        refine Ev_istore (lo2 := [.ref 57, .int x1, .int x2, .int x3, .int x4, .int x5, .int x6, .int r10, .int 0]) hq_190 (show decode prog_7_method_64_code 93 = .ok (.istore 8, 2) by decide +kernel) (z_le rfl) rfl ?_
        refine Ev_iload hq_190 (show decode prog_7_method_64_code 95 = .ok (.iload 8, 2) by decide +kernel) rfl ?_
        refine Ev_if_eq (tgt := 105) hq_190 (show decode prog_7_method_64_code 97 = .ok (.ifCond .eq 8, 3) by decide +kernel) (by decide) (fun _ => ?_) (fun hz => absurd (by decide) hz)
        refine Ev_iload hq_190 (show decode prog_7_method_64_code 105 = .ok (.iload 4, 2) by decide +kernel) rfl ?_
        refine Ev_istore (lo2 := [.ref 57, .int x1, .int x2, .int x3, .int x4, .int x5, .int x6, .int r10, .int 0]) hq_190 (show decode prog_7_method_64_code 107 = .ok (.istore 4, 2) by decide +kernel) (z_le rfl) rfl ?_
        refine Ev_iload hq_190 (show decode prog_7_method_64_code 109 = .ok (.iload 8, 2) by decide +kernel) rfl ?_
        refine Ev_if_eq (tgt := 119) hq_190 (show decode prog_7_method_64_code 111 = .ok (.ifCond .eq 8, 3) by decide +kernel) (by decide) (fun _ => ?_) (fun hz => absurd (by decide) hz)
        refine Ev_iload hq_190 (show decode prog_7_method_64_code 119 = .ok (.iload 5, 2) by decide +kernel) rfl ?_
        refine Ev_istore (lo2 := [.ref 57, .int x1, .int x2, .int x3, .int x4, .int x5, .int x6, .int r10, .int 0]) hq_190 (show decode prog_7_method_64_code 121 = .ok (.istore 5, 2) by decide +kernel) (z_le rfl) rfl ?_
        obtain ⟨y14, ey14⟩ : ∃ y14 : Int32, y14 = x6 + 10 := ⟨_, rfl⟩
        have k := k y14 ey14
        refine Ev_iinc (v := y14) (lo2 := [.ref 57, .int x1, .int x2, .int x3, .int x4, .int x5, .int y14, .int r10, .int 0]) hq_190 (show decode prog_7_method_64_code 123 = .ok (.iinc 6 10, 3) by decide +kernel) rfl (by rw [ey14]; rfl) rfl ?_
        refine Ev_goto (tgt := 48) hq_190 (show decode prog_7_method_64_code 126 = .ok (.goto (-78), 3) by decide +kernel) (by decide) ?_
        exact k
      · have k := k.2 c13
        refine Ev_iconst (v := 1) hq_190 (show decode prog_7_method_64_code 88 = .ok (.iconst 1, 1) by decide +kernel) (by decide) ?_
        refine Ev_goto (tgt := 93) hq_190 (show decode prog_7_method_64_code 89 = .ok (.goto 4, 3) by decide +kernel) (by decide) ?_
        refine Ev_istore (lo2 := [.ref 57, .int x1, .int x2, .int x3, .int x4, .int x5, .int x6, .int r10, .int 1]) hq_190 (show decode prog_7_method_64_code 93 = .ok (.istore 8, 2) by decide +kernel) (z_le rfl) rfl ?_
        refine Ev_iload hq_190 (show decode prog_7_method_64_code 95 = .ok (.iload 8, 2) by decide +kernel) rfl ?_
        refine Ev_if_eq (tgt := 105) hq_190 (show decode prog_7_method_64_code 97 = .ok (.ifCond .eq 8, 3) by decide +kernel) (by decide) (fun hz => absurd hz (by decide)) (fun _ => ?_)
        refine Ev_iload hq_190 (show decode prog_7_method_64_code 100 = .ok (.iload 6, 2) by decide +kernel) rfl ?_
        refine Ev_goto (tgt := 107) hq_190 (show decode prog_7_method_64_code 102 = .ok (.goto 5, 3) by decide +kernel) (by decide) ?_
        refine Ev_istore (lo2 := [.ref 57, .int x1, .int x2, .int x3, .int x6, .int x5, .int x6, .int r10, .int 1]) hq_190 (show decode prog_7_method_64_code 107 = .ok (.istore 4, 2) by decide +kernel) (z_le rfl) rfl ?_
        refine Ev_iload hq_190 (show decode prog_7_method_64_code 109 = .ok (.iload 8, 2) by decide +kernel) rfl ?_
        refine Ev_if_eq (tgt := 119) hq_190 (show decode prog_7_method_64_code 111 = .ok (.ifCond .eq 8, 3) by decide +kernel) (by decide) (fun hz => absurd hz (by decide)) (fun _ => ?_)
        refine Ev_iload hq_190 (show decode prog_7_method_64_code 114 = .ok (.iload 7, 2) by decide +kernel) rfl ?_
        refine Ev_goto (tgt := 121) hq_190 (show decode prog_7_method_64_code 116 = .ok (.goto 5, 3) by decide +kernel) (by decide) ?_
        refine Ev_istore (lo2 := [.ref 57, .int x1, .int x2, .int x3, .int x6, .int r10, .int x6, .int r10, .int 1]) hq_190 (show decode prog_7_method_64_code 121 = .ok (.istore 5, 2) by decide +kernel) (z_le rfl) rfl ?_
        obtain ⟨y15, ey15⟩ : ∃ y15 : Int32, y15 = x6 + 10 := ⟨_, rfl⟩
        have k := k y15 ey15
        refine Ev_iinc (v := y15) (lo2 := [.ref 57, .int x1, .int x2, .int x3, .int x6, .int r10, .int y15, .int r10, .int 1]) hq_190 (show decode prog_7_method_64_code 123 = .ok (.iinc 6 10, 3) by decide +kernel) rfl (by rw [ey15]; rfl) rfl ?_
        refine Ev_goto (tgt := 48) hq_190 (show decode prog_7_method_64_code 126 = .ok (.goto (-78), 3) by decide +kernel) (by decide) ?_
        exact k
set_option maxRecDepth 20000 in
theorem wp_Z_judge {X : Nat × (Nat → Int32)} {d : Nat} {G : zG} {I : zI} {res : Option Value × zG × zI} (x1 : Int32) (x2 : Int32) (hS : SG G) 
    (k : ∃ (r3 : Int32) (I1 : zI), Cv X d 192 [.ref 57, .int x1, .int x2] G I (some (.int r3), G, I1) ∧ ((¬ r3 = 0 → res = (some (.int r3), G, I1)) ∧ (r3 = 0 → ∃ (r7 : Int32) (I5 : zI), Cv X d 194 [.ref 57, .int x1, .int x2] G I1 (some (.int r7), G, I5) ∧ (res = (some (.int r7), G, I5))))) :
    Ev X (d + 1) 191 0 [.ref 57, .int x1, .int x2, zU] [] G I res := by
  refine Ev_aload_n hq_191 (show decode prog_7_method_68_code 0 = .ok (.aload_n 0, 1) by decide +kernel) rfl ?_
  refine Ev_iload_n hq_191 (show decode prog_7_method_68_code 1 = .ok (.iload_n 1, 1) by decide +kernel) rfl ?_
  refine Ev_iload_n hq_191 (show decode prog_7_method_68_code 2 = .ok (.iload_n 2, 1) by decide +kernel) rfl ?_
  obtain ⟨r3, I1, h2, k⟩ := k
  refine Ev_virt (as := [.int x1, .int x2]) hq_191 (show decode prog_7_method_68_code 3 = .ok (.invokevirtual 257, 3) by decide +kernel) rfl hq_192 rfl (z_le rfl) ⟨(SGn hS (by decide)), (SGk hS rfl), by decide⟩ h2 ?_
  refine Ev_istore_n (lo2 := [.ref 57, .int x1, .int x2, .int r3]) hq_191 (show decode prog_7_method_68_code 6 = .ok (.istore_n 3, 1) by decide +kernel) (z_le rfl) rfl ?_
  refine Ev_iload_n hq_191 (show decode prog_7_method_68_code 7 = .ok (.iload_n 3, 1) by decide +kernel) rfl ?_
  refine Ev_if_ne (tgt := 20) hq_191 (show decode prog_7_method_68_code 8 = .ok (.ifCond .ne 12, 3) by decide +kernel) (by decide) (fun c4 => ?_) (fun c4 => ?_)
  · have k := k.1 c4
    refine Ev_iload_n hq_191 (show decode prog_7_method_68_code 20 = .ok (.iload_n 3, 1) by decide +kernel) rfl ?_
    exact Ev_iret hq_191 (show decode prog_7_method_68_code 21 = .ok (.ireturn, 1) by decide +kernel) rfl k
  · have k := k.2 (Classical.not_not.mp c4)
    refine Ev_aload_n hq_191 (show decode prog_7_method_68_code 11 = .ok (.aload_n 0, 1) by decide +kernel) rfl ?_
    refine Ev_iload_n hq_191 (show decode prog_7_method_68_code 12 = .ok (.iload_n 1, 1) by decide +kernel) rfl ?_
    refine Ev_iload_n hq_191 (show decode prog_7_method_68_code 13 = .ok (.iload_n 2, 1) by decide +kernel) rfl ?_
    obtain ⟨r7, I5, h6, k⟩ := k
    refine Ev_virt (as := [.int x1, .int x2]) hq_191 (show decode prog_7_method_68_code 14 = .ok (.invokevirtual 260, 3) by decide +kernel) rfl hq_194 rfl (z_le rfl) ⟨(SGn hS (by decide)), (SGk hS rfl), by decide⟩ h6 ?_
    refine Ev_goto (tgt := 21) hq_191 (show decode prog_7_method_68_code 17 = .ok (.goto 4, 3) by decide +kernel) (by decide) ?_
    exact Ev_iret hq_191 (show decode prog_7_method_68_code 21 = .ok (.ireturn, 1) by decide +kernel) rfl k
set_option maxRecDepth 20000 in
theorem wp_Z_toldWrong {X : Nat × (Nat → Int32)} {d : Nat} {G : zG} {I : zI} {res : Option Value × zG × zI} (x1 : Int32) (x2 : Int32) (hS : SG G) 
    (k : ∃ (r3 : Int32) (I1 : zI), Cv X d 193 [.ref 57, .int x1] G I (some (.int r3), G, I1) ∧ ((r3 = 0 → ∃ (r7 : Int32) (I5 : zI), Cv X d 148 [.ref 57, .int x2] G I1 (some (.int r7), G, I5) ∧ ((r7 = 0 → res = (some (.int (-5)), G, I5)) ∧ (¬ r7 = 0 → res = (some (.int 0), G, I5)))) ∧ (¬ r3 = 0 → res = (some (.int r3), G, I1)))) :
    Ev X (d + 1) 192 0 [.ref 57, .int x1, .int x2, zU] [] G I res := by
  refine Ev_aload_n hq_192 (show decode prog_7_method_66_code 0 = .ok (.aload_n 0, 1) by decide +kernel) rfl ?_
  refine Ev_iload_n hq_192 (show decode prog_7_method_66_code 1 = .ok (.iload_n 1, 1) by decide +kernel) rfl ?_
  obtain ⟨r3, I1, h2, k⟩ := k
  refine Ev_virt (as := [.int x1]) hq_192 (show decode prog_7_method_66_code 2 = .ok (.invokevirtual 254, 3) by decide +kernel) rfl hq_193 rfl (z_le rfl) ⟨(SGn hS (by decide)), (SGk hS rfl), by decide⟩ h2 ?_
  refine Ev_istore_n (lo2 := [.ref 57, .int x1, .int x2, .int r3]) hq_192 (show decode prog_7_method_66_code 5 = .ok (.istore_n 3, 1) by decide +kernel) (z_le rfl) rfl ?_
  refine Ev_iload_n hq_192 (show decode prog_7_method_66_code 6 = .ok (.iload_n 3, 1) by decide +kernel) rfl ?_
  refine Ev_if_eq (tgt := 14) hq_192 (show decode prog_7_method_66_code 7 = .ok (.ifCond .eq 7, 3) by decide +kernel) (by decide) (fun c4 => ?_) (fun c4 => ?_)
  · have k := k.1 c4
    refine Ev_aload_n hq_192 (show decode prog_7_method_66_code 14 = .ok (.aload_n 0, 1) by decide +kernel) rfl ?_
    refine Ev_iload_n hq_192 (show decode prog_7_method_66_code 15 = .ok (.iload_n 2, 1) by decide +kernel) rfl ?_
    obtain ⟨r7, I5, h6, k⟩ := k
    refine Ev_virt (as := [.int x2]) hq_192 (show decode prog_7_method_66_code 16 = .ok (.invokevirtual 176, 3) by decide +kernel) rfl hq_148 rfl (z_le rfl) ⟨(SGn hS (by decide)), (SGk hS rfl), by decide⟩ h6 ?_
    refine Ev_if_eq (tgt := 26) hq_192 (show decode prog_7_method_66_code 19 = .ok (.ifCond .eq 7, 3) by decide +kernel) (by decide) (fun c8 => ?_) (fun c8 => ?_)
    · have k := k.1 c8
      refine Ev_bipush (v := (-5)) hq_192 (show decode prog_7_method_66_code 26 = .ok (.bipush (-5), 2) by decide +kernel) (by decide) ?_
      exact Ev_iret hq_192 (show decode prog_7_method_66_code 28 = .ok (.ireturn, 1) by decide +kernel) rfl k
    · have k := k.2 c8
      refine Ev_iconst (v := 0) hq_192 (show decode prog_7_method_66_code 22 = .ok (.iconst 0, 1) by decide +kernel) (by decide) ?_
      refine Ev_goto (tgt := 28) hq_192 (show decode prog_7_method_66_code 23 = .ok (.goto 5, 3) by decide +kernel) (by decide) ?_
      exact Ev_iret hq_192 (show decode prog_7_method_66_code 28 = .ok (.ireturn, 1) by decide +kernel) rfl k
  · have k := k.2 c4
    refine Ev_iload_n hq_192 (show decode prog_7_method_66_code 10 = .ok (.iload_n 3, 1) by decide +kernel) rfl ?_
    refine Ev_goto (tgt := 28) hq_192 (show decode prog_7_method_66_code 11 = .ok (.goto 17, 3) by decide +kernel) (by decide) ?_
    exact Ev_iret hq_192 (show decode prog_7_method_66_code 28 = .ok (.ireturn, 1) by decide +kernel) rfl k
set_option maxRecDepth 20000 in
theorem wp_Z_sheetWrong {X : Nat × (Nat → Int32)} {d : Nat} {G : zG} {I : zI} {res : Option Value × zG × zI} (x1 : Int32) (hS : SG G) 
    (k : ∃ (r3 : Int32) (I1 : zI), Cv X d 131 [.int x1, .int 0, .int 3] G I (some (.int r3), G, I1) ∧ ((¬ r3 = 0 → z_inr x1 4 ∧ ((¬ (I1 65 x1.toNatClampNeg) = (-1) → z_inr x1 4 ∧ (((I1 66 x1.toNatClampNeg) ≤ 30 → res = (some (.int 0), G, I1)) ∧ (¬ (I1 66 x1.toNatClampNeg) ≤ 30 → res = (some (.int (-2)), G, I1)))) ∧ ((I1 65 x1.toNatClampNeg) = (-1) → res = (some (.int (-11)), G, I1)))) ∧ (r3 = 0 → res = (some (.int (-2)), G, I1)))) :
    Ev X (d + 1) 193 0 [.ref 57, .int x1] [] G I res := by
  refine Ev_iload_n hq_193 (show decode prog_7_method_65_code 0 = .ok (.iload_n 1, 1) by decide +kernel) rfl ?_
  refine Ev_iconst (v := 0) hq_193 (show decode prog_7_method_65_code 1 = .ok (.iconst 0, 1) by decide +kernel) (by decide) ?_
  refine Ev_iconst (v := 3) hq_193 (show decode prog_7_method_65_code 2 = .ok (.iconst 3, 1) by decide +kernel) (by decide) ?_
  obtain ⟨r3, I1, h2, k⟩ := k
  refine Ev_stat (as := [.int x1, .int 0, .int 3]) hq_193 (show decode prog_7_method_65_code 3 = .ok (.invokestatic 90, 3) by decide +kernel) rfl (Or.inl rfl) hq_131 rfl (z_le rfl) h2 ?_
  refine Ev_if_ne (tgt := 12) hq_193 (show decode prog_7_method_65_code 6 = .ok (.ifCond .ne 6, 3) by decide +kernel) (by decide) (fun c4 => ?_) (fun c4 => ?_)
  · have k := k.1 c4
    refine Ev_aload_n hq_193 (show decode prog_7_method_65_code 12 = .ok (.aload_n 0, 1) by decide +kernel) rfl ?_
    refine Ev_getR hq_193 (show decode prog_7_method_65_code 13 = .ok (.getfield 31, 3) by decide +kernel) rfl (SGn hS (by decide)) (SGk hS rfl) (by decide) rfl (SGr hS rfl) ?_
    refine Ev_iload_n hq_193 (show decode prog_7_method_65_code 16 = .ok (.iload_n 1, 1) by decide +kernel) rfl ?_
    obtain ⟨h5, k⟩ := k
    refine Ev_iald hq_193 (show decode prog_7_method_65_code 17 = .ok (.iaload, 1) by decide +kernel) (SGn hS (by decide)) (SGk hS rfl) (SGi hS rfl h5) ?_
    refine Ev_iconst (v := (-1)) hq_193 (show decode prog_7_method_65_code 18 = .ok (.iconst (-1), 1) by decide +kernel) (by decide) ?_
    refine Ev_icmp_ne (tgt := 25) hq_193 (show decode prog_7_method_65_code 19 = .ok (.if_icmp .ne 6, 3) by decide +kernel) (by decide) (fun c6 => ?_) (fun c6 => ?_)
    · have k := k.1 c6
      refine Ev_aload_n hq_193 (show decode prog_7_method_65_code 25 = .ok (.aload_n 0, 1) by decide +kernel) rfl ?_
      refine Ev_getR hq_193 (show decode prog_7_method_65_code 26 = .ok (.getfield 34, 3) by decide +kernel) rfl (SGn hS (by decide)) (SGk hS rfl) (by decide) rfl (SGr hS rfl) ?_
      refine Ev_iload_n hq_193 (show decode prog_7_method_65_code 29 = .ok (.iload_n 1, 1) by decide +kernel) rfl ?_
      obtain ⟨h7, k⟩ := k
      refine Ev_iald hq_193 (show decode prog_7_method_65_code 30 = .ok (.iaload, 1) by decide +kernel) (SGn hS (by decide)) (SGk hS rfl) (SGi hS rfl h7) ?_
      refine Ev_bipush (v := 30) hq_193 (show decode prog_7_method_65_code 31 = .ok (.bipush 30, 2) by decide +kernel) (by decide) ?_
      refine Ev_icmp_le (tgt := 41) hq_193 (show decode prog_7_method_65_code 33 = .ok (.if_icmp .le 8, 3) by decide +kernel) (by decide) (fun c8 => ?_) (fun c8 => ?_)
      · have k := k.1 c8
        refine Ev_iconst (v := 0) hq_193 (show decode prog_7_method_65_code 41 = .ok (.iconst 0, 1) by decide +kernel) (by decide) ?_
        exact Ev_iret hq_193 (show decode prog_7_method_65_code 42 = .ok (.ireturn, 1) by decide +kernel) rfl k
      · have k := k.2 c8
        refine Ev_bipush (v := (-2)) hq_193 (show decode prog_7_method_65_code 36 = .ok (.bipush (-2), 2) by decide +kernel) (by decide) ?_
        refine Ev_goto (tgt := 42) hq_193 (show decode prog_7_method_65_code 38 = .ok (.goto 4, 3) by decide +kernel) (by decide) ?_
        exact Ev_iret hq_193 (show decode prog_7_method_65_code 42 = .ok (.ireturn, 1) by decide +kernel) rfl k
    · have k := k.2 (Classical.not_not.mp c6)
      refine Ev_bipush (v := (-11)) hq_193 (show decode prog_7_method_65_code 22 = .ok (.bipush (-11), 2) by decide +kernel) (by decide) ?_
      exact Ev_iret hq_193 (show decode prog_7_method_65_code 24 = .ok (.ireturn, 1) by decide +kernel) rfl k
  · have k := k.2 (Classical.not_not.mp c4)
    refine Ev_bipush (v := (-2)) hq_193 (show decode prog_7_method_65_code 9 = .ok (.bipush (-2), 2) by decide +kernel) (by decide) ?_
    exact Ev_iret hq_193 (show decode prog_7_method_65_code 11 = .ok (.ireturn, 1) by decide +kernel) rfl k
set_option maxRecDepth 20000 in
theorem wp_Z_unlike {X : Nat × (Nat → Int32)} {d : Nat} {G : zG} {I : zI} {res : Option Value × zG × zI} (x1 : Int32) (x2 : Int32) (hS : SG G) 
    (k : ∃ (I1 : zI), Cv X d 159 [.ref 57, .int 30] G I (none, G, I1) ∧ (Ev X (d + 1) 194 8 [.ref 57, .int x1, .int x2, .int 0] [] G I1 res)) :
    Ev X (d + 1) 194 0 [.ref 57, .int x1, .int x2, zU] [] G I res := by
  refine Ev_aload_n hq_194 (show decode prog_7_method_67_code 0 = .ok (.aload_n 0, 1) by decide +kernel) rfl ?_
  refine Ev_bipush (v := 30) hq_194 (show decode prog_7_method_67_code 1 = .ok (.bipush 30, 2) by decide +kernel) (by decide) ?_
  obtain ⟨I1, h2, k⟩ := k
  refine Ev_virt (as := [.int 30]) hq_194 (show decode prog_7_method_67_code 3 = .ok (.invokevirtual 205, 3) by decide +kernel) rfl hq_159 rfl (z_le rfl) ⟨(SGn hS (by decide)), (SGk hS rfl), by decide⟩ h2 ?_
  refine Ev_iconst (v := 0) hq_194 (show decode prog_7_method_67_code 6 = .ok (.iconst 0, 1) by decide +kernel) (by decide) ?_
  refine Ev_istore_n (lo2 := [.ref 57, .int x1, .int x2, .int 0]) hq_194 (show decode prog_7_method_67_code 7 = .ok (.istore_n 3, 1) by decide +kernel) (z_le rfl) rfl ?_
  exact k
set_option maxRecDepth 20000 in
theorem wp_Z_unlike_8 {X : Nat × (Nat → Int32)} {d : Nat} {G : zG} {I : zI} {res : Option Value × zG × zI} (x1 : Int32) (x2 : Int32) (x3 : Int32) (hS : SG G) 
    (k : z_inr x1 4 ∧ (((I 66 x1.toNatClampNeg) ≤ x3 → res = (some (.int (-1)), G, I)) ∧ (¬ (I 66 x1.toNatClampNeg) ≤ x3 → z_inr ((40 * x1) + x3) 160 ∧ (z_inr ((4 * x3) + x2) 120 ∧ (((I 67 ((40 * x1) + x3).toNatClampNeg) = (I 74 ((4 * x3) + x2).toNatClampNeg) → ∀ y6 : Int32, y6 = x3 + 1 → Ev X d 194 8 [.ref 57, .int x1, .int x2, .int y6] [] G I res) ∧ (¬ (I 67 ((40 * x1) + x3).toNatClampNeg) = (I 74 ((4 * x3) + x2).toNatClampNeg) → res = (some (.int x3), G, I))))))) :
    Ev X d 194 8 [.ref 57, .int x1, .int x2, .int x3] [] G I res := by
  refine Ev_iload_n hq_194 (show decode prog_7_method_67_code 8 = .ok (.iload_n 3, 1) by decide +kernel) rfl ?_
  refine Ev_aload_n hq_194 (show decode prog_7_method_67_code 9 = .ok (.aload_n 0, 1) by decide +kernel) rfl ?_
  refine Ev_getR hq_194 (show decode prog_7_method_67_code 10 = .ok (.getfield 34, 3) by decide +kernel) rfl (SGn hS (by decide)) (SGk hS rfl) (by decide) rfl (SGr hS rfl) ?_
  refine Ev_iload_n hq_194 (show decode prog_7_method_67_code 13 = .ok (.iload_n 1, 1) by decide +kernel) rfl ?_
  obtain ⟨h1, k⟩ := k
  refine Ev_iald hq_194 (show decode prog_7_method_67_code 14 = .ok (.iaload, 1) by decide +kernel) (SGn hS (by decide)) (SGk hS rfl) (SGi hS rfl h1) ?_
  refine Ev_icmp_ge (tgt := 50) hq_194 (show decode prog_7_method_67_code 15 = .ok (.if_icmp .ge 35, 3) by decide +kernel) (by decide) (fun c2 => ?_) (fun c2 => ?_)
  · have k := k.1 c2
    refine Ev_iconst (v := (-1)) hq_194 (show decode prog_7_method_67_code 50 = .ok (.iconst (-1), 1) by decide +kernel) (by decide) ?_
    exact Ev_iret hq_194 (show decode prog_7_method_67_code 51 = .ok (.ireturn, 1) by decide +kernel) rfl k
  · have k := k.2 c2
    refine Ev_aload_n hq_194 (show decode prog_7_method_67_code 18 = .ok (.aload_n 0, 1) by decide +kernel) rfl ?_
    refine Ev_getR hq_194 (show decode prog_7_method_67_code 19 = .ok (.getfield 37, 3) by decide +kernel) rfl (SGn hS (by decide)) (SGk hS rfl) (by decide) rfl (SGr hS rfl) ?_
    refine Ev_bipush (v := 40) hq_194 (show decode prog_7_method_67_code 22 = .ok (.bipush 40, 2) by decide +kernel) (by decide) ?_
    refine Ev_iload_n hq_194 (show decode prog_7_method_67_code 24 = .ok (.iload_n 1, 1) by decide +kernel) rfl ?_
    refine Ev_imul hq_194 (show decode prog_7_method_67_code 25 = .ok (.imul, 1) by decide +kernel) ?_
    refine Ev_iload_n hq_194 (show decode prog_7_method_67_code 26 = .ok (.iload_n 3, 1) by decide +kernel) rfl ?_
    refine Ev_iadd hq_194 (show decode prog_7_method_67_code 27 = .ok (.iadd, 1) by decide +kernel) ?_
    obtain ⟨h3, k⟩ := k
    refine Ev_iald hq_194 (show decode prog_7_method_67_code 28 = .ok (.iaload, 1) by decide +kernel) (SGn hS (by decide)) (SGk hS rfl) (SGi hS rfl h3) ?_
    refine Ev_aload_n hq_194 (show decode prog_7_method_67_code 29 = .ok (.aload_n 0, 1) by decide +kernel) rfl ?_
    refine Ev_getR hq_194 (show decode prog_7_method_67_code 30 = .ok (.getfield 58, 3) by decide +kernel) rfl (SGn hS (by decide)) (SGk hS rfl) (by decide) rfl (SGr hS rfl) ?_
    refine Ev_iconst (v := 4) hq_194 (show decode prog_7_method_67_code 33 = .ok (.iconst 4, 1) by decide +kernel) (by decide) ?_
    refine Ev_iload_n hq_194 (show decode prog_7_method_67_code 34 = .ok (.iload_n 3, 1) by decide +kernel) rfl ?_
    refine Ev_imul hq_194 (show decode prog_7_method_67_code 35 = .ok (.imul, 1) by decide +kernel) ?_
    refine Ev_iload_n hq_194 (show decode prog_7_method_67_code 36 = .ok (.iload_n 2, 1) by decide +kernel) rfl ?_
    refine Ev_iadd hq_194 (show decode prog_7_method_67_code 37 = .ok (.iadd, 1) by decide +kernel) ?_
    obtain ⟨h4, k⟩ := k
    refine Ev_iald hq_194 (show decode prog_7_method_67_code 38 = .ok (.iaload, 1) by decide +kernel) (SGn hS (by decide)) (SGk hS rfl) (SGi hS rfl h4) ?_
    refine Ev_icmp_eq (tgt := 44) hq_194 (show decode prog_7_method_67_code 39 = .ok (.if_icmp .eq 5, 3) by decide +kernel) (by decide) (fun c5 => ?_) (fun c5 => ?_)
    · have k := k.1 c5
      obtain ⟨y6, ey6⟩ : ∃ y6 : Int32, y6 = x3 + 1 := ⟨_, rfl⟩
      have k := k y6 ey6
      refine Ev_iinc (v := y6) (lo2 := [.ref 57, .int x1, .int x2, .int y6]) hq_194 (show decode prog_7_method_67_code 44 = .ok (.iinc 3 1, 3) by decide +kernel) rfl (by rw [ey6]; rfl) rfl ?_
      refine Ev_goto (tgt := 8) hq_194 (show decode prog_7_method_67_code 47 = .ok (.goto (-39), 3) by decide +kernel) (by decide) ?_
      exact k
    · have k := k.2 c5
      refine Ev_iload_n hq_194 (show decode prog_7_method_67_code 42 = .ok (.iload_n 3, 1) by decide +kernel) rfl ?_
      exact Ev_iret hq_194 (show decode prog_7_method_67_code 43 = .ok (.ireturn, 1) by decide +kernel) rfl k
set_option maxRecDepth 20000 in
theorem wp_Z_whose {X : Nat × (Nat → Int32)} {d : Nat} {G : zG} {I : zI} {res : Option Value × zG × zI} (x1 : Int32) (hS : SG G) 
    (k : ∃ (r3 : Int32) (I1 : zI), Cv X d 193 [.ref 57, .int x1] G I (some (.int r3), G, I1) ∧ ((r3 = 0 → Ev X (d + 1) 195 17 [.ref 57, .int x1, .int r3, .int 0, .int 0] [] G I1 res) ∧ (¬ r3 = 0 → res = (some (.int r3), G, I1)))) :
    Ev X (d + 1) 195 0 [.ref 57, .int x1, zU, zU, zU] [] G I res := by
  refine Ev_aload_n hq_195 (show decode prog_7_method_69_code 0 = .ok (.aload_n 0, 1) by decide +kernel) rfl ?_
  refine Ev_iload_n hq_195 (show decode prog_7_method_69_code 1 = .ok (.iload_n 1, 1) by decide +kernel) rfl ?_
  obtain ⟨r3, I1, h2, k⟩ := k
  refine Ev_virt (as := [.int x1]) hq_195 (show decode prog_7_method_69_code 2 = .ok (.invokevirtual 254, 3) by decide +kernel) rfl hq_193 rfl (z_le rfl) ⟨(SGn hS (by decide)), (SGk hS rfl), by decide⟩ h2 ?_
  refine Ev_istore_n (lo2 := [.ref 57, .int x1, .int r3, zU, zU]) hq_195 (show decode prog_7_method_69_code 5 = .ok (.istore_n 2, 1) by decide +kernel) (z_le rfl) rfl ?_
  refine Ev_iload_n hq_195 (show decode prog_7_method_69_code 6 = .ok (.iload_n 2, 1) by decide +kernel) rfl ?_
  refine Ev_if_eq (tgt := 12) hq_195 (show decode prog_7_method_69_code 7 = .ok (.ifCond .eq 5, 3) by decide +kernel) (by decide) (fun c4 => ?_) (fun c4 => ?_)
  · have k := k.1 c4
    refine Ev_iconst (v := 0) hq_195 (show decode prog_7_method_69_code 12 = .ok (.iconst 0, 1) by decide +kernel) (by decide) ?_
    refine Ev_istore_n (lo2 := [.ref 57, .int x1, .int r3, .int 0, zU]) hq_195 (show decode prog_7_method_69_code 13 = .ok (.istore_n 3, 1) by decide +kernel) (z_le rfl) rfl ?_
    refine Ev_iconst (v := 0) hq_195 (show decode prog_7_method_69_code 14 = .ok (.iconst 0, 1) by decide +kernel) (by decide) ?_
    refine Ev_istore (lo2 := [.ref 57, .int x1, .int r3, .int 0, .int 0]) hq_195 (show decode prog_7_method_69_code 15 = .ok (.istore 4, 2) by decide +kernel) (z_le rfl) rfl ?_
    exact k
  · have k := k.2 c4
    refine Ev_iload_n hq_195 (show decode prog_7_method_69_code 10 = .ok (.iload_n 2, 1) by decide +kernel) rfl ?_
    exact Ev_iret hq_195 (show decode prog_7_method_69_code 11 = .ok (.ireturn, 1) by decide +kernel) rfl k
set_option maxRecDepth 20000 in
theorem wp_Z_whose_17 {X : Nat × (Nat → Int32)} {d : Nat} {G : zG} {I : zI} {res : Option Value × zG × zI} (x1 : Int32) (x2 : Int32) (x3 : Int32) (x4 : Int32) (hS : SG G) 
    (k : ((I 57 0) ≤ x4 → res = (some (.int x3), G, I)) ∧ (¬ (I 57 0) ≤ x4 → ∃ (r4 : Int32) (I2 : zI), Cv X d 194 [.ref 57, .int x1, .int x4] G I (some (.int r4), G, I2) ∧ ((¬ r4 = (-1) → ∀ y6 : Int32, y6 = (x3 ||| 0) → ∀ y7 : Int32, y7 = x4 + 1 → Ev X (d + 1) 195 17 [.ref 57, .int x1, .int x2, .int y6, .int y7] [] G I2 res) ∧ (r4 = (-1) → ∀ y8 : Int32, y8 = (x3 ||| (1 <<< (x4 &&& 31))) → ∀ y9 : Int32, y9 = x4 + 1 → Ev X (d + 1) 195 17 [.ref 57, .int x1, .int x2, .int y8, .int y9] [] G I2 res)))) :
    Ev X (d + 1) 195 17 [.ref 57, .int x1, .int x2, .int x3, .int x4] [] G I res := by
  refine Ev_iload hq_195 (show decode prog_7_method_69_code 17 = .ok (.iload 4, 2) by decide +kernel) rfl ?_
  refine Ev_aload_n hq_195 (show decode prog_7_method_69_code 19 = .ok (.aload_n 0, 1) by decide +kernel) rfl ?_
  refine Ev_getI hq_195 (show decode prog_7_method_69_code 20 = .ok (.getfield 87, 3) by decide +kernel) rfl (SGn hS (by decide)) (SGk hS rfl) (by decide) rfl ?_
  refine Ev_icmp_ge (tgt := 54) hq_195 (show decode prog_7_method_69_code 23 = .ok (.if_icmp .ge 31, 3) by decide +kernel) (by decide) (fun c1 => ?_) (fun c1 => ?_)
  · have k := k.1 c1
    refine Ev_iload_n hq_195 (show decode prog_7_method_69_code 54 = .ok (.iload_n 3, 1) by decide +kernel) rfl ?_
    exact Ev_iret hq_195 (show decode prog_7_method_69_code 55 = .ok (.ireturn, 1) by decide +kernel) rfl k
  · have k := k.2 c1
    refine Ev_iload_n hq_195 (show decode prog_7_method_69_code 26 = .ok (.iload_n 3, 1) by decide +kernel) rfl ?_
    refine Ev_aload_n hq_195 (show decode prog_7_method_69_code 27 = .ok (.aload_n 0, 1) by decide +kernel) rfl ?_
    refine Ev_iload_n hq_195 (show decode prog_7_method_69_code 28 = .ok (.iload_n 1, 1) by decide +kernel) rfl ?_
    refine Ev_iload hq_195 (show decode prog_7_method_69_code 29 = .ok (.iload 4, 2) by decide +kernel) rfl ?_
    obtain ⟨r4, I2, h3, k⟩ := k
    refine Ev_virt (as := [.int x1, .int x4]) hq_195 (show decode prog_7_method_69_code 31 = .ok (.invokevirtual 260, 3) by decide +kernel) rfl hq_194 rfl (z_le rfl) ⟨(SGn hS (by decide)), (SGk hS rfl), by decide⟩ h3 ?_
    refine Ev_iconst (v := (-1)) hq_195 (show decode prog_7_method_69_code 34 = .ok (.iconst (-1), 1) by decide +kernel) (by decide) ?_
    refine Ev_icmp_ne (tgt := 45) hq_195 (show decode prog_7_method_69_code 35 = .ok (.if_icmp .ne 10, 3) by decide +kernel) (by decide) (fun c5 => ?_) (fun c5 => ?_)
    · have k := k.1 c5
      refine Ev_iconst (v := 0) hq_195 (show decode prog_7_method_69_code 45 = .ok (.iconst 0, 1) by decide +kernel) (by decide) ?_
      refine Ev_ior hq_195 (show decode prog_7_method_69_code 46 = .ok (.ior, 1) by decide +kernel) ?_
      obtain ⟨y6, ey6⟩ : ∃ y6 : Int32, y6 = (x3 ||| 0) := ⟨_, rfl⟩
      have k := k y6 ey6
      rw [← ey6]
      refine Ev_istore_n (lo2 := [.ref 57, .int x1, .int x2, .int y6, .int x4]) hq_195 (show decode prog_7_method_69_code 47 = .ok (.istore_n 3, 1) by decide +kernel) (z_le rfl) rfl ?_
      obtain ⟨y7, ey7⟩ : ∃ y7 : Int32, y7 = x4 + 1 := ⟨_, rfl⟩
      have k := k y7 ey7
      refine Ev_iinc (v := y7) (lo2 := [.ref 57, .int x1, .int x2, .int y6, .int y7]) hq_195 (show decode prog_7_method_69_code 48 = .ok (.iinc 4 1, 3) by decide +kernel) rfl (by rw [ey7]; rfl) rfl ?_
      refine Ev_goto (tgt := 17) hq_195 (show decode prog_7_method_69_code 51 = .ok (.goto (-34), 3) by decide +kernel) (by decide) ?_
      exact k
    · have k := k.2 (Classical.not_not.mp c5)
      refine Ev_iconst (v := 1) hq_195 (show decode prog_7_method_69_code 38 = .ok (.iconst 1, 1) by decide +kernel) (by decide) ?_
      refine Ev_iload hq_195 (show decode prog_7_method_69_code 39 = .ok (.iload 4, 2) by decide +kernel) rfl ?_
      refine Ev_ishl hq_195 (show decode prog_7_method_69_code 41 = .ok (.ishl, 1) by decide +kernel) ?_
      refine Ev_goto (tgt := 46) hq_195 (show decode prog_7_method_69_code 42 = .ok (.goto 4, 3) by decide +kernel) (by decide) ?_
      refine Ev_ior hq_195 (show decode prog_7_method_69_code 46 = .ok (.ior, 1) by decide +kernel) ?_
      obtain ⟨y8, ey8⟩ : ∃ y8 : Int32, y8 = (x3 ||| (1 <<< (x4 &&& 31))) := ⟨_, rfl⟩
      have k := k y8 ey8
      rw [← ey8]
      refine Ev_istore_n (lo2 := [.ref 57, .int x1, .int x2, .int y8, .int x4]) hq_195 (show decode prog_7_method_69_code 47 = .ok (.istore_n 3, 1) by decide +kernel) (z_le rfl) rfl ?_
      obtain ⟨y9, ey9⟩ : ∃ y9 : Int32, y9 = x4 + 1 := ⟨_, rfl⟩
      have k := k y9 ey9
      refine Ev_iinc (v := y9) (lo2 := [.ref 57, .int x1, .int x2, .int y8, .int y9]) hq_195 (show decode prog_7_method_69_code 48 = .ok (.iinc 4 1, 3) by decide +kernel) rfl (by rw [ey9]; rfl) rfl ?_
      refine Ev_goto (tgt := 17) hq_195 (show decode prog_7_method_69_code 51 = .ok (.goto (-34), 3) by decide +kernel) (by decide) ?_
      exact k
set_option maxRecDepth 20000 in
theorem wp_Z_fits {X : Nat × (Nat → Int32)} {d : Nat} {G : zG} {I : zI} {res : Option Value × zG × zI} (x1 : Int32) (x2 : Int32) (x3 : Int32) (hS : SG G) 
    (k : ∃ (r3 : Int32) (I1 : zI), Cv X d 192 [.ref 57, .int x1, .int x2] G I (some (.int r3), G, I1) ∧ ((r3 = 0 → ∃ (r7 : Int32) (I5 : zI), Cv X d 131 [.int x3, .int 0, .int 1] G I1 (some (.int r7), G, I5) ∧ ((¬ r7 = 0 → ∀ y9 : Int32, y9 = ((5 * x2) + (3 * x3)) → z_inr y9 20 ∧ (∀ y11 : Int32, y11 = (I5 60 y9.toNatClampNeg) → Ev X (d + 1) 196 52 [.ref 57, .int x1, .int x2, .int x3, .int r3, .int y9, .int y11, .int 0, .int 0] [] G I5 res)) ∧ (r7 = 0 → res = (some (.int (-7)), G, I5)))) ∧ (¬ r3 = 0 → res = (some (.int r3), G, I1)))) :
    Ev X (d + 1) 196 0 [.ref 57, .int x1, .int x2, .int x3, zU, zU, zU, zU, zU] [] G I res := by
  refine Ev_aload_n hq_196 (show decode prog_7_method_70_code 0 = .ok (.aload_n 0, 1) by decide +kernel) rfl ?_
  refine Ev_iload_n hq_196 (show decode prog_7_method_70_code 1 = .ok (.iload_n 1, 1) by decide +kernel) rfl ?_
  refine Ev_iload_n hq_196 (show decode prog_7_method_70_code 2 = .ok (.iload_n 2, 1) by decide +kernel) rfl ?_
  obtain ⟨r3, I1, h2, k⟩ := k
  refine Ev_virt (as := [.int x1, .int x2]) hq_196 (show decode prog_7_method_70_code 3 = .ok (.invokevirtual 257, 3) by decide +kernel) rfl hq_192 rfl (z_le rfl) ⟨(SGn hS (by decide)), (SGk hS rfl), by decide⟩ h2 ?_
  refine Ev_istore (lo2 := [.ref 57, .int x1, .int x2, .int x3, .int r3, zU, zU, zU, zU]) hq_196 (show decode prog_7_method_70_code 6 = .ok (.istore 4, 2) by decide +kernel) (z_le rfl) rfl ?_
  refine Ev_iload hq_196 (show decode prog_7_method_70_code 8 = .ok (.iload 4, 2) by decide +kernel) rfl ?_
  refine Ev_if_eq (tgt := 16) hq_196 (show decode prog_7_method_70_code 10 = .ok (.ifCond .eq 6, 3) by decide +kernel) (by decide) (fun c4 => ?_) (fun c4 => ?_)
  · have k := k.1 c4
    refine Ev_iload_n hq_196 (show decode prog_7_method_70_code 16 = .ok (.iload_n 3, 1) by decide +kernel) rfl ?_
    refine Ev_iconst (v := 0) hq_196 (show decode prog_7_method_70_code 17 = .ok (.iconst 0, 1) by decide +kernel) (by decide) ?_
    refine Ev_iconst (v := 1) hq_196 (show decode prog_7_method_70_code 18 = .ok (.iconst 1, 1) by decide +kernel) (by decide) ?_
    obtain ⟨r7, I5, h6, k⟩ := k
    refine Ev_stat (as := [.int x3, .int 0, .int 1]) hq_196 (show decode prog_7_method_70_code 19 = .ok (.invokestatic 90, 3) by decide +kernel) rfl (Or.inl rfl) hq_131 rfl (z_le rfl) h6 ?_
    refine Ev_if_ne (tgt := 28) hq_196 (show decode prog_7_method_70_code 22 = .ok (.ifCond .ne 6, 3) by decide +kernel) (by decide) (fun c8 => ?_) (fun c8 => ?_)
    · have k := k.1 c8
      refine Ev_iconst (v := 5) hq_196 (show decode prog_7_method_70_code 28 = .ok (.iconst 5, 1) by decide +kernel) (by decide) ?_
      refine Ev_iload_n hq_196 (show decode prog_7_method_70_code 29 = .ok (.iload_n 2, 1) by decide +kernel) rfl ?_
      refine Ev_imul hq_196 (show decode prog_7_method_70_code 30 = .ok (.imul, 1) by decide +kernel) ?_
      refine Ev_iconst (v := 3) hq_196 (show decode prog_7_method_70_code 31 = .ok (.iconst 3, 1) by decide +kernel) (by decide) ?_
      refine Ev_iload_n hq_196 (show decode prog_7_method_70_code 32 = .ok (.iload_n 3, 1) by decide +kernel) rfl ?_
      refine Ev_imul hq_196 (show decode prog_7_method_70_code 33 = .ok (.imul, 1) by decide +kernel) ?_
      refine Ev_iadd hq_196 (show decode prog_7_method_70_code 34 = .ok (.iadd, 1) by decide +kernel) ?_
      obtain ⟨y9, ey9⟩ : ∃ y9 : Int32, y9 = ((5 * x2) + (3 * x3)) := ⟨_, rfl⟩
      have k := k y9 ey9
      rw [← ey9]
      refine Ev_istore (lo2 := [.ref 57, .int x1, .int x2, .int x3, .int r3, .int y9, zU, zU, zU]) hq_196 (show decode prog_7_method_70_code 35 = .ok (.istore 5, 2) by decide +kernel) (z_le rfl) rfl ?_
      refine Ev_aload_n hq_196 (show decode prog_7_method_70_code 37 = .ok (.aload_n 0, 1) by decide +kernel) rfl ?_
      refine Ev_getR hq_196 (show decode prog_7_method_70_code 38 = .ok (.getfield 16, 3) by decide +kernel) rfl (SGn hS (by decide)) (SGk hS rfl) (by decide) rfl (SGr hS rfl) ?_
      refine Ev_iload hq_196 (show decode prog_7_method_70_code 41 = .ok (.iload 5, 2) by decide +kernel) rfl ?_
      obtain ⟨h10, k⟩ := k
      refine Ev_iald hq_196 (show decode prog_7_method_70_code 43 = .ok (.iaload, 1) by decide +kernel) (SGn hS (by decide)) (SGk hS rfl) (SGi hS rfl h10) ?_
      obtain ⟨y11, ey11⟩ : ∃ y11 : Int32, y11 = (I5 60 y9.toNatClampNeg) := ⟨_, rfl⟩
      have k := k y11 ey11
      rw [← ey11]
      refine Ev_istore (lo2 := [.ref 57, .int x1, .int x2, .int x3, .int r3, .int y9, .int y11, zU, zU]) hq_196 (show decode prog_7_method_70_code 44 = .ok (.istore 6, 2) by decide +kernel) (z_le rfl) rfl ?_
      refine Ev_iconst (v := 0) hq_196 (show decode prog_7_method_70_code 46 = .ok (.iconst 0, 1) by decide +kernel) (by decide) ?_
      refine Ev_istore (lo2 := [.ref 57, .int x1, .int x2, .int x3, .int r3, .int y9, .int y11, .int 0, zU]) hq_196 (show decode prog_7_method_70_code 47 = .ok (.istore 7, 2) by decide +kernel) (z_le rfl) rfl ?_
      refine Ev_iconst (v := 0) hq_196 (show decode prog_7_method_70_code 49 = .ok (.iconst 0, 1) by decide +kernel) (by decide) ?_
      refine Ev_istore (lo2 := [.ref 57, .int x1, .int x2, .int x3, .int r3, .int y9, .int y11, .int 0, .int 0]) hq_196 (show decode prog_7_method_70_code 50 = .ok (.istore 8, 2) by decide +kernel) (z_le rfl) rfl ?_
      exact k
    · have k := k.2 (Classical.not_not.mp c8)
      refine Ev_bipush (v := (-7)) hq_196 (show decode prog_7_method_70_code 25 = .ok (.bipush (-7), 2) by decide +kernel) (by decide) ?_
      exact Ev_iret hq_196 (show decode prog_7_method_70_code 27 = .ok (.ireturn, 1) by decide +kernel) rfl k
  · have k := k.2 c4
    refine Ev_iload hq_196 (show decode prog_7_method_70_code 13 = .ok (.iload 4, 2) by decide +kernel) rfl ?_
    exact Ev_iret hq_196 (show decode prog_7_method_70_code 15 = .ok (.ireturn, 1) by decide +kernel) rfl k
set_option maxRecDepth 20000 in
theorem wp_Z_fits_52 {X : Nat × (Nat → Int32)} {d : Nat} {G : zG} {I : zI} {res : Option Value × zG × zI} (x1 : Int32) (x2 : Int32) (x3 : Int32) (x4 : Int32) (x5 : Int32) (x6 : Int32) (x7 : Int32) (x8 : Int32) (hS : SG G) 
    (k : (¬ x3 = 0 → (16 < x8 → z_inr x5 20 ∧ (∀ I4 : zI, I4 = z_up I 60 x5.toNatClampNeg x6 → res = (some (.int x7), G, I4))) ∧ (¬ 16 < x8 → z_inr x5 20 ∧ (∀ I6 : zI, I6 = z_up I 60 x5.toNatClampNeg x8 → ∃ (r9 : Int32) (I7 : zI), Cv X d 194 [.ref 57, .int x1, .int x2] G I6 (some (.int r9), G, I7) ∧ ((¬ r9 = (-1) → ∀ y11 : Int32, y11 = (x7 ||| 0) → ∀ y12 : Int32, y12 = x8 + 1 → Ev X (d + 1) 196 52 [.ref 57, .int x1, .int x2, .int x3, .int x4, .int x5, .int x6, .int y11, .int y12] [] G I7 res) ∧ (r9 = (-1) → ∀ y13 : Int32, y13 = (x7 ||| (1 <<< (x8 &&& 31))) → ∀ y14 : Int32, y14 = x8 + 1 → Ev X (d + 1) 196 52 [.ref 57, .int x1, .int x2, .int x3, .int x4, .int x5, .int x6, .int y13, .int y14] [] G I7 res))))) ∧ (x3 = 0 → (4 < x8 → z_inr x5 20 ∧ (∀ I17 : zI, I17 = z_up I 60 x5.toNatClampNeg x6 → res = (some (.int x7), G, I17))) ∧ (¬ 4 < x8 → z_inr x5 20 ∧ (∀ I19 : zI, I19 = z_up I 60 x5.toNatClampNeg x8 → ∃ (r22 : Int32) (I20 : zI), Cv X d 194 [.ref 57, .int x1, .int x2] G I19 (some (.int r22), G, I20) ∧ ((¬ r22 = (-1) → ∀ y24 : Int32, y24 = (x7 ||| 0) → ∀ y25 : Int32, y25 = x8 + 1 → Ev X (d + 1) 196 52 [.ref 57, .int x1, .int x2, .int x3, .int x4, .int x5, .int x6, .int y24, .int y25] [] G I20 res) ∧ (r22 = (-1) → ∀ y26 : Int32, y26 = (x7 ||| (1 <<< (x8 &&& 31))) → ∀ y27 : Int32, y27 = x8 + 1 → Ev X (d + 1) 196 52 [.ref 57, .int x1, .int x2, .int x3, .int x4, .int x5, .int x6, .int y26, .int y27] [] G I20 res)))))) :
    Ev X (d + 1) 196 52 [.ref 57, .int x1, .int x2, .int x3, .int x4, .int x5, .int x6, .int x7, .int x8] [] G I res := by
  refine Ev_iload hq_196 (show decode prog_7_method_70_code 52 = .ok (.iload 8, 2) by decide +kernel) rfl ?_
  refine Ev_iload_n hq_196 (show decode prog_7_method_70_code 54 = .ok (.iload_n 3, 1) by decide +kernel) rfl ?_
  refine Ev_if_ne (tgt := 62) hq_196 (show decode prog_7_method_70_code 55 = .ok (.ifCond .ne 7, 3) by decide +kernel) (by decide) (fun c1 => ?_) (fun c1 => ?_)
  · have k := k.1 c1
    refine Ev_bipush (v := 16) hq_196 (show decode prog_7_method_70_code 62 = .ok (.bipush 16, 2) by decide +kernel) (by decide) ?_
    refine Ev_icmp_gt (tgt := 105) hq_196 (show decode prog_7_method_70_code 64 = .ok (.if_icmp .gt 41, 3) by decide +kernel) (by decide) (fun c2 => ?_) (fun c2 => ?_)
    · have k := k.1 c2
      refine Ev_aload_n hq_196 (show decode prog_7_method_70_code 105 = .ok (.aload_n 0, 1) by decide +kernel) rfl ?_
      refine Ev_getR hq_196 (show decode prog_7_method_70_code 106 = .ok (.getfield 16, 3) by decide +kernel) rfl (SGn hS (by decide)) (SGk hS rfl) (by decide) rfl (SGr hS rfl) ?_
      refine Ev_iload hq_196 (show decode prog_7_method_70_code 109 = .ok (.iload 5, 2) by decide +kernel) rfl ?_
      refine Ev_iload hq_196 (show decode prog_7_method_70_code 111 = .ok (.iload 6, 2) by decide +kernel) rfl ?_
      obtain ⟨h3, k⟩ := k
      refine Ev_iast hq_196 (show decode prog_7_method_70_code 113 = .ok (.iastore, 1) by decide +kernel) (SGn hS (by decide)) (SGk hS rfl) (SGi hS rfl h3) ?_
      obtain ⟨I4, eI4⟩ : ∃ I4 : zI, I4 = z_up I 60 x5.toNatClampNeg x6 := ⟨_, rfl⟩
      have k := k I4 eI4
      rw [← eI4]
      refine Ev_iload hq_196 (show decode prog_7_method_70_code 114 = .ok (.iload 7, 2) by decide +kernel) rfl ?_
      exact Ev_iret hq_196 (show decode prog_7_method_70_code 116 = .ok (.ireturn, 1) by decide +kernel) rfl k
    · have k := k.2 c2
      refine Ev_aload_n hq_196 (show decode prog_7_method_70_code 67 = .ok (.aload_n 0, 1) by decide +kernel) rfl ?_
      refine Ev_getR hq_196 (show decode prog_7_method_70_code 68 = .ok (.getfield 16, 3) by decide +kernel) rfl (SGn hS (by decide)) (SGk hS rfl) (by decide) rfl (SGr hS rfl) ?_
      refine Ev_iload hq_196 (show decode prog_7_method_70_code 71 = .ok (.iload 5, 2) by decide +kernel) rfl ?_
      refine Ev_iload hq_196 (show decode prog_7_method_70_code 73 = .ok (.iload 8, 2) by decide +kernel) rfl ?_
      obtain ⟨h5, k⟩ := k
      refine Ev_iast hq_196 (show decode prog_7_method_70_code 75 = .ok (.iastore, 1) by decide +kernel) (SGn hS (by decide)) (SGk hS rfl) (SGi hS rfl h5) ?_
      obtain ⟨I6, eI6⟩ : ∃ I6 : zI, I6 = z_up I 60 x5.toNatClampNeg x8 := ⟨_, rfl⟩
      have k := k I6 eI6
      rw [← eI6]
      refine Ev_iload hq_196 (show decode prog_7_method_70_code 76 = .ok (.iload 7, 2) by decide +kernel) rfl ?_
      refine Ev_aload_n hq_196 (show decode prog_7_method_70_code 78 = .ok (.aload_n 0, 1) by decide +kernel) rfl ?_
      refine Ev_iload_n hq_196 (show decode prog_7_method_70_code 79 = .ok (.iload_n 1, 1) by decide +kernel) rfl ?_
      refine Ev_iload_n hq_196 (show decode prog_7_method_70_code 80 = .ok (.iload_n 2, 1) by decide +kernel) rfl ?_
      obtain ⟨r9, I7, h8, k⟩ := k
      refine Ev_virt (as := [.int x1, .int x2]) hq_196 (show decode prog_7_method_70_code 81 = .ok (.invokevirtual 260, 3) by decide +kernel) rfl hq_194 rfl (z_le rfl) ⟨(SGn hS (by decide)), (SGk hS rfl), by decide⟩ h8 ?_
      refine Ev_iconst (v := (-1)) hq_196 (show decode prog_7_method_70_code 84 = .ok (.iconst (-1), 1) by decide +kernel) (by decide) ?_
      refine Ev_icmp_ne (tgt := 95) hq_196 (show decode prog_7_method_70_code 85 = .ok (.if_icmp .ne 10, 3) by decide +kernel) (by decide) (fun c10 => ?_) (fun c10 => ?_)
      · have k := k.1 c10
        refine Ev_iconst (v := 0) hq_196 (show decode prog_7_method_70_code 95 = .ok (.iconst 0, 1) by decide +kernel) (by decide) ?_
        refine Ev_ior hq_196 (show decode prog_7_method_70_code 96 = .ok (.ior, 1) by decide +kernel) ?_
        obtain ⟨y11, ey11⟩ : ∃ y11 : Int32, y11 = (x7 ||| 0) := ⟨_, rfl⟩
        have k := k y11 ey11
        rw [← ey11]
        refine Ev_istore (lo2 := [.ref 57, .int x1, .int x2, .int x3, .int x4, .int x5, .int x6, .int y11, .int x8]) hq_196 (show decode prog_7_method_70_code 97 = .ok (.istore 7, 2) by decide +kernel) (z_le rfl) rfl ?_
        obtain ⟨y12, ey12⟩ : ∃ y12 : Int32, y12 = x8 + 1 := ⟨_, rfl⟩
        have k := k y12 ey12
        refine Ev_iinc (v := y12) (lo2 := [.ref 57, .int x1, .int x2, .int x3, .int x4, .int x5, .int x6, .int y11, .int y12]) hq_196 (show decode prog_7_method_70_code 99 = .ok (.iinc 8 1, 3) by decide +kernel) rfl (by rw [ey12]; rfl) rfl ?_
        refine Ev_goto (tgt := 52) hq_196 (show decode prog_7_method_70_code 102 = .ok (.goto (-50), 3) by decide +kernel) (by decide) ?_
        exact k
      · have k := k.2 (Classical.not_not.mp c10)
        refine Ev_iconst (v := 1) hq_196 (show decode prog_7_method_70_code 88 = .ok (.iconst 1, 1) by decide +kernel) (by decide) ?_
        refine Ev_iload hq_196 (show decode prog_7_method_70_code 89 = .ok (.iload 8, 2) by decide +kernel) rfl ?_
        refine Ev_ishl hq_196 (show decode prog_7_method_70_code 91 = .ok (.ishl, 1) by decide +kernel) ?_
        refine Ev_goto (tgt := 96) hq_196 (show decode prog_7_method_70_code 92 = .ok (.goto 4, 3) by decide +kernel) (by decide) ?_
        refine Ev_ior hq_196 (show decode prog_7_method_70_code 96 = .ok (.ior, 1) by decide +kernel) ?_
        obtain ⟨y13, ey13⟩ : ∃ y13 : Int32, y13 = (x7 ||| (1 <<< (x8 &&& 31))) := ⟨_, rfl⟩
        have k := k y13 ey13
        rw [← ey13]
        refine Ev_istore (lo2 := [.ref 57, .int x1, .int x2, .int x3, .int x4, .int x5, .int x6, .int y13, .int x8]) hq_196 (show decode prog_7_method_70_code 97 = .ok (.istore 7, 2) by decide +kernel) (z_le rfl) rfl ?_
        obtain ⟨y14, ey14⟩ : ∃ y14 : Int32, y14 = x8 + 1 := ⟨_, rfl⟩
        have k := k y14 ey14
        refine Ev_iinc (v := y14) (lo2 := [.ref 57, .int x1, .int x2, .int x3, .int x4, .int x5, .int x6, .int y13, .int y14]) hq_196 (show decode prog_7_method_70_code 99 = .ok (.iinc 8 1, 3) by decide +kernel) rfl (by rw [ey14]; rfl) rfl ?_
        refine Ev_goto (tgt := 52) hq_196 (show decode prog_7_method_70_code 102 = .ok (.goto (-50), 3) by decide +kernel) (by decide) ?_
        exact k
  · have k := k.2 (Classical.not_not.mp c1)
    refine Ev_iconst (v := 4) hq_196 (show decode prog_7_method_70_code 58 = .ok (.iconst 4, 1) by decide +kernel) (by decide) ?_
    refine Ev_goto (tgt := 64) hq_196 (show decode prog_7_method_70_code 59 = .ok (.goto 5, 3) by decide +kernel) (by decide) ?_
    refine Ev_icmp_gt (tgt := 105) hq_196 (show decode prog_7_method_70_code 64 = .ok (.if_icmp .gt 41, 3) by decide +kernel) (by decide) (fun c15 => ?_) (fun c15 => ?_)
    · have k := k.1 c15
      refine Ev_aload_n hq_196 (show decode prog_7_method_70_code 105 = .ok (.aload_n 0, 1) by decide +kernel) rfl ?_
      refine Ev_getR hq_196 (show decode prog_7_method_70_code 106 = .ok (.getfield 16, 3) by decide +kernel) rfl (SGn hS (by decide)) (SGk hS rfl) (by decide) rfl (SGr hS rfl) ?_
      refine Ev_iload hq_196 (show decode prog_7_method_70_code 109 = .ok (.iload 5, 2) by decide +kernel) rfl ?_
      refine Ev_iload hq_196 (show decode prog_7_method_70_code 111 = .ok (.iload 6, 2) by decide +kernel) rfl ?_
      obtain ⟨h16, k⟩ := k
      refine Ev_iast hq_196 (show decode prog_7_method_70_code 113 = .ok (.iastore, 1) by decide +kernel) (SGn hS (by decide)) (SGk hS rfl) (SGi hS rfl h16) ?_
      obtain ⟨I17, eI17⟩ : ∃ I17 : zI, I17 = z_up I 60 x5.toNatClampNeg x6 := ⟨_, rfl⟩
      have k := k I17 eI17
      rw [← eI17]
      refine Ev_iload hq_196 (show decode prog_7_method_70_code 114 = .ok (.iload 7, 2) by decide +kernel) rfl ?_
      exact Ev_iret hq_196 (show decode prog_7_method_70_code 116 = .ok (.ireturn, 1) by decide +kernel) rfl k
    · have k := k.2 c15
      refine Ev_aload_n hq_196 (show decode prog_7_method_70_code 67 = .ok (.aload_n 0, 1) by decide +kernel) rfl ?_
      refine Ev_getR hq_196 (show decode prog_7_method_70_code 68 = .ok (.getfield 16, 3) by decide +kernel) rfl (SGn hS (by decide)) (SGk hS rfl) (by decide) rfl (SGr hS rfl) ?_
      refine Ev_iload hq_196 (show decode prog_7_method_70_code 71 = .ok (.iload 5, 2) by decide +kernel) rfl ?_
      refine Ev_iload hq_196 (show decode prog_7_method_70_code 73 = .ok (.iload 8, 2) by decide +kernel) rfl ?_
      obtain ⟨h18, k⟩ := k
      refine Ev_iast hq_196 (show decode prog_7_method_70_code 75 = .ok (.iastore, 1) by decide +kernel) (SGn hS (by decide)) (SGk hS rfl) (SGi hS rfl h18) ?_
      obtain ⟨I19, eI19⟩ : ∃ I19 : zI, I19 = z_up I 60 x5.toNatClampNeg x8 := ⟨_, rfl⟩
      have k := k I19 eI19
      rw [← eI19]
      refine Ev_iload hq_196 (show decode prog_7_method_70_code 76 = .ok (.iload 7, 2) by decide +kernel) rfl ?_
      refine Ev_aload_n hq_196 (show decode prog_7_method_70_code 78 = .ok (.aload_n 0, 1) by decide +kernel) rfl ?_
      refine Ev_iload_n hq_196 (show decode prog_7_method_70_code 79 = .ok (.iload_n 1, 1) by decide +kernel) rfl ?_
      refine Ev_iload_n hq_196 (show decode prog_7_method_70_code 80 = .ok (.iload_n 2, 1) by decide +kernel) rfl ?_
      obtain ⟨r22, I20, h21, k⟩ := k
      refine Ev_virt (as := [.int x1, .int x2]) hq_196 (show decode prog_7_method_70_code 81 = .ok (.invokevirtual 260, 3) by decide +kernel) rfl hq_194 rfl (z_le rfl) ⟨(SGn hS (by decide)), (SGk hS rfl), by decide⟩ h21 ?_
      refine Ev_iconst (v := (-1)) hq_196 (show decode prog_7_method_70_code 84 = .ok (.iconst (-1), 1) by decide +kernel) (by decide) ?_
      refine Ev_icmp_ne (tgt := 95) hq_196 (show decode prog_7_method_70_code 85 = .ok (.if_icmp .ne 10, 3) by decide +kernel) (by decide) (fun c23 => ?_) (fun c23 => ?_)
      · have k := k.1 c23
        refine Ev_iconst (v := 0) hq_196 (show decode prog_7_method_70_code 95 = .ok (.iconst 0, 1) by decide +kernel) (by decide) ?_
        refine Ev_ior hq_196 (show decode prog_7_method_70_code 96 = .ok (.ior, 1) by decide +kernel) ?_
        obtain ⟨y24, ey24⟩ : ∃ y24 : Int32, y24 = (x7 ||| 0) := ⟨_, rfl⟩
        have k := k y24 ey24
        rw [← ey24]
        refine Ev_istore (lo2 := [.ref 57, .int x1, .int x2, .int x3, .int x4, .int x5, .int x6, .int y24, .int x8]) hq_196 (show decode prog_7_method_70_code 97 = .ok (.istore 7, 2) by decide +kernel) (z_le rfl) rfl ?_
        obtain ⟨y25, ey25⟩ : ∃ y25 : Int32, y25 = x8 + 1 := ⟨_, rfl⟩
        have k := k y25 ey25
        refine Ev_iinc (v := y25) (lo2 := [.ref 57, .int x1, .int x2, .int x3, .int x4, .int x5, .int x6, .int y24, .int y25]) hq_196 (show decode prog_7_method_70_code 99 = .ok (.iinc 8 1, 3) by decide +kernel) rfl (by rw [ey25]; rfl) rfl ?_
        refine Ev_goto (tgt := 52) hq_196 (show decode prog_7_method_70_code 102 = .ok (.goto (-50), 3) by decide +kernel) (by decide) ?_
        exact k
      · have k := k.2 (Classical.not_not.mp c23)
        refine Ev_iconst (v := 1) hq_196 (show decode prog_7_method_70_code 88 = .ok (.iconst 1, 1) by decide +kernel) (by decide) ?_
        refine Ev_iload hq_196 (show decode prog_7_method_70_code 89 = .ok (.iload 8, 2) by decide +kernel) rfl ?_
        refine Ev_ishl hq_196 (show decode prog_7_method_70_code 91 = .ok (.ishl, 1) by decide +kernel) ?_
        refine Ev_goto (tgt := 96) hq_196 (show decode prog_7_method_70_code 92 = .ok (.goto 4, 3) by decide +kernel) (by decide) ?_
        refine Ev_ior hq_196 (show decode prog_7_method_70_code 96 = .ok (.ior, 1) by decide +kernel) ?_
        obtain ⟨y26, ey26⟩ : ∃ y26 : Int32, y26 = (x7 ||| (1 <<< (x8 &&& 31))) := ⟨_, rfl⟩
        have k := k y26 ey26
        rw [← ey26]
        refine Ev_istore (lo2 := [.ref 57, .int x1, .int x2, .int x3, .int x4, .int x5, .int x6, .int y26, .int x8]) hq_196 (show decode prog_7_method_70_code 97 = .ok (.istore 7, 2) by decide +kernel) (z_le rfl) rfl ?_
        obtain ⟨y27, ey27⟩ : ∃ y27 : Int32, y27 = x8 + 1 := ⟨_, rfl⟩
        have k := k y27 ey27
        refine Ev_iinc (v := y27) (lo2 := [.ref 57, .int x1, .int x2, .int x3, .int x4, .int x5, .int x6, .int y26, .int y27]) hq_196 (show decode prog_7_method_70_code 99 = .ok (.iinc 8 1, 3) by decide +kernel) rfl (by rw [ey27]; rfl) rfl ?_
        refine Ev_goto (tgt := 52) hq_196 (show decode prog_7_method_70_code 102 = .ok (.goto (-50), 3) by decide +kernel) (by decide) ?_
        exact k
set_option maxRecDepth 20000 in
theorem wp_Z_kinds {X : Nat × (Nat → Int32)} {d : Nat} {G : zG} {I : zI} {res : Option Value × zG × zI} (x1 : Int32) (x2 : Int32) (x3 : Int32) (hS : SG G) 
    (k : ∃ (r3 : Int32) (I1 : zI), Cv X d 192 [.ref 57, .int x1, .int x2] G I (some (.int r3), G, I1) ∧ ((r3 = 0 → ∃ (r7 : Int32) (I5 : zI), Cv X d 131 [.int x3, .int 0, .int 1] G I1 (some (.int r7), G, I5) ∧ ((¬ r7 = 0 → z_inr x2 4 ∧ (∀ y10 : Int32, y10 = (I5 58 x2.toNatClampNeg) → z_inr x2 4 ∧ (∀ y12 : Int32, y12 = (I5 59 x2.toNatClampNeg) → Ev X (d + 1) 197 50 [.ref 57, .int x1, .int x2, .int x3, .int r3, .int y10, .int y12, .int 0, .int 0] [] G I5 res))) ∧ (r7 = 0 → res = (some (.int (-7)), G, I5)))) ∧ (¬ r3 = 0 → res = (some (.int r3), G, I1)))) :
    Ev X (d + 1) 197 0 [.ref 57, .int x1, .int x2, .int x3, zU, zU, zU, zU, zU] [] G I res := by
  refine Ev_aload_n hq_197 (show decode prog_7_method_71_code 0 = .ok (.aload_n 0, 1) by decide +kernel) rfl ?_
  refine Ev_iload_n hq_197 (show decode prog_7_method_71_code 1 = .ok (.iload_n 1, 1) by decide +kernel) rfl ?_
  refine Ev_iload_n hq_197 (show decode prog_7_method_71_code 2 = .ok (.iload_n 2, 1) by decide +kernel) rfl ?_
  obtain ⟨r3, I1, h2, k⟩ := k
  refine Ev_virt (as := [.int x1, .int x2]) hq_197 (show decode prog_7_method_71_code 3 = .ok (.invokevirtual 257, 3) by decide +kernel) rfl hq_192 rfl (z_le rfl) ⟨(SGn hS (by decide)), (SGk hS rfl), by decide⟩ h2 ?_
  refine Ev_istore (lo2 := [.ref 57, .int x1, .int x2, .int x3, .int r3, zU, zU, zU, zU]) hq_197 (show decode prog_7_method_71_code 6 = .ok (.istore 4, 2) by decide +kernel) (z_le rfl) rfl ?_
  refine Ev_iload hq_197 (show decode prog_7_method_71_code 8 = .ok (.iload 4, 2) by decide +kernel) rfl ?_
  refine Ev_if_eq (tgt := 16) hq_197 (show decode prog_7_method_71_code 10 = .ok (.ifCond .eq 6, 3) by decide +kernel) (by decide) (fun c4 => ?_) (fun c4 => ?_)
  · have k := k.1 c4
    refine Ev_iload_n hq_197 (show decode prog_7_method_71_code 16 = .ok (.iload_n 3, 1) by decide +kernel) rfl ?_
    refine Ev_iconst (v := 0) hq_197 (show decode prog_7_method_71_code 17 = .ok (.iconst 0, 1) by decide +kernel) (by decide) ?_
    refine Ev_iconst (v := 1) hq_197 (show decode prog_7_method_71_code 18 = .ok (.iconst 1, 1) by decide +kernel) (by decide) ?_
    obtain ⟨r7, I5, h6, k⟩ := k
    refine Ev_stat (as := [.int x3, .int 0, .int 1]) hq_197 (show decode prog_7_method_71_code 19 = .ok (.invokestatic 90, 3) by decide +kernel) rfl (Or.inl rfl) hq_131 rfl (z_le rfl) h6 ?_
    refine Ev_if_ne (tgt := 28) hq_197 (show decode prog_7_method_71_code 22 = .ok (.ifCond .ne 6, 3) by decide +kernel) (by decide) (fun c8 => ?_) (fun c8 => ?_)
    · have k := k.1 c8
      refine Ev_aload_n hq_197 (show decode prog_7_method_71_code 28 = .ok (.aload_n 0, 1) by decide +kernel) rfl ?_
      refine Ev_getR hq_197 (show decode prog_7_method_71_code 29 = .ok (.getfield 7, 3) by decide +kernel) rfl (SGn hS (by decide)) (SGk hS rfl) (by decide) rfl (SGr hS rfl) ?_
      refine Ev_iload_n hq_197 (show decode prog_7_method_71_code 32 = .ok (.iload_n 2, 1) by decide +kernel) rfl ?_
      obtain ⟨h9, k⟩ := k
      refine Ev_iald hq_197 (show decode prog_7_method_71_code 33 = .ok (.iaload, 1) by decide +kernel) (SGn hS (by decide)) (SGk hS rfl) (SGi hS rfl h9) ?_
      obtain ⟨y10, ey10⟩ : ∃ y10 : Int32, y10 = (I5 58 x2.toNatClampNeg) := ⟨_, rfl⟩
      have k := k y10 ey10
      rw [← ey10]
      refine Ev_istore (lo2 := [.ref 57, .int x1, .int x2, .int x3, .int r3, .int y10, zU, zU, zU]) hq_197 (show decode prog_7_method_71_code 34 = .ok (.istore 5, 2) by decide +kernel) (z_le rfl) rfl ?_
      refine Ev_aload_n hq_197 (show decode prog_7_method_71_code 36 = .ok (.aload_n 0, 1) by decide +kernel) rfl ?_
      refine Ev_getR hq_197 (show decode prog_7_method_71_code 37 = .ok (.getfield 13, 3) by decide +kernel) rfl (SGn hS (by decide)) (SGk hS rfl) (by decide) rfl (SGr hS rfl) ?_
      refine Ev_iload_n hq_197 (show decode prog_7_method_71_code 40 = .ok (.iload_n 2, 1) by decide +kernel) rfl ?_
      obtain ⟨h11, k⟩ := k
      refine Ev_iald hq_197 (show decode prog_7_method_71_code 41 = .ok (.iaload, 1) by decide +kernel) (SGn hS (by decide)) (SGk hS rfl) (SGi hS rfl h11) ?_
      obtain ⟨y12, ey12⟩ : ∃ y12 : Int32, y12 = (I5 59 x2.toNatClampNeg) := ⟨_, rfl⟩
      have k := k y12 ey12
      rw [← ey12]
      refine Ev_istore (lo2 := [.ref 57, .int x1, .int x2, .int x3, .int r3, .int y10, .int y12, zU, zU]) hq_197 (show decode prog_7_method_71_code 42 = .ok (.istore 6, 2) by decide +kernel) (z_le rfl) rfl ?_
      refine Ev_iconst (v := 0) hq_197 (show decode prog_7_method_71_code 44 = .ok (.iconst 0, 1) by decide +kernel) (by decide) ?_
      refine Ev_istore (lo2 := [.ref 57, .int x1, .int x2, .int x3, .int r3, .int y10, .int y12, .int 0, zU]) hq_197 (show decode prog_7_method_71_code 45 = .ok (.istore 7, 2) by decide +kernel) (z_le rfl) rfl ?_
      refine Ev_iconst (v := 0) hq_197 (show decode prog_7_method_71_code 47 = .ok (.iconst 0, 1) by decide +kernel) (by decide) ?_
      refine Ev_istore (lo2 := [.ref 57, .int x1, .int x2, .int x3, .int r3, .int y10, .int y12, .int 0, .int 0]) hq_197 (show decode prog_7_method_71_code 48 = .ok (.istore 8, 2) by decide +kernel) (z_le rfl) rfl ?_
      exact k
    · have k := k.2 (Classical.not_not.mp c8)
      refine Ev_bipush (v := (-7)) hq_197 (show decode prog_7_method_71_code 25 = .ok (.bipush (-7), 2) by decide +kernel) (by decide) ?_
      exact Ev_iret hq_197 (show decode prog_7_method_71_code 27 = .ok (.ireturn, 1) by decide +kernel) rfl k
  · have k := k.2 c4
    refine Ev_iload hq_197 (show decode prog_7_method_71_code 13 = .ok (.iload 4, 2) by decide +kernel) rfl ?_
    exact Ev_iret hq_197 (show decode prog_7_method_71_code 15 = .ok (.ireturn, 1) by decide +kernel) rfl k
set_option maxRecDepth 20000 in
theorem wp_Z_kinds_50 {X : Nat × (Nat → Int32)} {d : Nat} {G : zG} {I : zI} {res : Option Value × zG × zI} (x1 : Int32) (x2 : Int32) (x3 : Int32) (x4 : Int32) (x5 : Int32) (x6 : Int32) (x7 : Int32) (x8 : Int32) (hS : SG G) 
    (k : (¬ x3 = 0 → (10 ≤ x8 → z_inr x2 4 ∧ (∀ I4 : zI, I4 = z_up I 58 x2.toNatClampNeg x5 → z_inr x2 4 ∧ (∀ I6 : zI, I6 = z_up I4 59 x2.toNatClampNeg x6 → res = (some (.int x7), G, I6)))) ∧ (¬ 10 ≤ x8 → (¬ x3 = 0 → z_inr x2 4 ∧ (∀ I9 : zI, I9 = z_up I 58 x2.toNatClampNeg x5 → (¬ x3 = 1 → z_inr x2 4 ∧ (∀ I12 : zI, I12 = z_up I9 59 x2.toNatClampNeg x6 → ∃ (r15 : Int32) (I13 : zI), Cv X d 194 [.ref 57, .int x1, .int x2] G I12 (some (.int r15), G, I13) ∧ ((¬ r15 = (-1) → ∀ y17 : Int32, y17 = (x7 ||| 0) → ∀ y18 : Int32, y18 = x8 + 1 → Ev X (d + 1) 197 50 [.ref 57, .int x1, .int x2, .int x3, .int x4, .int x5, .int x6, .int y17, .int y18] [] G I13 res) ∧ (r15 = (-1) → ∀ y19 : Int32, y19 = (x7 ||| (1 <<< (x8 &&& 31))) → ∀ y20 : Int32, y20 = x8 + 1 → Ev X (d + 1) 197 50 [.ref 57, .int x1, .int x2, .int x3, .int x4, .int x5, .int x6, .int y19, .int y20] [] G I13 res)))) ∧ (x3 = 1 → z_inr x2 4 ∧ (∀ I22 : zI, I22 = z_up I9 59 x2.toNatClampNeg x8 → ∃ (r25 : Int32) (I23 : zI), Cv X d 194 [.ref 57, .int x1, .int x2] G I22 (some (.int r25), G, I23) ∧ ((¬ r25 = (-1) → ∀ y27 : Int32, y27 = (x7 ||| 0) → ∀ y28 : Int32, y28 = x8 + 1 → Ev X (d + 1) 197 50 [.ref 57, .int x1, .int x2, .int x3, .int x4, .int x5, .int x6, .int y27, .int y28] [] G I23 res) ∧ (r25 = (-1) → ∀ y29 : Int32, y29 = (x7 ||| (1 <<< (x8 &&& 31))) → ∀ y30 : Int32, y30 = x8 + 1 → Ev X (d + 1) 197 50 [.ref 57, .int x1, .int x2, .int x3, .int x4, .int x5, .int x6, .int y29, .int y30] [] G I23 res)))))) ∧ (x3 = 0 → z_inr x2 4 ∧ (∀ I32 : zI, I32 = z_up I 58 x2.toNatClampNeg x8 → (¬ x3 = 1 → z_inr x2 4 ∧ (∀ I35 : zI, I35 = z_up I32 59 x2.toNatClampNeg x6 → ∃ (r38 : Int32) (I36 : zI), Cv X d 194 [.ref 57, .int x1, .int x2] G I35 (some (.int r38), G, I36) ∧ ((¬ r38 = (-1) → ∀ y40 : Int32, y40 = (x7 ||| 0) → ∀ y41 : Int32, y41 = x8 + 1 → Ev X (d + 1) 197 50 [.ref 57, .int x1, .int x2, .int x3, .int x4, .int x5, .int x6, .int y40, .int y41] [] G I36 res) ∧ (r38 = (-1) → ∀ y42 : Int32, y42 = (x7 ||| (1 <<< (x8 &&& 31))) → ∀ y43 : Int32, y43 = x8 + 1 → Ev X (d + 1) 197 50 [.ref 57, .int x1, .int x2, .int x3, .int x4, .int x5, .int x6, .int y42, .int y43] [] G I36 res)))) ∧ (x3 = 1 → z_inr x2 4 ∧ (∀ I45 : zI, I45 = z_up I32 59 x2.toNatClampNeg x8 → ∃ (r48 : Int32) (I46 : zI), Cv X d 194 [.ref 57, .int x1, .int x2] G I45 (some (.int r48), G, I46) ∧ ((¬ r48 = (-1) → ∀ y50 : Int32, y50 = (x7 ||| 0) → ∀ y51 : Int32, y51 = x8 + 1 → Ev X (d + 1) 197 50 [.ref 57, .int x1, .int x2, .int x3, .int x4, .int x5, .int x6, .int y50, .int y51] [] G I46 res) ∧ (r48 = (-1) → ∀ y52 : Int32, y52 = (x7 ||| (1 <<< (x8 &&& 31))) → ∀ y53 : Int32, y53 = x8 + 1 → Ev X (d + 1) 197 50 [.ref 57, .int x1, .int x2, .int x3, .int x4, .int x5, .int x6, .int y52, .int y53] [] G I46 res)))))))) ∧ (x3 = 0 → (6 ≤ x8 → z_inr x2 4 ∧ (∀ I56 : zI, I56 = z_up I 58 x2.toNatClampNeg x5 → z_inr x2 4 ∧ (∀ I58 : zI, I58 = z_up I56 59 x2.toNatClampNeg x6 → res = (some (.int x7), G, I58)))) ∧ (¬ 6 ≤ x8 → (¬ x3 = 0 → z_inr x2 4 ∧ (∀ I61 : zI, I61 = z_up I 58 x2.toNatClampNeg x5 → (¬ x3 = 1 → z_inr x2 4 ∧ (∀ I64 : zI, I64 = z_up I61 59 x2.toNatClampNeg x6 → ∃ (r67 : Int32) (I65 : zI), Cv X d 194 [.ref 57, .int x1, .int x2] G I64 (some (.int r67), G, I65) ∧ ((¬ r67 = (-1) → ∀ y69 : Int32, y69 = (x7 ||| 0) → ∀ y70 : Int32, y70 = x8 + 1 → Ev X (d + 1) 197 50 [.ref 57, .int x1, .int x2, .int x3, .int x4, .int x5, .int x6, .int y69, .int y70] [] G I65 res) ∧ (r67 = (-1) → ∀ y71 : Int32, y71 = (x7 ||| (1 <<< (x8 &&& 31))) → ∀ y72 : Int32, y72 = x8 + 1 → Ev X (d + 1) 197 50 [.ref 57, .int x1, .int x2, .int x3, .int x4, .int x5, .int x6, .int y71, .int y72] [] G I65 res)))) ∧ (x3 = 1 → z_inr x2 4 ∧ (∀ I74 : zI, I74 = z_up I61 59 x2.toNatClampNeg x8 → ∃ (r77 : Int32) (I75 : zI), Cv X d 194 [.ref 57, .int x1, .int x2] G I74 (some (.int r77), G, I75) ∧ ((¬ r77 = (-1) → ∀ y79 : Int32, y79 = (x7 ||| 0) → ∀ y80 : Int32, y80 = x8 + 1 → Ev X (d + 1) 197 50 [.ref 57, .int x1, .int x2, .int x3, .int x4, .int x5, .int x6, .int y79, .int y80] [] G I75 res) ∧ (r77 = (-1) → ∀ y81 : Int32, y81 = (x7 ||| (1 <<< (x8 &&& 31))) → ∀ y82 : Int32, y82 = x8 + 1 → Ev X (d + 1) 197 50 [.ref 57, .int x1, .int x2, .int x3, .int x4, .int x5, .int x6, .int y81, .int y82] [] G I75 res)))))) ∧ (x3 = 0 → z_inr x2 4 ∧ (∀ I84 : zI, I84 = z_up I 58 x2.toNatClampNeg x8 → (¬ x3 = 1 → z_inr x2 4 ∧ (∀ I87 : zI, I87 = z_up I84 59 x2.toNatClampNeg x6 → ∃ (r90 : Int32) (I88 : zI), Cv X d 194 [.ref 57, .int x1, .int x2] G I87 (some (.int r90), G, I88) ∧ ((¬ r90 = (-1) → ∀ y92 : Int32, y92 = (x7 ||| 0) → ∀ y93 : Int32, y93 = x8 + 1 → Ev X (d + 1) 197 50 [.ref 57, .int x1, .int x2, .int x3, .int x4, .int x5, .int x6, .int y92, .int y93] [] G I88 res) ∧ (r90 = (-1) → ∀ y94 : Int32, y94 = (x7 ||| (1 <<< (x8 &&& 31))) → ∀ y95 : Int32, y95 = x8 + 1 → Ev X (d + 1) 197 50 [.ref 57, .int x1, .int x2, .int x3, .int x4, .int x5, .int x6, .int y94, .int y95] [] G I88 res)))) ∧ (x3 = 1 → z_inr x2 4 ∧ (∀ I97 : zI, I97 = z_up I84 59 x2.toNatClampNeg x8 → ∃ (r100 : Int32) (I98 : zI), Cv X d 194 [.ref 57, .int x1, .int x2] G I97 (some (.int r100), G, I98) ∧ ((¬ r100 = (-1) → ∀ y102 : Int32, y102 = (x7 ||| 0) → ∀ y103 : Int32, y103 = x8 + 1 → Ev X (d + 1) 197 50 [.ref 57, .int x1, .int x2, .int x3, .int x4, .int x5, .int x6, .int y102, .int y103] [] G I98 res) ∧ (r100 = (-1) → ∀ y104 : Int32, y104 = (x7 ||| (1 <<< (x8 &&& 31))) → ∀ y105 : Int32, y105 = x8 + 1 → Ev X (d + 1) 197 50 [.ref 57, .int x1, .int x2, .int x3, .int x4, .int x5, .int x6, .int y104, .int y105] [] G I98 res))))))))) :
    Ev X (d + 1) 197 50 [.ref 57, .int x1, .int x2, .int x3, .int x4, .int x5, .int x6, .int x7, .int x8] [] G I res := by
  refine Ev_iload hq_197 (show decode prog_7_method_71_code 50 = .ok (.iload 8, 2) by decide +kernel) rfl ?_
  refine Ev_iload_n hq_197 (show decode prog_7_method_71_code 52 = .ok (.iload_n 3, 1) by decide +kernel) rfl ?_
  refine Ev_if_ne (tgt := 61) hq_197 (show decode prog_7_method_71_code 53 = .ok (.ifCond .ne 8, 3) by decide +kernel) (by decide) (fun c1 => ?_) (fun c1 => ?_)
  · have k := k.1 c1
    refine Ev_bipush (v := 10) hq_197 (show decode prog_7_method_71_code 61 = .ok (.bipush 10, 2) by decide +kernel) (by decide) ?_
    refine Ev_icmp_ge (tgt := 130) hq_197 (show decode prog_7_method_71_code 63 = .ok (.if_icmp .ge 67, 3) by decide +kernel) (by decide) (fun c2 => ?_) (fun c2 => ?_)
    · have k := k.1 c2
      refine Ev_aload_n hq_197 (show decode prog_7_method_71_code 130 = .ok (.aload_n 0, 1) by decide +kernel) rfl ?_
      refine Ev_getR hq_197 (show decode prog_7_method_71_code 131 = .ok (.getfield 7, 3) by decide +kernel) rfl (SGn hS (by decide)) (SGk hS rfl) (by decide) rfl (SGr hS rfl) ?_
      refine Ev_iload_n hq_197 (show decode prog_7_method_71_code 134 = .ok (.iload_n 2, 1) by decide +kernel) rfl ?_
      refine Ev_iload hq_197 (show decode prog_7_method_71_code 135 = .ok (.iload 5, 2) by decide +kernel) rfl ?_
      obtain ⟨h3, k⟩ := k
      refine Ev_iast hq_197 (show decode prog_7_method_71_code 137 = .ok (.iastore, 1) by decide +kernel) (SGn hS (by decide)) (SGk hS rfl) (SGi hS rfl h3) ?_
      obtain ⟨I4, eI4⟩ : ∃ I4 : zI, I4 = z_up I 58 x2.toNatClampNeg x5 := ⟨_, rfl⟩
      have k := k I4 eI4
      rw [← eI4]
      refine Ev_aload_n hq_197 (show decode prog_7_method_71_code 138 = .ok (.aload_n 0, 1) by decide +kernel) rfl ?_
      refine Ev_getR hq_197 (show decode prog_7_method_71_code 139 = .ok (.getfield 13, 3) by decide +kernel) rfl (SGn hS (by decide)) (SGk hS rfl) (by decide) rfl (SGr hS rfl) ?_
      refine Ev_iload_n hq_197 (show decode prog_7_method_71_code 142 = .ok (.iload_n 2, 1) by decide +kernel) rfl ?_
      refine Ev_iload hq_197 (show decode prog_7_method_71_code 143 = .ok (.iload 6, 2) by decide +kernel) rfl ?_
      obtain ⟨h5, k⟩ := k
      refine Ev_iast hq_197 (show decode prog_7_method_71_code 145 = .ok (.iastore, 1) by decide +kernel) (SGn hS (by decide)) (SGk hS rfl) (SGi hS rfl h5) ?_
      obtain ⟨I6, eI6⟩ : ∃ I6 : zI, I6 = z_up I4 59 x2.toNatClampNeg x6 := ⟨_, rfl⟩
      have k := k I6 eI6
      rw [← eI6]
      refine Ev_iload hq_197 (show decode prog_7_method_71_code 146 = .ok (.iload 7, 2) by decide +kernel) rfl ?_
      exact Ev_iret hq_197 (show decode prog_7_method_71_code 148 = .ok (.ireturn, 1) by decide +kernel) rfl k
    · have k := k.2 c2
      refine Ev_aload_n hq_197 (show decode prog_7_method_71_code 66 = .ok (.aload_n 0, 1) by decide +kernel) rfl ?_
      refine Ev_getR hq_197 (show decode prog_7_method_71_code 67 = .ok (.getfield 7, 3) by decide +kernel) rfl (SGn hS (by decide)) (SGk hS rfl) (by decide) rfl (SGr hS rfl) ?_
      refine Ev_iload_n hq_197 (show decode prog_7_method_71_code 70 = .ok (.iload_n 2, 1) by decide +kernel) rfl ?_
      refine Ev_iload_n hq_197 (show decode prog_7_method_71_code 71 = .ok (.iload_n 3, 1) by decide +kernel) rfl ?_
      refine Ev_if_ne (tgt := 80) hq_197 (show decode prog_7_method_71_code 72 = .ok (.ifCond .ne 8, 3) by decide +kernel) (by decide) (fun c7 => ?_) (fun c7 => ?_)
      · have k := k.1 c7
        refine Ev_iload hq_197 (show decode prog_7_method_71_code 80 = .ok (.iload 5, 2) by decide +kernel) rfl ?_
        obtain ⟨h8, k⟩ := k
        refine Ev_iast hq_197 (show decode prog_7_method_71_code 82 = .ok (.iastore, 1) by decide +kernel) (SGn hS (by decide)) (SGk hS rfl) (SGi hS rfl h8) ?_
        obtain ⟨I9, eI9⟩ : ∃ I9 : zI, I9 = z_up I 58 x2.toNatClampNeg x5 := ⟨_, rfl⟩
        have k := k I9 eI9
        rw [← eI9]
        refine Ev_aload_n hq_197 (show decode prog_7_method_71_code 83 = .ok (.aload_n 0, 1) by decide +kernel) rfl ?_
        refine Ev_getR hq_197 (show decode prog_7_method_71_code 84 = .ok (.getfield 13, 3) by decide +kernel) rfl (SGn hS (by decide)) (SGk hS rfl) (by decide) rfl (SGr hS rfl) ?_
        refine Ev_iload_n hq_197 (show decode prog_7_method_71_code 87 = .ok (.iload_n 2, 1) by decide +kernel) rfl ?_
        refine Ev_iload_n hq_197 (show decode prog_7_method_71_code 88 = .ok (.iload_n 3, 1) by decide +kernel) rfl ?_
        refine Ev_iconst (v := 1) hq_197 (show decode prog_7_method_71_code 89 = .ok (.iconst 1, 1) by decide +kernel) (by decide) ?_
        refine Ev_icmp_ne (tgt := 98) hq_197 (show decode prog_7_method_71_code 90 = .ok (.if_icmp .ne 8, 3) by decide +kernel) (by decide) (fun c10 => ?_) (fun c10 => ?_)
        · have k := k.1 c10
          refine Ev_iload hq_197 (show decode prog_7_method_71_code 98 = .ok (.iload 6, 2) by decide +kernel) rfl ?_
          obtain ⟨h11, k⟩ := k
          refine Ev_iast hq_197 (show decode prog_7_method_71_code 100 = .ok (.iastore, 1) by decide +kernel) (SGn hS (by decide)) (SGk hS rfl) (SGi hS rfl h11) ?_
          obtain ⟨I12, eI12⟩ : ∃ I12 : zI, I12 = z_up I9 59 x2.toNatClampNeg x6 := ⟨_, rfl⟩
          have k := k I12 eI12
          rw [← eI12]
          refine Ev_iload hq_197 (show decode prog_7_method_71_code 101 = .ok (.iload 7, 2) by decide +kernel) rfl ?_
          refine Ev_aload_n hq_197 (show decode prog_7_method_71_code 103 = .ok (.aload_n 0, 1) by decide +kernel) rfl ?_
          refine Ev_iload_n hq_197 (show decode prog_7_method_71_code 104 = .ok (.iload_n 1, 1) by decide +kernel) rfl ?_
          refine Ev_iload_n hq_197 (show decode prog_7_method_71_code 105 = .ok (.iload_n 2, 1) by decide +kernel) rfl ?_
          obtain ⟨r15, I13, h14, k⟩ := k
          refine Ev_virt (as := [.int x1, .int x2]) hq_197 (show decode prog_7_method_71_code 106 = .ok (.invokevirtual 260, 3) by decide +kernel) rfl hq_194 rfl (z_le rfl) ⟨(SGn hS (by decide)), (SGk hS rfl), by decide⟩ h14 ?_
          refine Ev_iconst (v := (-1)) hq_197 (show decode prog_7_method_71_code 109 = .ok (.iconst (-1), 1) by decide +kernel) (by decide) ?_
          refine Ev_icmp_ne (tgt := 120) hq_197 (show decode prog_7_method_71_code 110 = .ok (.if_icmp .ne 10, 3) by decide +kernel) (by decide) (fun c16 => ?_) (fun c16 => ?_)
          · have k := k.1 c16
            refine Ev_iconst (v := 0) hq_197 (show decode prog_7_method_71_code 120 = .ok (.iconst 0, 1) by decide +kernel) (by decide) ?_
            refine Ev_ior hq_197 (show decode prog_7_method_71_code 121 = .ok (.ior, 1) by decide +kernel) ?_
            obtain ⟨y17, ey17⟩ : ∃ y17 : Int32, y17 = (x7 ||| 0) := ⟨_, rfl⟩
            have k := k y17 ey17
            rw [← ey17]
            refine Ev_istore (lo2 := [.ref 57, .int x1, .int x2, .int x3, .int x4, .int x5, .int x6, .int y17, .int x8]) hq_197 (show decode prog_7_method_71_code 122 = .ok (.istore 7, 2) by decide +kernel) (z_le rfl) rfl ?_
            obtain ⟨y18, ey18⟩ : ∃ y18 : Int32, y18 = x8 + 1 := ⟨_, rfl⟩
            have k := k y18 ey18
            refine Ev_iinc (v := y18) (lo2 := [.ref 57, .int x1, .int x2, .int x3, .int x4, .int x5, .int x6, .int y17, .int y18]) hq_197 (show decode prog_7_method_71_code 124 = .ok (.iinc 8 1, 3) by decide +kernel) rfl (by rw [ey18]; rfl) rfl ?_
            refine Ev_goto (tgt := 50) hq_197 (show decode prog_7_method_71_code 127 = .ok (.goto (-77), 3) by decide +kernel) (by decide) ?_
            exact k
          · have k := k.2 (Classical.not_not.mp c16)
            refine Ev_iconst (v := 1) hq_197 (show decode prog_7_method_71_code 113 = .ok (.iconst 1, 1) by decide +kernel) (by decide) ?_
            refine Ev_iload hq_197 (show decode prog_7_method_71_code 114 = .ok (.iload 8, 2) by decide +kernel) rfl ?_
            refine Ev_ishl hq_197 (show decode prog_7_method_71_code 116 = .ok (.ishl, 1) by decide +kernel) ?_
            refine Ev_goto (tgt := 121) hq_197 (show decode prog_7_method_71_code 117 = .ok (.goto 4, 3) by decide +kernel) (by decide) ?_
            refine Ev_ior hq_197 (show decode prog_7_method_71_code 121 = .ok (.ior, 1) by decide +kernel) ?_
            obtain ⟨y19, ey19⟩ : ∃ y19 : Int32, y19 = (x7 ||| (1 <<< (x8 &&& 31))) := ⟨_, rfl⟩
            have k := k y19 ey19
            rw [← ey19]
            refine Ev_istore (lo2 := [.ref 57, .int x1, .int x2, .int x3, .int x4, .int x5, .int x6, .int y19, .int x8]) hq_197 (show decode prog_7_method_71_code 122 = .ok (.istore 7, 2) by decide +kernel) (z_le rfl) rfl ?_
            obtain ⟨y20, ey20⟩ : ∃ y20 : Int32, y20 = x8 + 1 := ⟨_, rfl⟩
            have k := k y20 ey20
            refine Ev_iinc (v := y20) (lo2 := [.ref 57, .int x1, .int x2, .int x3, .int x4, .int x5, .int x6, .int y19, .int y20]) hq_197 (show decode prog_7_method_71_code 124 = .ok (.iinc 8 1, 3) by decide +kernel) rfl (by rw [ey20]; rfl) rfl ?_
            refine Ev_goto (tgt := 50) hq_197 (show decode prog_7_method_71_code 127 = .ok (.goto (-77), 3) by decide +kernel) (by decide) ?_
            exact k
        · have k := k.2 (Classical.not_not.mp c10)
          refine Ev_iload hq_197 (show decode prog_7_method_71_code 93 = .ok (.iload 8, 2) by decide +kernel) rfl ?_
          refine Ev_goto (tgt := 100) hq_197 (show decode prog_7_method_71_code 95 = .ok (.goto 5, 3) by decide +kernel) (by decide) ?_
          obtain ⟨h21, k⟩ := k
          refine Ev_iast hq_197 (show decode prog_7_method_71_code 100 = .ok (.iastore, 1) by decide +kernel) (SGn hS (by decide)) (SGk hS rfl) (SGi hS rfl h21) ?_
          obtain ⟨I22, eI22⟩ : ∃ I22 : zI, I22 = z_up I9 59 x2.toNatClampNeg x8 := ⟨_, rfl⟩
          have k := k I22 eI22
          rw [← eI22]
          refine Ev_iload hq_197 (show decode prog_7_method_71_code 101 = .ok (.iload 7, 2) by decide +kernel) rfl ?_
          refine Ev_aload_n hq_197 (show decode prog_7_method_71_code 103 = .ok (.aload_n 0, 1) by decide +kernel) rfl ?_
          refine Ev_iload_n hq_197 (show decode prog_7_method_71_code 104 = .ok (.iload_n 1, 1) by decide +kernel) rfl ?_
          refine Ev_iload_n hq_197 (show decode prog_7_method_71_code 105 = .ok (.iload_n 2, 1) by decide +kernel) rfl ?_
          obtain ⟨r25, I23, h24, k⟩ := k
          refine Ev_virt (as := [.int x1, .int x2]) hq_197 (show decode prog_7_method_71_code 106 = .ok (.invokevirtual 260, 3) by decide +kernel) rfl hq_194 rfl (z_le rfl) ⟨(SGn hS (by decide)), (SGk hS rfl), by decide⟩ h24 ?_
          refine Ev_iconst (v := (-1)) hq_197 (show decode prog_7_method_71_code 109 = .ok (.iconst (-1), 1) by decide +kernel) (by decide) ?_
          refine Ev_icmp_ne (tgt := 120) hq_197 (show decode prog_7_method_71_code 110 = .ok (.if_icmp .ne 10, 3) by decide +kernel) (by decide) (fun c26 => ?_) (fun c26 => ?_)
          · have k := k.1 c26
            refine Ev_iconst (v := 0) hq_197 (show decode prog_7_method_71_code 120 = .ok (.iconst 0, 1) by decide +kernel) (by decide) ?_
            refine Ev_ior hq_197 (show decode prog_7_method_71_code 121 = .ok (.ior, 1) by decide +kernel) ?_
            obtain ⟨y27, ey27⟩ : ∃ y27 : Int32, y27 = (x7 ||| 0) := ⟨_, rfl⟩
            have k := k y27 ey27
            rw [← ey27]
            refine Ev_istore (lo2 := [.ref 57, .int x1, .int x2, .int x3, .int x4, .int x5, .int x6, .int y27, .int x8]) hq_197 (show decode prog_7_method_71_code 122 = .ok (.istore 7, 2) by decide +kernel) (z_le rfl) rfl ?_
            obtain ⟨y28, ey28⟩ : ∃ y28 : Int32, y28 = x8 + 1 := ⟨_, rfl⟩
            have k := k y28 ey28
            refine Ev_iinc (v := y28) (lo2 := [.ref 57, .int x1, .int x2, .int x3, .int x4, .int x5, .int x6, .int y27, .int y28]) hq_197 (show decode prog_7_method_71_code 124 = .ok (.iinc 8 1, 3) by decide +kernel) rfl (by rw [ey28]; rfl) rfl ?_
            refine Ev_goto (tgt := 50) hq_197 (show decode prog_7_method_71_code 127 = .ok (.goto (-77), 3) by decide +kernel) (by decide) ?_
            exact k
          · have k := k.2 (Classical.not_not.mp c26)
            refine Ev_iconst (v := 1) hq_197 (show decode prog_7_method_71_code 113 = .ok (.iconst 1, 1) by decide +kernel) (by decide) ?_
            refine Ev_iload hq_197 (show decode prog_7_method_71_code 114 = .ok (.iload 8, 2) by decide +kernel) rfl ?_
            refine Ev_ishl hq_197 (show decode prog_7_method_71_code 116 = .ok (.ishl, 1) by decide +kernel) ?_
            refine Ev_goto (tgt := 121) hq_197 (show decode prog_7_method_71_code 117 = .ok (.goto 4, 3) by decide +kernel) (by decide) ?_
            refine Ev_ior hq_197 (show decode prog_7_method_71_code 121 = .ok (.ior, 1) by decide +kernel) ?_
            obtain ⟨y29, ey29⟩ : ∃ y29 : Int32, y29 = (x7 ||| (1 <<< (x8 &&& 31))) := ⟨_, rfl⟩
            have k := k y29 ey29
            rw [← ey29]
            refine Ev_istore (lo2 := [.ref 57, .int x1, .int x2, .int x3, .int x4, .int x5, .int x6, .int y29, .int x8]) hq_197 (show decode prog_7_method_71_code 122 = .ok (.istore 7, 2) by decide +kernel) (z_le rfl) rfl ?_
            obtain ⟨y30, ey30⟩ : ∃ y30 : Int32, y30 = x8 + 1 := ⟨_, rfl⟩
            have k := k y30 ey30
            refine Ev_iinc (v := y30) (lo2 := [.ref 57, .int x1, .int x2, .int x3, .int x4, .int x5, .int x6, .int y29, .int y30]) hq_197 (show decode prog_7_method_71_code 124 = .ok (.iinc 8 1, 3) by decide +kernel) rfl (by rw [ey30]; rfl) rfl ?_
            refine Ev_goto (tgt := 50) hq_197 (show decode prog_7_method_71_code 127 = .ok (.goto (-77), 3) by decide +kernel) (by decide) ?_
            exact k
      · have k := k.2 (Classical.not_not.mp c7)
        refine Ev_iload hq_197 (show decode prog_7_method_71_code 75 = .ok (.iload 8, 2) by decide +kernel) rfl ?_
        refine Ev_goto (tgt := 82) hq_197 (show decode prog_7_method_71_code 77 = .ok (.goto 5, 3) by decide +kernel) (by decide) ?_
        obtain ⟨h31, k⟩ := k
        refine Ev_iast hq_197 (show decode prog_7_method_71_code 82 = .ok (.iastore, 1) by decide +kernel) (SGn hS (by decide)) (SGk hS rfl) (SGi hS rfl h31) ?_
        obtain ⟨I32, eI32⟩ : ∃ I32 : zI, I32 = z_up I 58 x2.toNatClampNeg x8 := ⟨_, rfl⟩
        have k := k I32 eI32
        rw [← eI32]
        refine Ev_aload_n hq_197 (show decode prog_7_method_71_code 83 = .ok (.aload_n 0, 1) by decide +kernel) rfl ?_
        refine Ev_getR hq_197 (show decode prog_7_method_71_code 84 = .ok (.getfield 13, 3) by decide +kernel) rfl (SGn hS (by decide)) (SGk hS rfl) (by decide) rfl (SGr hS rfl) ?_
        refine Ev_iload_n hq_197 (show decode prog_7_method_71_code 87 = .ok (.iload_n 2, 1) by decide +kernel) rfl ?_
        refine Ev_iload_n hq_197 (show decode prog_7_method_71_code 88 = .ok (.iload_n 3, 1) by decide +kernel) rfl ?_
        refine Ev_iconst (v := 1) hq_197 (show decode prog_7_method_71_code 89 = .ok (.iconst 1, 1) by decide +kernel) (by decide) ?_
        refine Ev_icmp_ne (tgt := 98) hq_197 (show decode prog_7_method_71_code 90 = .ok (.if_icmp .ne 8, 3) by decide +kernel) (by decide) (fun c33 => ?_) (fun c33 => ?_)
        · have k := k.1 c33
          refine Ev_iload hq_197 (show decode prog_7_method_71_code 98 = .ok (.iload 6, 2) by decide +kernel) rfl ?_
          obtain ⟨h34, k⟩ := k
          refine Ev_iast hq_197 (show decode prog_7_method_71_code 100 = .ok (.iastore, 1) by decide +kernel) (SGn hS (by decide)) (SGk hS rfl) (SGi hS rfl h34) ?_
          obtain ⟨I35, eI35⟩ : ∃ I35 : zI, I35 = z_up I32 59 x2.toNatClampNeg x6 := ⟨_, rfl⟩
          have k := k I35 eI35
          rw [← eI35]
          refine Ev_iload hq_197 (show decode prog_7_method_71_code 101 = .ok (.iload 7, 2) by decide +kernel) rfl ?_
          refine Ev_aload_n hq_197 (show decode prog_7_method_71_code 103 = .ok (.aload_n 0, 1) by decide +kernel) rfl ?_
          refine Ev_iload_n hq_197 (show decode prog_7_method_71_code 104 = .ok (.iload_n 1, 1) by decide +kernel) rfl ?_
          refine Ev_iload_n hq_197 (show decode prog_7_method_71_code 105 = .ok (.iload_n 2, 1) by decide +kernel) rfl ?_
          obtain ⟨r38, I36, h37, k⟩ := k
          refine Ev_virt (as := [.int x1, .int x2]) hq_197 (show decode prog_7_method_71_code 106 = .ok (.invokevirtual 260, 3) by decide +kernel) rfl hq_194 rfl (z_le rfl) ⟨(SGn hS (by decide)), (SGk hS rfl), by decide⟩ h37 ?_
          refine Ev_iconst (v := (-1)) hq_197 (show decode prog_7_method_71_code 109 = .ok (.iconst (-1), 1) by decide +kernel) (by decide) ?_
          refine Ev_icmp_ne (tgt := 120) hq_197 (show decode prog_7_method_71_code 110 = .ok (.if_icmp .ne 10, 3) by decide +kernel) (by decide) (fun c39 => ?_) (fun c39 => ?_)
          · have k := k.1 c39
            refine Ev_iconst (v := 0) hq_197 (show decode prog_7_method_71_code 120 = .ok (.iconst 0, 1) by decide +kernel) (by decide) ?_
            refine Ev_ior hq_197 (show decode prog_7_method_71_code 121 = .ok (.ior, 1) by decide +kernel) ?_
            obtain ⟨y40, ey40⟩ : ∃ y40 : Int32, y40 = (x7 ||| 0) := ⟨_, rfl⟩
            have k := k y40 ey40
            rw [← ey40]
            refine Ev_istore (lo2 := [.ref 57, .int x1, .int x2, .int x3, .int x4, .int x5, .int x6, .int y40, .int x8]) hq_197 (show decode prog_7_method_71_code 122 = .ok (.istore 7, 2) by decide +kernel) (z_le rfl) rfl ?_
            obtain ⟨y41, ey41⟩ : ∃ y41 : Int32, y41 = x8 + 1 := ⟨_, rfl⟩
            have k := k y41 ey41
            refine Ev_iinc (v := y41) (lo2 := [.ref 57, .int x1, .int x2, .int x3, .int x4, .int x5, .int x6, .int y40, .int y41]) hq_197 (show decode prog_7_method_71_code 124 = .ok (.iinc 8 1, 3) by decide +kernel) rfl (by rw [ey41]; rfl) rfl ?_
            refine Ev_goto (tgt := 50) hq_197 (show decode prog_7_method_71_code 127 = .ok (.goto (-77), 3) by decide +kernel) (by decide) ?_
            exact k
          · have k := k.2 (Classical.not_not.mp c39)
            refine Ev_iconst (v := 1) hq_197 (show decode prog_7_method_71_code 113 = .ok (.iconst 1, 1) by decide +kernel) (by decide) ?_
            refine Ev_iload hq_197 (show decode prog_7_method_71_code 114 = .ok (.iload 8, 2) by decide +kernel) rfl ?_
            refine Ev_ishl hq_197 (show decode prog_7_method_71_code 116 = .ok (.ishl, 1) by decide +kernel) ?_
            refine Ev_goto (tgt := 121) hq_197 (show decode prog_7_method_71_code 117 = .ok (.goto 4, 3) by decide +kernel) (by decide) ?_
            refine Ev_ior hq_197 (show decode prog_7_method_71_code 121 = .ok (.ior, 1) by decide +kernel) ?_
            obtain ⟨y42, ey42⟩ : ∃ y42 : Int32, y42 = (x7 ||| (1 <<< (x8 &&& 31))) := ⟨_, rfl⟩
            have k := k y42 ey42
            rw [← ey42]
            refine Ev_istore (lo2 := [.ref 57, .int x1, .int x2, .int x3, .int x4, .int x5, .int x6, .int y42, .int x8]) hq_197 (show decode prog_7_method_71_code 122 = .ok (.istore 7, 2) by decide +kernel) (z_le rfl) rfl ?_
            obtain ⟨y43, ey43⟩ : ∃ y43 : Int32, y43 = x8 + 1 := ⟨_, rfl⟩
            have k := k y43 ey43
            refine Ev_iinc (v := y43) (lo2 := [.ref 57, .int x1, .int x2, .int x3, .int x4, .int x5, .int x6, .int y42, .int y43]) hq_197 (show decode prog_7_method_71_code 124 = .ok (.iinc 8 1, 3) by decide +kernel) rfl (by rw [ey43]; rfl) rfl ?_
            refine Ev_goto (tgt := 50) hq_197 (show decode prog_7_method_71_code 127 = .ok (.goto (-77), 3) by decide +kernel) (by decide) ?_
            exact k
        · have k := k.2 (Classical.not_not.mp c33)
          refine Ev_iload hq_197 (show decode prog_7_method_71_code 93 = .ok (.iload 8, 2) by decide +kernel) rfl ?_
          refine Ev_goto (tgt := 100) hq_197 (show decode prog_7_method_71_code 95 = .ok (.goto 5, 3) by decide +kernel) (by decide) ?_
          obtain ⟨h44, k⟩ := k
          refine Ev_iast hq_197 (show decode prog_7_method_71_code 100 = .ok (.iastore, 1) by decide +kernel) (SGn hS (by decide)) (SGk hS rfl) (SGi hS rfl h44) ?_
          obtain ⟨I45, eI45⟩ : ∃ I45 : zI, I45 = z_up I32 59 x2.toNatClampNeg x8 := ⟨_, rfl⟩
          have k := k I45 eI45
          rw [← eI45]
          refine Ev_iload hq_197 (show decode prog_7_method_71_code 101 = .ok (.iload 7, 2) by decide +kernel) rfl ?_
          refine Ev_aload_n hq_197 (show decode prog_7_method_71_code 103 = .ok (.aload_n 0, 1) by decide +kernel) rfl ?_
          refine Ev_iload_n hq_197 (show decode prog_7_method_71_code 104 = .ok (.iload_n 1, 1) by decide +kernel) rfl ?_
          refine Ev_iload_n hq_197 (show decode prog_7_method_71_code 105 = .ok (.iload_n 2, 1) by decide +kernel) rfl ?_
          obtain ⟨r48, I46, h47, k⟩ := k
          refine Ev_virt (as := [.int x1, .int x2]) hq_197 (show decode prog_7_method_71_code 106 = .ok (.invokevirtual 260, 3) by decide +kernel) rfl hq_194 rfl (z_le rfl) ⟨(SGn hS (by decide)), (SGk hS rfl), by decide⟩ h47 ?_
          refine Ev_iconst (v := (-1)) hq_197 (show decode prog_7_method_71_code 109 = .ok (.iconst (-1), 1) by decide +kernel) (by decide) ?_
          refine Ev_icmp_ne (tgt := 120) hq_197 (show decode prog_7_method_71_code 110 = .ok (.if_icmp .ne 10, 3) by decide +kernel) (by decide) (fun c49 => ?_) (fun c49 => ?_)
          · have k := k.1 c49
            refine Ev_iconst (v := 0) hq_197 (show decode prog_7_method_71_code 120 = .ok (.iconst 0, 1) by decide +kernel) (by decide) ?_
            refine Ev_ior hq_197 (show decode prog_7_method_71_code 121 = .ok (.ior, 1) by decide +kernel) ?_
            obtain ⟨y50, ey50⟩ : ∃ y50 : Int32, y50 = (x7 ||| 0) := ⟨_, rfl⟩
            have k := k y50 ey50
            rw [← ey50]
            refine Ev_istore (lo2 := [.ref 57, .int x1, .int x2, .int x3, .int x4, .int x5, .int x6, .int y50, .int x8]) hq_197 (show decode prog_7_method_71_code 122 = .ok (.istore 7, 2) by decide +kernel) (z_le rfl) rfl ?_
            obtain ⟨y51, ey51⟩ : ∃ y51 : Int32, y51 = x8 + 1 := ⟨_, rfl⟩
            have k := k y51 ey51
            refine Ev_iinc (v := y51) (lo2 := [.ref 57, .int x1, .int x2, .int x3, .int x4, .int x5, .int x6, .int y50, .int y51]) hq_197 (show decode prog_7_method_71_code 124 = .ok (.iinc 8 1, 3) by decide +kernel) rfl (by rw [ey51]; rfl) rfl ?_
            refine Ev_goto (tgt := 50) hq_197 (show decode prog_7_method_71_code 127 = .ok (.goto (-77), 3) by decide +kernel) (by decide) ?_
            exact k
          · have k := k.2 (Classical.not_not.mp c49)
            refine Ev_iconst (v := 1) hq_197 (show decode prog_7_method_71_code 113 = .ok (.iconst 1, 1) by decide +kernel) (by decide) ?_
            refine Ev_iload hq_197 (show decode prog_7_method_71_code 114 = .ok (.iload 8, 2) by decide +kernel) rfl ?_
            refine Ev_ishl hq_197 (show decode prog_7_method_71_code 116 = .ok (.ishl, 1) by decide +kernel) ?_
            refine Ev_goto (tgt := 121) hq_197 (show decode prog_7_method_71_code 117 = .ok (.goto 4, 3) by decide +kernel) (by decide) ?_
            refine Ev_ior hq_197 (show decode prog_7_method_71_code 121 = .ok (.ior, 1) by decide +kernel) ?_
            obtain ⟨y52, ey52⟩ : ∃ y52 : Int32, y52 = (x7 ||| (1 <<< (x8 &&& 31))) := ⟨_, rfl⟩
            have k := k y52 ey52
            rw [← ey52]
            refine Ev_istore (lo2 := [.ref 57, .int x1, .int x2, .int x3, .int x4, .int x5, .int x6, .int y52, .int x8]) hq_197 (show decode prog_7_method_71_code 122 = .ok (.istore 7, 2) by decide +kernel) (z_le rfl) rfl ?_
            obtain ⟨y53, ey53⟩ : ∃ y53 : Int32, y53 = x8 + 1 := ⟨_, rfl⟩
            have k := k y53 ey53
            refine Ev_iinc (v := y53) (lo2 := [.ref 57, .int x1, .int x2, .int x3, .int x4, .int x5, .int x6, .int y52, .int y53]) hq_197 (show decode prog_7_method_71_code 124 = .ok (.iinc 8 1, 3) by decide +kernel) rfl (by rw [ey53]; rfl) rfl ?_
            refine Ev_goto (tgt := 50) hq_197 (show decode prog_7_method_71_code 127 = .ok (.goto (-77), 3) by decide +kernel) (by decide) ?_
            exact k
  · have k := k.2 (Classical.not_not.mp c1)
    refine Ev_bipush (v := 6) hq_197 (show decode prog_7_method_71_code 56 = .ok (.bipush 6, 2) by decide +kernel) (by decide) ?_
    refine Ev_goto (tgt := 63) hq_197 (show decode prog_7_method_71_code 58 = .ok (.goto 5, 3) by decide +kernel) (by decide) ?_
    refine Ev_icmp_ge (tgt := 130) hq_197 (show decode prog_7_method_71_code 63 = .ok (.if_icmp .ge 67, 3) by decide +kernel) (by decide) (fun c54 => ?_) (fun c54 => ?_)
    · have k := k.1 c54
      refine Ev_aload_n hq_197 (show decode prog_7_method_71_code 130 = .ok (.aload_n 0, 1) by decide +kernel) rfl ?_
      refine Ev_getR hq_197 (show decode prog_7_method_71_code 131 = .ok (.getfield 7, 3) by decide +kernel) rfl (SGn hS (by decide)) (SGk hS rfl) (by decide) rfl (SGr hS rfl) ?_
      refine Ev_iload_n hq_197 (show decode prog_7_method_71_code 134 = .ok (.iload_n 2, 1) by decide +kernel) rfl ?_
      refine Ev_iload hq_197 (show decode prog_7_method_71_code 135 = .ok (.iload 5, 2) by decide +kernel) rfl ?_
      obtain ⟨h55, k⟩ := k
      refine Ev_iast hq_197 (show decode prog_7_method_71_code 137 = .ok (.iastore, 1) by decide +kernel) (SGn hS (by decide)) (SGk hS rfl) (SGi hS rfl h55) ?_
      obtain ⟨I56, eI56⟩ : ∃ I56 : zI, I56 = z_up I 58 x2.toNatClampNeg x5 := ⟨_, rfl⟩
      have k := k I56 eI56
      rw [← eI56]
      refine Ev_aload_n hq_197 (show decode prog_7_method_71_code 138 = .ok (.aload_n 0, 1) by decide +kernel) rfl ?_
      refine Ev_getR hq_197 (show decode prog_7_method_71_code 139 = .ok (.getfield 13, 3) by decide +kernel) rfl (SGn hS (by decide)) (SGk hS rfl) (by decide) rfl (SGr hS rfl) ?_
      refine Ev_iload_n hq_197 (show decode prog_7_method_71_code 142 = .ok (.iload_n 2, 1) by decide +kernel) rfl ?_
      refine Ev_iload hq_197 (show decode prog_7_method_71_code 143 = .ok (.iload 6, 2) by decide +kernel) rfl ?_
      obtain ⟨h57, k⟩ := k
      refine Ev_iast hq_197 (show decode prog_7_method_71_code 145 = .ok (.iastore, 1) by decide +kernel) (SGn hS (by decide)) (SGk hS rfl) (SGi hS rfl h57) ?_
      obtain ⟨I58, eI58⟩ : ∃ I58 : zI, I58 = z_up I56 59 x2.toNatClampNeg x6 := ⟨_, rfl⟩
      have k := k I58 eI58
      rw [← eI58]
      refine Ev_iload hq_197 (show decode prog_7_method_71_code 146 = .ok (.iload 7, 2) by decide +kernel) rfl ?_
      exact Ev_iret hq_197 (show decode prog_7_method_71_code 148 = .ok (.ireturn, 1) by decide +kernel) rfl k
    · have k := k.2 c54
      refine Ev_aload_n hq_197 (show decode prog_7_method_71_code 66 = .ok (.aload_n 0, 1) by decide +kernel) rfl ?_
      refine Ev_getR hq_197 (show decode prog_7_method_71_code 67 = .ok (.getfield 7, 3) by decide +kernel) rfl (SGn hS (by decide)) (SGk hS rfl) (by decide) rfl (SGr hS rfl) ?_
      refine Ev_iload_n hq_197 (show decode prog_7_method_71_code 70 = .ok (.iload_n 2, 1) by decide +kernel) rfl ?_
      refine Ev_iload_n hq_197 (show decode prog_7_method_71_code 71 = .ok (.iload_n 3, 1) by decide +kernel) rfl ?_
      refine Ev_if_ne (tgt := 80) hq_197 (show decode prog_7_method_71_code 72 = .ok (.ifCond .ne 8, 3) by decide +kernel) (by decide) (fun c59 => ?_) (fun c59 => ?_)
      · have k := k.1 c59
        refine Ev_iload hq_197 (show decode prog_7_method_71_code 80 = .ok (.iload 5, 2) by decide +kernel) rfl ?_
        obtain ⟨h60, k⟩ := k
        refine Ev_iast hq_197 (show decode prog_7_method_71_code 82 = .ok (.iastore, 1) by decide +kernel) (SGn hS (by decide)) (SGk hS rfl) (SGi hS rfl h60) ?_
        obtain ⟨I61, eI61⟩ : ∃ I61 : zI, I61 = z_up I 58 x2.toNatClampNeg x5 := ⟨_, rfl⟩
        have k := k I61 eI61
        rw [← eI61]
        refine Ev_aload_n hq_197 (show decode prog_7_method_71_code 83 = .ok (.aload_n 0, 1) by decide +kernel) rfl ?_
        refine Ev_getR hq_197 (show decode prog_7_method_71_code 84 = .ok (.getfield 13, 3) by decide +kernel) rfl (SGn hS (by decide)) (SGk hS rfl) (by decide) rfl (SGr hS rfl) ?_
        refine Ev_iload_n hq_197 (show decode prog_7_method_71_code 87 = .ok (.iload_n 2, 1) by decide +kernel) rfl ?_
        refine Ev_iload_n hq_197 (show decode prog_7_method_71_code 88 = .ok (.iload_n 3, 1) by decide +kernel) rfl ?_
        refine Ev_iconst (v := 1) hq_197 (show decode prog_7_method_71_code 89 = .ok (.iconst 1, 1) by decide +kernel) (by decide) ?_
        refine Ev_icmp_ne (tgt := 98) hq_197 (show decode prog_7_method_71_code 90 = .ok (.if_icmp .ne 8, 3) by decide +kernel) (by decide) (fun c62 => ?_) (fun c62 => ?_)
        · have k := k.1 c62
          refine Ev_iload hq_197 (show decode prog_7_method_71_code 98 = .ok (.iload 6, 2) by decide +kernel) rfl ?_
          obtain ⟨h63, k⟩ := k
          refine Ev_iast hq_197 (show decode prog_7_method_71_code 100 = .ok (.iastore, 1) by decide +kernel) (SGn hS (by decide)) (SGk hS rfl) (SGi hS rfl h63) ?_
          obtain ⟨I64, eI64⟩ : ∃ I64 : zI, I64 = z_up I61 59 x2.toNatClampNeg x6 := ⟨_, rfl⟩
          have k := k I64 eI64
          rw [← eI64]
          refine Ev_iload hq_197 (show decode prog_7_method_71_code 101 = .ok (.iload 7, 2) by decide +kernel) rfl ?_
          refine Ev_aload_n hq_197 (show decode prog_7_method_71_code 103 = .ok (.aload_n 0, 1) by decide +kernel) rfl ?_
          refine Ev_iload_n hq_197 (show decode prog_7_method_71_code 104 = .ok (.iload_n 1, 1) by decide +kernel) rfl ?_
          refine Ev_iload_n hq_197 (show decode prog_7_method_71_code 105 = .ok (.iload_n 2, 1) by decide +kernel) rfl ?_
          obtain ⟨r67, I65, h66, k⟩ := k
          refine Ev_virt (as := [.int x1, .int x2]) hq_197 (show decode prog_7_method_71_code 106 = .ok (.invokevirtual 260, 3) by decide +kernel) rfl hq_194 rfl (z_le rfl) ⟨(SGn hS (by decide)), (SGk hS rfl), by decide⟩ h66 ?_
          refine Ev_iconst (v := (-1)) hq_197 (show decode prog_7_method_71_code 109 = .ok (.iconst (-1), 1) by decide +kernel) (by decide) ?_
          refine Ev_icmp_ne (tgt := 120) hq_197 (show decode prog_7_method_71_code 110 = .ok (.if_icmp .ne 10, 3) by decide +kernel) (by decide) (fun c68 => ?_) (fun c68 => ?_)
          · have k := k.1 c68
            refine Ev_iconst (v := 0) hq_197 (show decode prog_7_method_71_code 120 = .ok (.iconst 0, 1) by decide +kernel) (by decide) ?_
            refine Ev_ior hq_197 (show decode prog_7_method_71_code 121 = .ok (.ior, 1) by decide +kernel) ?_
            obtain ⟨y69, ey69⟩ : ∃ y69 : Int32, y69 = (x7 ||| 0) := ⟨_, rfl⟩
            have k := k y69 ey69
            rw [← ey69]
            refine Ev_istore (lo2 := [.ref 57, .int x1, .int x2, .int x3, .int x4, .int x5, .int x6, .int y69, .int x8]) hq_197 (show decode prog_7_method_71_code 122 = .ok (.istore 7, 2) by decide +kernel) (z_le rfl) rfl ?_
            obtain ⟨y70, ey70⟩ : ∃ y70 : Int32, y70 = x8 + 1 := ⟨_, rfl⟩
            have k := k y70 ey70
            refine Ev_iinc (v := y70) (lo2 := [.ref 57, .int x1, .int x2, .int x3, .int x4, .int x5, .int x6, .int y69, .int y70]) hq_197 (show decode prog_7_method_71_code 124 = .ok (.iinc 8 1, 3) by decide +kernel) rfl (by rw [ey70]; rfl) rfl ?_
            refine Ev_goto (tgt := 50) hq_197 (show decode prog_7_method_71_code 127 = .ok (.goto (-77), 3) by decide +kernel) (by decide) ?_
            exact k
          · have k := k.2 (Classical.not_not.mp c68)
            refine Ev_iconst (v := 1) hq_197 (show decode prog_7_method_71_code 113 = .ok (.iconst 1, 1) by decide +kernel) (by decide) ?_
            refine Ev_iload hq_197 (show decode prog_7_method_71_code 114 = .ok (.iload 8, 2) by decide +kernel) rfl ?_
            refine Ev_ishl hq_197 (show decode prog_7_method_71_code 116 = .ok (.ishl, 1) by decide +kernel) ?_
            refine Ev_goto (tgt := 121) hq_197 (show decode prog_7_method_71_code 117 = .ok (.goto 4, 3) by decide +kernel) (by decide) ?_
            refine Ev_ior hq_197 (show decode prog_7_method_71_code 121 = .ok (.ior, 1) by decide +kernel) ?_
            obtain ⟨y71, ey71⟩ : ∃ y71 : Int32, y71 = (x7 ||| (1 <<< (x8 &&& 31))) := ⟨_, rfl⟩
            have k := k y71 ey71
            rw [← ey71]
            refine Ev_istore (lo2 := [.ref 57, .int x1, .int x2, .int x3, .int x4, .int x5, .int x6, .int y71, .int x8]) hq_197 (show decode prog_7_method_71_code 122 = .ok (.istore 7, 2) by decide +kernel) (z_le rfl) rfl ?_
            obtain ⟨y72, ey72⟩ : ∃ y72 : Int32, y72 = x8 + 1 := ⟨_, rfl⟩
            have k := k y72 ey72
            refine Ev_iinc (v := y72) (lo2 := [.ref 57, .int x1, .int x2, .int x3, .int x4, .int x5, .int x6, .int y71, .int y72]) hq_197 (show decode prog_7_method_71_code 124 = .ok (.iinc 8 1, 3) by decide +kernel) rfl (by rw [ey72]; rfl) rfl ?_
            refine Ev_goto (tgt := 50) hq_197 (show decode prog_7_method_71_code 127 = .ok (.goto (-77), 3) by decide +kernel) (by decide) ?_
            exact k
        · have k := k.2 (Classical.not_not.mp c62)
          refine Ev_iload hq_197 (show decode prog_7_method_71_code 93 = .ok (.iload 8, 2) by decide +kernel) rfl ?_
          refine Ev_goto (tgt := 100) hq_197 (show decode prog_7_method_71_code 95 = .ok (.goto 5, 3) by decide +kernel) (by decide) ?_
          obtain ⟨h73, k⟩ := k
          refine Ev_iast hq_197 (show decode prog_7_method_71_code 100 = .ok (.iastore, 1) by decide +kernel) (SGn hS (by decide)) (SGk hS rfl) (SGi hS rfl h73) ?_
          obtain ⟨I74, eI74⟩ : ∃ I74 : zI, I74 = z_up I61 59 x2.toNatClampNeg x8 := ⟨_, rfl⟩
          have k := k I74 eI74
          rw [← eI74]
          refine Ev_iload hq_197 (show decode prog_7_method_71_code 101 = .ok (.iload 7, 2) by decide +kernel) rfl ?_
          refine Ev_aload_n hq_197 (show decode prog_7_method_71_code 103 = .ok (.aload_n 0, 1) by decide +kernel) rfl ?_
          refine Ev_iload_n hq_197 (show decode prog_7_method_71_code 104 = .ok (.iload_n 1, 1) by decide +kernel) rfl ?_
          refine Ev_iload_n hq_197 (show decode prog_7_method_71_code 105 = .ok (.iload_n 2, 1) by decide +kernel) rfl ?_
          obtain ⟨r77, I75, h76, k⟩ := k
          refine Ev_virt (as := [.int x1, .int x2]) hq_197 (show decode prog_7_method_71_code 106 = .ok (.invokevirtual 260, 3) by decide +kernel) rfl hq_194 rfl (z_le rfl) ⟨(SGn hS (by decide)), (SGk hS rfl), by decide⟩ h76 ?_
          refine Ev_iconst (v := (-1)) hq_197 (show decode prog_7_method_71_code 109 = .ok (.iconst (-1), 1) by decide +kernel) (by decide) ?_
          refine Ev_icmp_ne (tgt := 120) hq_197 (show decode prog_7_method_71_code 110 = .ok (.if_icmp .ne 10, 3) by decide +kernel) (by decide) (fun c78 => ?_) (fun c78 => ?_)
          · have k := k.1 c78
            refine Ev_iconst (v := 0) hq_197 (show decode prog_7_method_71_code 120 = .ok (.iconst 0, 1) by decide +kernel) (by decide) ?_
            refine Ev_ior hq_197 (show decode prog_7_method_71_code 121 = .ok (.ior, 1) by decide +kernel) ?_
            obtain ⟨y79, ey79⟩ : ∃ y79 : Int32, y79 = (x7 ||| 0) := ⟨_, rfl⟩
            have k := k y79 ey79
            rw [← ey79]
            refine Ev_istore (lo2 := [.ref 57, .int x1, .int x2, .int x3, .int x4, .int x5, .int x6, .int y79, .int x8]) hq_197 (show decode prog_7_method_71_code 122 = .ok (.istore 7, 2) by decide +kernel) (z_le rfl) rfl ?_
            obtain ⟨y80, ey80⟩ : ∃ y80 : Int32, y80 = x8 + 1 := ⟨_, rfl⟩
            have k := k y80 ey80
            refine Ev_iinc (v := y80) (lo2 := [.ref 57, .int x1, .int x2, .int x3, .int x4, .int x5, .int x6, .int y79, .int y80]) hq_197 (show decode prog_7_method_71_code 124 = .ok (.iinc 8 1, 3) by decide +kernel) rfl (by rw [ey80]; rfl) rfl ?_
            refine Ev_goto (tgt := 50) hq_197 (show decode prog_7_method_71_code 127 = .ok (.goto (-77), 3) by decide +kernel) (by decide) ?_
            exact k
          · have k := k.2 (Classical.not_not.mp c78)
            refine Ev_iconst (v := 1) hq_197 (show decode prog_7_method_71_code 113 = .ok (.iconst 1, 1) by decide +kernel) (by decide) ?_
            refine Ev_iload hq_197 (show decode prog_7_method_71_code 114 = .ok (.iload 8, 2) by decide +kernel) rfl ?_
            refine Ev_ishl hq_197 (show decode prog_7_method_71_code 116 = .ok (.ishl, 1) by decide +kernel) ?_
            refine Ev_goto (tgt := 121) hq_197 (show decode prog_7_method_71_code 117 = .ok (.goto 4, 3) by decide +kernel) (by decide) ?_
            refine Ev_ior hq_197 (show decode prog_7_method_71_code 121 = .ok (.ior, 1) by decide +kernel) ?_
            obtain ⟨y81, ey81⟩ : ∃ y81 : Int32, y81 = (x7 ||| (1 <<< (x8 &&& 31))) := ⟨_, rfl⟩
            have k := k y81 ey81
            rw [← ey81]
            refine Ev_istore (lo2 := [.ref 57, .int x1, .int x2, .int x3, .int x4, .int x5, .int x6, .int y81, .int x8]) hq_197 (show decode prog_7_method_71_code 122 = .ok (.istore 7, 2) by decide +kernel) (z_le rfl) rfl ?_
            obtain ⟨y82, ey82⟩ : ∃ y82 : Int32, y82 = x8 + 1 := ⟨_, rfl⟩
            have k := k y82 ey82
            refine Ev_iinc (v := y82) (lo2 := [.ref 57, .int x1, .int x2, .int x3, .int x4, .int x5, .int x6, .int y81, .int y82]) hq_197 (show decode prog_7_method_71_code 124 = .ok (.iinc 8 1, 3) by decide +kernel) rfl (by rw [ey82]; rfl) rfl ?_
            refine Ev_goto (tgt := 50) hq_197 (show decode prog_7_method_71_code 127 = .ok (.goto (-77), 3) by decide +kernel) (by decide) ?_
            exact k
      · have k := k.2 (Classical.not_not.mp c59)
        refine Ev_iload hq_197 (show decode prog_7_method_71_code 75 = .ok (.iload 8, 2) by decide +kernel) rfl ?_
        refine Ev_goto (tgt := 82) hq_197 (show decode prog_7_method_71_code 77 = .ok (.goto 5, 3) by decide +kernel) (by decide) ?_
        obtain ⟨h83, k⟩ := k
        refine Ev_iast hq_197 (show decode prog_7_method_71_code 82 = .ok (.iastore, 1) by decide +kernel) (SGn hS (by decide)) (SGk hS rfl) (SGi hS rfl h83) ?_
        obtain ⟨I84, eI84⟩ : ∃ I84 : zI, I84 = z_up I 58 x2.toNatClampNeg x8 := ⟨_, rfl⟩
        have k := k I84 eI84
        rw [← eI84]
        refine Ev_aload_n hq_197 (show decode prog_7_method_71_code 83 = .ok (.aload_n 0, 1) by decide +kernel) rfl ?_
        refine Ev_getR hq_197 (show decode prog_7_method_71_code 84 = .ok (.getfield 13, 3) by decide +kernel) rfl (SGn hS (by decide)) (SGk hS rfl) (by decide) rfl (SGr hS rfl) ?_
        refine Ev_iload_n hq_197 (show decode prog_7_method_71_code 87 = .ok (.iload_n 2, 1) by decide +kernel) rfl ?_
        refine Ev_iload_n hq_197 (show decode prog_7_method_71_code 88 = .ok (.iload_n 3, 1) by decide +kernel) rfl ?_
        refine Ev_iconst (v := 1) hq_197 (show decode prog_7_method_71_code 89 = .ok (.iconst 1, 1) by decide +kernel) (by decide) ?_
        refine Ev_icmp_ne (tgt := 98) hq_197 (show decode prog_7_method_71_code 90 = .ok (.if_icmp .ne 8, 3) by decide +kernel) (by decide) (fun c85 => ?_) (fun c85 => ?_)
        · have k := k.1 c85
          refine Ev_iload hq_197 (show decode prog_7_method_71_code 98 = .ok (.iload 6, 2) by decide +kernel) rfl ?_
          obtain ⟨h86, k⟩ := k
          refine Ev_iast hq_197 (show decode prog_7_method_71_code 100 = .ok (.iastore, 1) by decide +kernel) (SGn hS (by decide)) (SGk hS rfl) (SGi hS rfl h86) ?_
          obtain ⟨I87, eI87⟩ : ∃ I87 : zI, I87 = z_up I84 59 x2.toNatClampNeg x6 := ⟨_, rfl⟩
          have k := k I87 eI87
          rw [← eI87]
          refine Ev_iload hq_197 (show decode prog_7_method_71_code 101 = .ok (.iload 7, 2) by decide +kernel) rfl ?_
          refine Ev_aload_n hq_197 (show decode prog_7_method_71_code 103 = .ok (.aload_n 0, 1) by decide +kernel) rfl ?_
          refine Ev_iload_n hq_197 (show decode prog_7_method_71_code 104 = .ok (.iload_n 1, 1) by decide +kernel) rfl ?_
          refine Ev_iload_n hq_197 (show decode prog_7_method_71_code 105 = .ok (.iload_n 2, 1) by decide +kernel) rfl ?_
          obtain ⟨r90, I88, h89, k⟩ := k
          refine Ev_virt (as := [.int x1, .int x2]) hq_197 (show decode prog_7_method_71_code 106 = .ok (.invokevirtual 260, 3) by decide +kernel) rfl hq_194 rfl (z_le rfl) ⟨(SGn hS (by decide)), (SGk hS rfl), by decide⟩ h89 ?_
          refine Ev_iconst (v := (-1)) hq_197 (show decode prog_7_method_71_code 109 = .ok (.iconst (-1), 1) by decide +kernel) (by decide) ?_
          refine Ev_icmp_ne (tgt := 120) hq_197 (show decode prog_7_method_71_code 110 = .ok (.if_icmp .ne 10, 3) by decide +kernel) (by decide) (fun c91 => ?_) (fun c91 => ?_)
          · have k := k.1 c91
            refine Ev_iconst (v := 0) hq_197 (show decode prog_7_method_71_code 120 = .ok (.iconst 0, 1) by decide +kernel) (by decide) ?_
            refine Ev_ior hq_197 (show decode prog_7_method_71_code 121 = .ok (.ior, 1) by decide +kernel) ?_
            obtain ⟨y92, ey92⟩ : ∃ y92 : Int32, y92 = (x7 ||| 0) := ⟨_, rfl⟩
            have k := k y92 ey92
            rw [← ey92]
            refine Ev_istore (lo2 := [.ref 57, .int x1, .int x2, .int x3, .int x4, .int x5, .int x6, .int y92, .int x8]) hq_197 (show decode prog_7_method_71_code 122 = .ok (.istore 7, 2) by decide +kernel) (z_le rfl) rfl ?_
            obtain ⟨y93, ey93⟩ : ∃ y93 : Int32, y93 = x8 + 1 := ⟨_, rfl⟩
            have k := k y93 ey93
            refine Ev_iinc (v := y93) (lo2 := [.ref 57, .int x1, .int x2, .int x3, .int x4, .int x5, .int x6, .int y92, .int y93]) hq_197 (show decode prog_7_method_71_code 124 = .ok (.iinc 8 1, 3) by decide +kernel) rfl (by rw [ey93]; rfl) rfl ?_
            refine Ev_goto (tgt := 50) hq_197 (show decode prog_7_method_71_code 127 = .ok (.goto (-77), 3) by decide +kernel) (by decide) ?_
            exact k
          · have k := k.2 (Classical.not_not.mp c91)
            refine Ev_iconst (v := 1) hq_197 (show decode prog_7_method_71_code 113 = .ok (.iconst 1, 1) by decide +kernel) (by decide) ?_
            refine Ev_iload hq_197 (show decode prog_7_method_71_code 114 = .ok (.iload 8, 2) by decide +kernel) rfl ?_
            refine Ev_ishl hq_197 (show decode prog_7_method_71_code 116 = .ok (.ishl, 1) by decide +kernel) ?_
            refine Ev_goto (tgt := 121) hq_197 (show decode prog_7_method_71_code 117 = .ok (.goto 4, 3) by decide +kernel) (by decide) ?_
            refine Ev_ior hq_197 (show decode prog_7_method_71_code 121 = .ok (.ior, 1) by decide +kernel) ?_
            obtain ⟨y94, ey94⟩ : ∃ y94 : Int32, y94 = (x7 ||| (1 <<< (x8 &&& 31))) := ⟨_, rfl⟩
            have k := k y94 ey94
            rw [← ey94]
            refine Ev_istore (lo2 := [.ref 57, .int x1, .int x2, .int x3, .int x4, .int x5, .int x6, .int y94, .int x8]) hq_197 (show decode prog_7_method_71_code 122 = .ok (.istore 7, 2) by decide +kernel) (z_le rfl) rfl ?_
            obtain ⟨y95, ey95⟩ : ∃ y95 : Int32, y95 = x8 + 1 := ⟨_, rfl⟩
            have k := k y95 ey95
            refine Ev_iinc (v := y95) (lo2 := [.ref 57, .int x1, .int x2, .int x3, .int x4, .int x5, .int x6, .int y94, .int y95]) hq_197 (show decode prog_7_method_71_code 124 = .ok (.iinc 8 1, 3) by decide +kernel) rfl (by rw [ey95]; rfl) rfl ?_
            refine Ev_goto (tgt := 50) hq_197 (show decode prog_7_method_71_code 127 = .ok (.goto (-77), 3) by decide +kernel) (by decide) ?_
            exact k
        · have k := k.2 (Classical.not_not.mp c85)
          refine Ev_iload hq_197 (show decode prog_7_method_71_code 93 = .ok (.iload 8, 2) by decide +kernel) rfl ?_
          refine Ev_goto (tgt := 100) hq_197 (show decode prog_7_method_71_code 95 = .ok (.goto 5, 3) by decide +kernel) (by decide) ?_
          obtain ⟨h96, k⟩ := k
          refine Ev_iast hq_197 (show decode prog_7_method_71_code 100 = .ok (.iastore, 1) by decide +kernel) (SGn hS (by decide)) (SGk hS rfl) (SGi hS rfl h96) ?_
          obtain ⟨I97, eI97⟩ : ∃ I97 : zI, I97 = z_up I84 59 x2.toNatClampNeg x8 := ⟨_, rfl⟩
          have k := k I97 eI97
          rw [← eI97]
          refine Ev_iload hq_197 (show decode prog_7_method_71_code 101 = .ok (.iload 7, 2) by decide +kernel) rfl ?_
          refine Ev_aload_n hq_197 (show decode prog_7_method_71_code 103 = .ok (.aload_n 0, 1) by decide +kernel) rfl ?_
          refine Ev_iload_n hq_197 (show decode prog_7_method_71_code 104 = .ok (.iload_n 1, 1) by decide +kernel) rfl ?_
          refine Ev_iload_n hq_197 (show decode prog_7_method_71_code 105 = .ok (.iload_n 2, 1) by decide +kernel) rfl ?_
          obtain ⟨r100, I98, h99, k⟩ := k
          refine Ev_virt (as := [.int x1, .int x2]) hq_197 (show decode prog_7_method_71_code 106 = .ok (.invokevirtual 260, 3) by decide +kernel) rfl hq_194 rfl (z_le rfl) ⟨(SGn hS (by decide)), (SGk hS rfl), by decide⟩ h99 ?_
          refine Ev_iconst (v := (-1)) hq_197 (show decode prog_7_method_71_code 109 = .ok (.iconst (-1), 1) by decide +kernel) (by decide) ?_
          refine Ev_icmp_ne (tgt := 120) hq_197 (show decode prog_7_method_71_code 110 = .ok (.if_icmp .ne 10, 3) by decide +kernel) (by decide) (fun c101 => ?_) (fun c101 => ?_)
          · have k := k.1 c101
            refine Ev_iconst (v := 0) hq_197 (show decode prog_7_method_71_code 120 = .ok (.iconst 0, 1) by decide +kernel) (by decide) ?_
            refine Ev_ior hq_197 (show decode prog_7_method_71_code 121 = .ok (.ior, 1) by decide +kernel) ?_
            obtain ⟨y102, ey102⟩ : ∃ y102 : Int32, y102 = (x7 ||| 0) := ⟨_, rfl⟩
            have k := k y102 ey102
            rw [← ey102]
            refine Ev_istore (lo2 := [.ref 57, .int x1, .int x2, .int x3, .int x4, .int x5, .int x6, .int y102, .int x8]) hq_197 (show decode prog_7_method_71_code 122 = .ok (.istore 7, 2) by decide +kernel) (z_le rfl) rfl ?_
            obtain ⟨y103, ey103⟩ : ∃ y103 : Int32, y103 = x8 + 1 := ⟨_, rfl⟩
            have k := k y103 ey103
            refine Ev_iinc (v := y103) (lo2 := [.ref 57, .int x1, .int x2, .int x3, .int x4, .int x5, .int x6, .int y102, .int y103]) hq_197 (show decode prog_7_method_71_code 124 = .ok (.iinc 8 1, 3) by decide +kernel) rfl (by rw [ey103]; rfl) rfl ?_
            refine Ev_goto (tgt := 50) hq_197 (show decode prog_7_method_71_code 127 = .ok (.goto (-77), 3) by decide +kernel) (by decide) ?_
            exact k
          · have k := k.2 (Classical.not_not.mp c101)
            refine Ev_iconst (v := 1) hq_197 (show decode prog_7_method_71_code 113 = .ok (.iconst 1, 1) by decide +kernel) (by decide) ?_
            refine Ev_iload hq_197 (show decode prog_7_method_71_code 114 = .ok (.iload 8, 2) by decide +kernel) rfl ?_
            refine Ev_ishl hq_197 (show decode prog_7_method_71_code 116 = .ok (.ishl, 1) by decide +kernel) ?_
            refine Ev_goto (tgt := 121) hq_197 (show decode prog_7_method_71_code 117 = .ok (.goto 4, 3) by decide +kernel) (by decide) ?_
            refine Ev_ior hq_197 (show decode prog_7_method_71_code 121 = .ok (.ior, 1) by decide +kernel) ?_
            obtain ⟨y104, ey104⟩ : ∃ y104 : Int32, y104 = (x7 ||| (1 <<< (x8 &&& 31))) := ⟨_, rfl⟩
            have k := k y104 ey104
            rw [← ey104]
            refine Ev_istore (lo2 := [.ref 57, .int x1, .int x2, .int x3, .int x4, .int x5, .int x6, .int y104, .int x8]) hq_197 (show decode prog_7_method_71_code 122 = .ok (.istore 7, 2) by decide +kernel) (z_le rfl) rfl ?_
            obtain ⟨y105, ey105⟩ : ∃ y105 : Int32, y105 = x8 + 1 := ⟨_, rfl⟩
            have k := k y105 ey105
            refine Ev_iinc (v := y105) (lo2 := [.ref 57, .int x1, .int x2, .int x3, .int x4, .int x5, .int x6, .int y104, .int y105]) hq_197 (show decode prog_7_method_71_code 124 = .ok (.iinc 8 1, 3) by decide +kernel) rfl (by rw [ey105]; rfl) rfl ?_
            refine Ev_goto (tgt := 50) hq_197 (show decode prog_7_method_71_code 127 = .ok (.goto (-77), 3) by decide +kernel) (by decide) ?_
            exact k
set_option maxRecDepth 20000 in
theorem wp_Z_laws {X : Nat × (Nat → Int32)} {d : Nat} {G : zG} {I : zI} {res : Option Value × zG × zI} (x1 : Int32) (x2 : Int32) (hS : SG G) 
    (k : ∃ (r3 : Int32) (I1 : zI), Cv X d 192 [.ref 57, .int x1, .int x2] G I (some (.int r3), G, I1) ∧ ((r3 = 0 → ∀ y5 : Int32, y5 = (I1 57 9) → Ev X (d + 1) 198 25 [.ref 57, .int x1, .int x2, .int r3, .int y5, .int 0, .int 0] [] G I1 res) ∧ (¬ r3 = 0 → res = (some (.int r3), G, I1)))) :
    Ev X (d + 1) 198 0 [.ref 57, .int x1, .int x2, zU, zU, zU, zU] [] G I res := by
  refine Ev_aload_n hq_198 (show decode prog_7_method_72_code 0 = .ok (.aload_n 0, 1) by decide +kernel) rfl ?_
  refine Ev_iload_n hq_198 (show decode prog_7_method_72_code 1 = .ok (.iload_n 1, 1) by decide +kernel) rfl ?_
  refine Ev_iload_n hq_198 (show decode prog_7_method_72_code 2 = .ok (.iload_n 2, 1) by decide +kernel) rfl ?_
  obtain ⟨r3, I1, h2, k⟩ := k
  refine Ev_virt (as := [.int x1, .int x2]) hq_198 (show decode prog_7_method_72_code 3 = .ok (.invokevirtual 257, 3) by decide +kernel) rfl hq_192 rfl (z_le rfl) ⟨(SGn hS (by decide)), (SGk hS rfl), by decide⟩ h2 ?_
  refine Ev_istore_n (lo2 := [.ref 57, .int x1, .int x2, .int r3, zU, zU, zU]) hq_198 (show decode prog_7_method_72_code 6 = .ok (.istore_n 3, 1) by decide +kernel) (z_le rfl) rfl ?_
  refine Ev_iload_n hq_198 (show decode prog_7_method_72_code 7 = .ok (.iload_n 3, 1) by decide +kernel) rfl ?_
  refine Ev_if_eq (tgt := 13) hq_198 (show decode prog_7_method_72_code 8 = .ok (.ifCond .eq 5, 3) by decide +kernel) (by decide) (fun c4 => ?_) (fun c4 => ?_)
  · have k := k.1 c4
    refine Ev_aload_n hq_198 (show decode prog_7_method_72_code 13 = .ok (.aload_n 0, 1) by decide +kernel) rfl ?_
    refine Ev_getI hq_198 (show decode prog_7_method_72_code 14 = .ok (.getfield 104, 3) by decide +kernel) rfl (SGn hS (by decide)) (SGk hS rfl) (by decide) rfl ?_
    obtain ⟨y5, ey5⟩ : ∃ y5 : Int32, y5 = (I1 57 9) := ⟨_, rfl⟩
    have k := k y5 ey5
    rw [← ey5]
    refine Ev_istore (lo2 := [.ref 57, .int x1, .int x2, .int r3, .int y5, zU, zU]) hq_198 (show decode prog_7_method_72_code 17 = .ok (.istore 4, 2) by decide +kernel) (z_le rfl) rfl ?_
    refine Ev_iconst (v := 0) hq_198 (show decode prog_7_method_72_code 19 = .ok (.iconst 0, 1) by decide +kernel) (by decide) ?_
    refine Ev_istore (lo2 := [.ref 57, .int x1, .int x2, .int r3, .int y5, .int 0, zU]) hq_198 (show decode prog_7_method_72_code 20 = .ok (.istore 5, 2) by decide +kernel) (z_le rfl) rfl ?_
    refine Ev_iconst (v := 0) hq_198 (show decode prog_7_method_72_code 22 = .ok (.iconst 0, 1) by decide +kernel) (by decide) ?_
    refine Ev_istore (lo2 := [.ref 57, .int x1, .int x2, .int r3, .int y5, .int 0, .int 0]) hq_198 (show decode prog_7_method_72_code 23 = .ok (.istore 6, 2) by decide +kernel) (z_le rfl) rfl ?_
    exact k
  · have k := k.2 c4
    refine Ev_iload_n hq_198 (show decode prog_7_method_72_code 11 = .ok (.iload_n 3, 1) by decide +kernel) rfl ?_
    exact Ev_iret hq_198 (show decode prog_7_method_72_code 12 = .ok (.ireturn, 1) by decide +kernel) rfl k
set_option maxRecDepth 20000 in
theorem wp_Z_laws_25 {X : Nat × (Nat → Int32)} {d : Nat} {G : zG} {I : zI} {res : Option Value × zG × zI} (x1 : Int32) (x2 : Int32) (x3 : Int32) (x4 : Int32) (x5 : Int32) (x6 : Int32) (hS : SG G) 
    (k : ((I 57 8) ≤ x6 → (∀ I2 : zI, I2 = z_up I 57 9 x4 → res = (some (.int x5), G, I2))) ∧ (¬ (I 57 8) ≤ x6 → (∀ I3 : zI, I3 = z_up I 57 9 x6 → ∃ (r6 : Int32) (I4 : zI), Cv X d 194 [.ref 57, .int x1, .int x2] G I3 (some (.int r6), G, I4) ∧ ((¬ r6 = (-1) → ∀ y8 : Int32, y8 = (x5 ||| 0) → ∀ y9 : Int32, y9 = x6 + 1 → Ev X (d + 1) 198 25 [.ref 57, .int x1, .int x2, .int x3, .int x4, .int y8, .int y9] [] G I4 res) ∧ (r6 = (-1) → ∀ y10 : Int32, y10 = (x5 ||| (1 <<< (x6 &&& 31))) → ∀ y11 : Int32, y11 = x6 + 1 → Ev X (d + 1) 198 25 [.ref 57, .int x1, .int x2, .int x3, .int x4, .int y10, .int y11] [] G I4 res))))) :
    Ev X (d + 1) 198 25 [.ref 57, .int x1, .int x2, .int x3, .int x4, .int x5, .int x6] [] G I res := by
  refine Ev_iload hq_198 (show decode prog_7_method_72_code 25 = .ok (.iload 6, 2) by decide +kernel) rfl ?_
  refine Ev_aload_n hq_198 (show decode prog_7_method_72_code 27 = .ok (.aload_n 0, 1) by decide +kernel) rfl ?_
  refine Ev_getI hq_198 (show decode prog_7_method_72_code 28 = .ok (.getfield 101, 3) by decide +kernel) rfl (SGn hS (by decide)) (SGk hS rfl) (by decide) rfl ?_
  refine Ev_icmp_ge (tgt := 69) hq_198 (show decode prog_7_method_72_code 31 = .ok (.if_icmp .ge 38, 3) by decide +kernel) (by decide) (fun c1 => ?_) (fun c1 => ?_)
  · have k := k.1 c1
    refine Ev_aload_n hq_198 (show decode prog_7_method_72_code 69 = .ok (.aload_n 0, 1) by decide +kernel) rfl ?_
    refine Ev_iload hq_198 (show decode prog_7_method_72_code 70 = .ok (.iload 4, 2) by decide +kernel) rfl ?_
    refine Ev_putI hq_198 (show decode prog_7_method_72_code 72 = .ok (.putfield 104, 3) by decide +kernel) rfl (SGn hS (by decide)) (SGk hS rfl) (by decide) (by decide) rfl (fun hz => by cases hz) ?_
    obtain ⟨I2, eI2⟩ : ∃ I2 : zI, I2 = z_up I 57 9 x4 := ⟨_, rfl⟩
    have k := k I2 eI2
    rw [← eI2]
    refine Ev_iload hq_198 (show decode prog_7_method_72_code 75 = .ok (.iload 5, 2) by decide +kernel) rfl ?_
    exact Ev_iret hq_198 (show decode prog_7_method_72_code 77 = .ok (.ireturn, 1) by decide +kernel) rfl k
  · have k := k.2 c1
    refine Ev_aload_n hq_198 (show decode prog_7_method_72_code 34 = .ok (.aload_n 0, 1) by decide +kernel) rfl ?_
    refine Ev_iload hq_198 (show decode prog_7_method_72_code 35 = .ok (.iload 6, 2) by decide +kernel) rfl ?_
    refine Ev_putI hq_198 (show decode prog_7_method_72_code 37 = .ok (.putfield 104, 3) by decide +kernel) rfl (SGn hS (by decide)) (SGk hS rfl) (by decide) (by decide) rfl (fun hz => by cases hz) ?_
    obtain ⟨I3, eI3⟩ : ∃ I3 : zI, I3 = z_up I 57 9 x6 := ⟨_, rfl⟩
    have k := k I3 eI3
    rw [← eI3]
    refine Ev_iload hq_198 (show decode prog_7_method_72_code 40 = .ok (.iload 5, 2) by decide +kernel) rfl ?_
    refine Ev_aload_n hq_198 (show decode prog_7_method_72_code 42 = .ok (.aload_n 0, 1) by decide +kernel) rfl ?_
    refine Ev_iload_n hq_198 (show decode prog_7_method_72_code 43 = .ok (.iload_n 1, 1) by decide +kernel) rfl ?_
    refine Ev_iload_n hq_198 (show decode prog_7_method_72_code 44 = .ok (.iload_n 2, 1) by decide +kernel) rfl ?_
    obtain ⟨r6, I4, h5, k⟩ := k
    refine Ev_virt (as := [.int x1, .int x2]) hq_198 (show decode prog_7_method_72_code 45 = .ok (.invokevirtual 260, 3) by decide +kernel) rfl hq_194 rfl (z_le rfl) ⟨(SGn hS (by decide)), (SGk hS rfl), by decide⟩ h5 ?_
    refine Ev_iconst (v := (-1)) hq_198 (show decode prog_7_method_72_code 48 = .ok (.iconst (-1), 1) by decide +kernel) (by decide) ?_
    refine Ev_icmp_ne (tgt := 59) hq_198 (show decode prog_7_method_72_code 49 = .ok (.if_icmp .ne 10, 3) by decide +kernel) (by decide) (fun c7 => ?_) (fun c7 => ?_)
    · have k := k.1 c7
      refine Ev_iconst (v := 0) hq_198 (show decode prog_7_method_72_code 59 = .ok (.iconst 0, 1) by decide +kernel) (by decide) ?_
      refine Ev_ior hq_198 (show decode prog_7_method_72_code 60 = .ok (.ior, 1) by decide +kernel) ?_
      obtain ⟨y8, ey8⟩ : ∃ y8 : Int32, y8 = (x5 ||| 0) := ⟨_, rfl⟩
      have k := k y8 ey8
      rw [← ey8]
      refine Ev_istore (lo2 := [.ref 57, .int x1, .int x2, .int x3, .int x4, .int y8, .int x6]) hq_198 (show decode prog_7_method_72_code 61 = .ok (.istore 5, 2) by decide +kernel) (z_le rfl) rfl ?_
      obtain ⟨y9, ey9⟩ : ∃ y9 : Int32, y9 = x6 + 1 := ⟨_, rfl⟩
      have k := k y9 ey9
      refine Ev_iinc (v := y9) (lo2 := [.ref 57, .int x1, .int x2, .int x3, .int x4, .int y8, .int y9]) hq_198 (show decode prog_7_method_72_code 63 = .ok (.iinc 6 1, 3) by decide +kernel) rfl (by rw [ey9]; rfl) rfl ?_
      refine Ev_goto (tgt := 25) hq_198 (show decode prog_7_method_72_code 66 = .ok (.goto (-41), 3) by decide +kernel) (by decide) ?_
      exact k
    · have k := k.2 (Classical.not_not.mp c7)
      refine Ev_iconst (v := 1) hq_198 (show decode prog_7_method_72_code 52 = .ok (.iconst 1, 1) by decide +kernel) (by decide) ?_
      refine Ev_iload hq_198 (show decode prog_7_method_72_code 53 = .ok (.iload 6, 2) by decide +kernel) rfl ?_
      refine Ev_ishl hq_198 (show decode prog_7_method_72_code 55 = .ok (.ishl, 1) by decide +kernel) ?_
      refine Ev_goto (tgt := 60) hq_198 (show decode prog_7_method_72_code 56 = .ok (.goto 4, 3) by decide +kernel) (by decide) ?_
      refine Ev_ior hq_198 (show decode prog_7_method_72_code 60 = .ok (.ior, 1) by decide +kernel) ?_
      obtain ⟨y10, ey10⟩ : ∃ y10 : Int32, y10 = (x5 ||| (1 <<< (x6 &&& 31))) := ⟨_, rfl⟩
      have k := k y10 ey10
      rw [← ey10]
      refine Ev_istore (lo2 := [.ref 57, .int x1, .int x2, .int x3, .int x4, .int y10, .int x6]) hq_198 (show decode prog_7_method_72_code 61 = .ok (.istore 5, 2) by decide +kernel) (z_le rfl) rfl ?_
      obtain ⟨y11, ey11⟩ : ∃ y11 : Int32, y11 = x6 + 1 := ⟨_, rfl⟩
      have k := k y11 ey11
      refine Ev_iinc (v := y11) (lo2 := [.ref 57, .int x1, .int x2, .int x3, .int x4, .int y10, .int y11]) hq_198 (show decode prog_7_method_72_code 63 = .ok (.iinc 6 1, 3) by decide +kernel) rfl (by rw [ey11]; rfl) rfl ?_
      refine Ev_goto (tgt := 25) hq_198 (show decode prog_7_method_72_code 66 = .ok (.goto (-41), 3) by decide +kernel) (by decide) ?_
      exact k
set_option maxRecDepth 20000 in
theorem wp_Z_film {X : Nat × (Nat → Int32)} {d : Nat} {G : zG} {I : zI} {res : Option Value × zG × zI} (x1 : Int32) (x2 : Int32) (x3 : Int32) (hS : SG G) 
    (k : ∃ (r3 : Int32) (I1 : zI), Cv X d 131 [.int x1, .int 0, .int 3] G I (some (.int r3), G, I1) ∧ ((¬ r3 = 0 → ∃ (r7 : Int32) (I5 : zI), Cv X d 148 [.ref 57, .int x2] G I1 (some (.int r7), G, I5) ∧ ((¬ r7 = 0 → ∃ (r11 : Int32) (I9 : zI), Cv X d 131 [.int x3, .int 0, .int 30] G I5 (some (.int r11), G, I9) ∧ ((¬ r11 = 0 → ∃ (I13 : zI), Cv X d 159 [.ref 57, .int 30] G I9 (none, G, I13) ∧ (z_inr x1 4 ∧ (∀ I16 : zI, I16 = z_up I13 65 x1.toNatClampNeg 2 → z_inr x1 4 ∧ (∀ I18 : zI, I18 = z_up I16 66 x1.toNatClampNeg x3 → Ev X (d + 1) 199 59 [.ref 57, .int x1, .int x2, .int x3, .int 0] [] G I18 res)))) ∧ (r11 = 0 → res = (some (.int (-7)), G, I9)))) ∧ (r7 = 0 → res = (some (.int (-5)), G, I5)))) ∧ (r3 = 0 → res = (some (.int (-2)), G, I1)))) :
    Ev X (d + 1) 199 0 [.ref 57, .int x1, .int x2, .int x3, zU] [] G I res := by
  refine Ev_iload_n hq_199 (show decode prog_7_method_73_code 0 = .ok (.iload_n 1, 1) by decide +kernel) rfl ?_
  refine Ev_iconst (v := 0) hq_199 (show decode prog_7_method_73_code 1 = .ok (.iconst 0, 1) by decide +kernel) (by decide) ?_
  refine Ev_iconst (v := 3) hq_199 (show decode prog_7_method_73_code 2 = .ok (.iconst 3, 1) by decide +kernel) (by decide) ?_
  obtain ⟨r3, I1, h2, k⟩ := k
  refine Ev_stat (as := [.int x1, .int 0, .int 3]) hq_199 (show decode prog_7_method_73_code 3 = .ok (.invokestatic 90, 3) by decide +kernel) rfl (Or.inl rfl) hq_131 rfl (z_le rfl) h2 ?_
  refine Ev_if_ne (tgt := 12) hq_199 (show decode prog_7_method_73_code 6 = .ok (.ifCond .ne 6, 3) by decide +kernel) (by decide) (fun c4 => ?_) (fun c4 => ?_)
  · have k := k.1 c4
    refine Ev_aload_n hq_199 (show decode prog_7_method_73_code 12 = .ok (.aload_n 0, 1) by decide +kernel) rfl ?_
    refine Ev_iload_n hq_199 (show decode prog_7_method_73_code 13 = .ok (.iload_n 2, 1) by decide +kernel) rfl ?_
    obtain ⟨r7, I5, h6, k⟩ := k
    refine Ev_virt (as := [.int x2]) hq_199 (show decode prog_7_method_73_code 14 = .ok (.invokevirtual 176, 3) by decide +kernel) rfl hq_148 rfl (z_le rfl) ⟨(SGn hS (by decide)), (SGk hS rfl), by decide⟩ h6 ?_
    refine Ev_if_ne (tgt := 23) hq_199 (show decode prog_7_method_73_code 17 = .ok (.ifCond .ne 6, 3) by decide +kernel) (by decide) (fun c8 => ?_) (fun c8 => ?_)
    · have k := k.1 c8
      refine Ev_iload_n hq_199 (show decode prog_7_method_73_code 23 = .ok (.iload_n 3, 1) by decide +kernel) rfl ?_
      refine Ev_iconst (v := 0) hq_199 (show decode prog_7_method_73_code 24 = .ok (.iconst 0, 1) by decide +kernel) (by decide) ?_
      refine Ev_bipush (v := 30) hq_199 (show decode prog_7_method_73_code 25 = .ok (.bipush 30, 2) by decide +kernel) (by decide) ?_
      obtain ⟨r11, I9, h10, k⟩ := k
      refine Ev_stat (as := [.int x3, .int 0, .int 30]) hq_199 (show decode prog_7_method_73_code 27 = .ok (.invokestatic 90, 3) by decide +kernel) rfl (Or.inl rfl) hq_131 rfl (z_le rfl) h10 ?_
      refine Ev_if_ne (tgt := 36) hq_199 (show decode prog_7_method_73_code 30 = .ok (.ifCond .ne 6, 3) by decide +kernel) (by decide) (fun c12 => ?_) (fun c12 => ?_)
      · have k := k.1 c12
        refine Ev_aload_n hq_199 (show decode prog_7_method_73_code 36 = .ok (.aload_n 0, 1) by decide +kernel) rfl ?_
        refine Ev_bipush (v := 30) hq_199 (show decode prog_7_method_73_code 37 = .ok (.bipush 30, 2) by decide +kernel) (by decide) ?_
        obtain ⟨I13, h14, k⟩ := k
        refine Ev_virt (as := [.int 30]) hq_199 (show decode prog_7_method_73_code 39 = .ok (.invokevirtual 205, 3) by decide +kernel) rfl hq_159 rfl (z_le rfl) ⟨(SGn hS (by decide)), (SGk hS rfl), by decide⟩ h14 ?_
        refine Ev_aload_n hq_199 (show decode prog_7_method_73_code 42 = .ok (.aload_n 0, 1) by decide +kernel) rfl ?_
        refine Ev_getR hq_199 (show decode prog_7_method_73_code 43 = .ok (.getfield 31, 3) by decide +kernel) rfl (SGn hS (by decide)) (SGk hS rfl) (by decide) rfl (SGr hS rfl) ?_
        refine Ev_iload_n hq_199 (show decode prog_7_method_73_code 46 = .ok (.iload_n 1, 1) by decide +kernel) rfl ?_
        refine Ev_iconst (v := 2) hq_199 (show decode prog_7_method_73_code 47 = .ok (.iconst 2, 1) by decide +kernel) (by decide) ?_
        obtain ⟨h15, k⟩ := k
        refine Ev_iast hq_199 (show decode prog_7_method_73_code 48 = .ok (.iastore, 1) by decide +kernel) (SGn hS (by decide)) (SGk hS rfl) (SGi hS rfl h15) ?_
        obtain ⟨I16, eI16⟩ : ∃ I16 : zI, I16 = z_up I13 65 x1.toNatClampNeg 2 := ⟨_, rfl⟩
        have k := k I16 eI16
        rw [← eI16]
        refine Ev_aload_n hq_199 (show decode prog_7_method_73_code 49 = .ok (.aload_n 0, 1) by decide +kernel) rfl ?_
        refine Ev_getR hq_199 (show decode prog_7_method_73_code 50 = .ok (.getfield 34, 3) by decide +kernel) rfl (SGn hS (by decide)) (SGk hS rfl) (by decide) rfl (SGr hS rfl) ?_
        refine Ev_iload_n hq_199 (show decode prog_7_method_73_code 53 = .ok (.iload_n 1, 1) by decide +kernel) rfl ?_
        refine Ev_iload_n hq_199 (show decode prog_7_method_73_code 54 = .ok (.iload_n 3, 1) by decide +kernel) rfl ?_
        obtain ⟨h17, k⟩ := k
        refine Ev_iast hq_199 (show decode prog_7_method_73_code 55 = .ok (.iastore, 1) by decide +kernel) (SGn hS (by decide)) (SGk hS rfl) (SGi hS rfl h17) ?_
        obtain ⟨I18, eI18⟩ : ∃ I18 : zI, I18 = z_up I16 66 x1.toNatClampNeg x3 := ⟨_, rfl⟩
        have k := k I18 eI18
        rw [← eI18]
        refine Ev_iconst (v := 0) hq_199 (show decode prog_7_method_73_code 56 = .ok (.iconst 0, 1) by decide +kernel) (by decide) ?_
        refine Ev_istore (lo2 := [.ref 57, .int x1, .int x2, .int x3, .int 0]) hq_199 (show decode prog_7_method_73_code 57 = .ok (.istore 4, 2) by decide +kernel) (z_le rfl) rfl ?_
        exact k
      · have k := k.2 (Classical.not_not.mp c12)
        refine Ev_bipush (v := (-7)) hq_199 (show decode prog_7_method_73_code 33 = .ok (.bipush (-7), 2) by decide +kernel) (by decide) ?_
        exact Ev_iret hq_199 (show decode prog_7_method_73_code 35 = .ok (.ireturn, 1) by decide +kernel) rfl k
    · have k := k.2 (Classical.not_not.mp c8)
      refine Ev_bipush (v := (-5)) hq_199 (show decode prog_7_method_73_code 20 = .ok (.bipush (-5), 2) by decide +kernel) (by decide) ?_
      exact Ev_iret hq_199 (show decode prog_7_method_73_code 22 = .ok (.ireturn, 1) by decide +kernel) rfl k
  · have k := k.2 (Classical.not_not.mp c4)
    refine Ev_bipush (v := (-2)) hq_199 (show decode prog_7_method_73_code 9 = .ok (.bipush (-2), 2) by decide +kernel) (by decide) ?_
    exact Ev_iret hq_199 (show decode prog_7_method_73_code 11 = .ok (.ireturn, 1) by decide +kernel) rfl k
set_option maxRecDepth 20000 in
theorem wp_Z_film_59 {X : Nat × (Nat → Int32)} {d : Nat} {G : zG} {I : zI} {res : Option Value × zG × zI} (x1 : Int32) (x2 : Int32) (x3 : Int32) (x4 : Int32) (hS : SG G) 
    (k : (40 ≤ x4 → res = (some (.int x3), G, I)) ∧ (¬ 40 ≤ x4 → (x3 ≤ x4 → z_inr ((40 * x1) + x4) 160 ∧ (∀ I4 : zI, I4 = z_up I 67 ((40 * x1) + x4).toNatClampNeg 0 → ∀ y5 : Int32, y5 = x4 + 1 → Ev X d 199 59 [.ref 57, .int x1, .int x2, .int x3, .int y5] [] G I4 res)) ∧ (¬ x3 ≤ x4 → z_inr ((4 * x4) + x2) 120 ∧ (z_inr ((40 * x1) + x4) 160 ∧ (∀ I8 : zI, I8 = z_up I 67 ((40 * x1) + x4).toNatClampNeg (I 74 ((4 * x4) + x2).toNatClampNeg) → ∀ y9 : Int32, y9 = x4 + 1 → Ev X d 199 59 [.ref 57, .int x1, .int x2, .int x3, .int y9] [] G I8 res))))) :
    Ev X d 199 59 [.ref 57, .int x1, .int x2, .int x3, .int x4] [] G I res := by
  refine Ev_iload hq_199 (show decode prog_7_method_73_code 59 = .ok (.iload 4, 2) by decide +kernel) rfl ?_
  refine Ev_bipush (v := 40) hq_199 (show decode prog_7_method_73_code 61 = .ok (.bipush 40, 2) by decide +kernel) (by decide) ?_
  refine Ev_icmp_ge (tgt := 105) hq_199 (show decode prog_7_method_73_code 63 = .ok (.if_icmp .ge 42, 3) by decide +kernel) (by decide) (fun c1 => ?_) (fun c1 => ?_)
  · have k := k.1 c1
    refine Ev_iload_n hq_199 (show decode prog_7_method_73_code 105 = .ok (.iload_n 3, 1) by decide +kernel) rfl ?_
    exact Ev_iret hq_199 (show decode prog_7_method_73_code 106 = .ok (.ireturn, 1) by decide +kernel) rfl k
  · have k := k.2 c1
    refine Ev_aload_n hq_199 (show decode prog_7_method_73_code 66 = .ok (.aload_n 0, 1) by decide +kernel) rfl ?_
    refine Ev_getR hq_199 (show decode prog_7_method_73_code 67 = .ok (.getfield 37, 3) by decide +kernel) rfl (SGn hS (by decide)) (SGk hS rfl) (by decide) rfl (SGr hS rfl) ?_
    refine Ev_bipush (v := 40) hq_199 (show decode prog_7_method_73_code 70 = .ok (.bipush 40, 2) by decide +kernel) (by decide) ?_
    refine Ev_iload_n hq_199 (show decode prog_7_method_73_code 72 = .ok (.iload_n 1, 1) by decide +kernel) rfl ?_
    refine Ev_imul hq_199 (show decode prog_7_method_73_code 73 = .ok (.imul, 1) by decide +kernel) ?_
    refine Ev_iload hq_199 (show decode prog_7_method_73_code 74 = .ok (.iload 4, 2) by decide +kernel) rfl ?_
    refine Ev_iadd hq_199 (show decode prog_7_method_73_code 76 = .ok (.iadd, 1) by decide +kernel) ?_
    refine Ev_iload hq_199 (show decode prog_7_method_73_code 77 = .ok (.iload 4, 2) by decide +kernel) rfl ?_
    refine Ev_iload_n hq_199 (show decode prog_7_method_73_code 79 = .ok (.iload_n 3, 1) by decide +kernel) rfl ?_
    refine Ev_icmp_ge (tgt := 97) hq_199 (show decode prog_7_method_73_code 80 = .ok (.if_icmp .ge 17, 3) by decide +kernel) (by decide) (fun c2 => ?_) (fun c2 => ?_)
    · have k := k.1 c2
      refine Ev_iconst (v := 0) hq_199 (show decode prog_7_method_73_code 97 = .ok (.iconst 0, 1) by decide +kernel) (by decide) ?_
      obtain ⟨h3, k⟩ := k
      refine Ev_iast hq_199 (show decode prog_7_method_73_code 98 = .ok (.iastore, 1) by decide +kernel) (SGn hS (by decide)) (SGk hS rfl) (SGi hS rfl h3) ?_
      obtain ⟨I4, eI4⟩ : ∃ I4 : zI, I4 = z_up I 67 ((40 * x1) + x4).toNatClampNeg 0 := ⟨_, rfl⟩
      have k := k I4 eI4
      rw [← eI4]
      obtain ⟨y5, ey5⟩ : ∃ y5 : Int32, y5 = x4 + 1 := ⟨_, rfl⟩
      have k := k y5 ey5
      refine Ev_iinc (v := y5) (lo2 := [.ref 57, .int x1, .int x2, .int x3, .int y5]) hq_199 (show decode prog_7_method_73_code 99 = .ok (.iinc 4 1, 3) by decide +kernel) rfl (by rw [ey5]; rfl) rfl ?_
      refine Ev_goto (tgt := 59) hq_199 (show decode prog_7_method_73_code 102 = .ok (.goto (-43), 3) by decide +kernel) (by decide) ?_
      exact k
    · have k := k.2 c2
      refine Ev_aload_n hq_199 (show decode prog_7_method_73_code 83 = .ok (.aload_n 0, 1) by decide +kernel) rfl ?_
      refine Ev_getR hq_199 (show decode prog_7_method_73_code 84 = .ok (.getfield 58, 3) by decide +kernel) rfl (SGn hS (by decide)) (SGk hS rfl) (by decide) rfl (SGr hS rfl) ?_
      refine Ev_iconst (v := 4) hq_199 (show decode prog_7_method_73_code 87 = .ok (.iconst 4, 1) by decide +kernel) (by decide) ?_
      refine Ev_iload hq_199 (show decode prog_7_method_73_code 88 = .ok (.iload 4, 2) by decide +kernel) rfl ?_
      refine Ev_imul hq_199 (show decode prog_7_method_73_code 90 = .ok (.imul, 1) by decide +kernel) ?_
      refine Ev_iload_n hq_199 (show decode prog_7_method_73_code 91 = .ok (.iload_n 2, 1) by decide +kernel) rfl ?_
      refine Ev_iadd hq_199 (show decode prog_7_method_73_code 92 = .ok (.iadd, 1) by decide +kernel) ?_
      obtain ⟨h6, k⟩ := k
      refine Ev_iald hq_199 (show decode prog_7_method_73_code 93 = .ok (.iaload, 1) by decide +kernel) (SGn hS (by decide)) (SGk hS rfl) (SGi hS rfl h6) ?_
      refine Ev_goto (tgt := 98) hq_199 (show decode prog_7_method_73_code 94 = .ok (.goto 4, 3) by decide +kernel) (by decide) ?_
      obtain ⟨h7, k⟩ := k
      refine Ev_iast hq_199 (show decode prog_7_method_73_code 98 = .ok (.iastore, 1) by decide +kernel) (SGn hS (by decide)) (SGk hS rfl) (SGi hS rfl h7) ?_
      obtain ⟨I8, eI8⟩ : ∃ I8 : zI, I8 = z_up I 67 ((40 * x1) + x4).toNatClampNeg (I 74 ((4 * x4) + x2).toNatClampNeg) := ⟨_, rfl⟩
      have k := k I8 eI8
      rw [← eI8]
      obtain ⟨y9, ey9⟩ : ∃ y9 : Int32, y9 = x4 + 1 := ⟨_, rfl⟩
      have k := k y9 ey9
      refine Ev_iinc (v := y9) (lo2 := [.ref 57, .int x1, .int x2, .int x3, .int y9]) hq_199 (show decode prog_7_method_73_code 99 = .ok (.iinc 4 1, 3) by decide +kernel) rfl (by rw [ey9]; rfl) rfl ?_
      refine Ev_goto (tgt := 59) hq_199 (show decode prog_7_method_73_code 102 = .ok (.goto (-43), 3) by decide +kernel) (by decide) ?_
      exact k
set_option maxRecDepth 20000 in
theorem wp_Z_criers {X : Nat × (Nat → Int32)} {d : Nat} {G : zG} {I : zI} {res : Option Value × zG × zI} (x1 : Int32) (hS : SG G) 
    (k : ∃ (r3 : Int32) (I1 : zI), Cv X d 193 [.ref 57, .int x1] G I (some (.int r3), G, I1) ∧ ((r3 = 0 → ∃ (I5 : zI), Cv X d 159 [.ref 57, .int 30] G I1 (none, G, I5) ∧ (∀ y7 : Int32, y7 = ((1 <<< ((I5 57 0) &&& 31)) - 1) → Ev X (d + 1) 200 30 [.ref 57, .int x1, .int r3, .int y7, .int 0, zU, zU, zU] [] G I5 res)) ∧ (¬ r3 = 0 → res = (some (.int r3), G, I1)))) :
    Ev X (d + 1) 200 0 [.ref 57, .int x1, zU, zU, zU, zU, zU, zU] [] G I res := by
  refine Ev_aload_n hq_200 (show decode prog_7_method_74_code 0 = .ok (.aload_n 0, 1) by decide +kernel) rfl ?_
  refine Ev_iload_n hq_200 (show decode prog_7_method_74_code 1 = .ok (.iload_n 1, 1) by decide +kernel) rfl ?_
  obtain ⟨r3, I1, h2, k⟩ := k
  refine Ev_virt (as := [.int x1]) hq_200 (show decode prog_7_method_74_code 2 = .ok (.invokevirtual 254, 3) by decide +kernel) rfl hq_193 rfl (z_le rfl) ⟨(SGn hS (by decide)), (SGk hS rfl), by decide⟩ h2 ?_
  refine Ev_istore_n (lo2 := [.ref 57, .int x1, .int r3, zU, zU, zU, zU, zU]) hq_200 (show decode prog_7_method_74_code 5 = .ok (.istore_n 2, 1) by decide +kernel) (z_le rfl) rfl ?_
  refine Ev_iload_n hq_200 (show decode prog_7_method_74_code 6 = .ok (.iload_n 2, 1) by decide +kernel) rfl ?_
  refine Ev_if_eq (tgt := 12) hq_200 (show decode prog_7_method_74_code 7 = .ok (.ifCond .eq 5, 3) by decide +kernel) (by decide) (fun c4 => ?_) (fun c4 => ?_)
  · have k := k.1 c4
    refine Ev_aload_n hq_200 (show decode prog_7_method_74_code 12 = .ok (.aload_n 0, 1) by decide +kernel) rfl ?_
    refine Ev_bipush (v := 30) hq_200 (show decode prog_7_method_74_code 13 = .ok (.bipush 30, 2) by decide +kernel) (by decide) ?_
    obtain ⟨I5, h6, k⟩ := k
    refine Ev_virt (as := [.int 30]) hq_200 (show decode prog_7_method_74_code 15 = .ok (.invokevirtual 205, 3) by decide +kernel) rfl hq_159 rfl (z_le rfl) ⟨(SGn hS (by decide)), (SGk hS rfl), by decide⟩ h6 ?_
    refine Ev_iconst (v := 1) hq_200 (show decode prog_7_method_74_code 18 = .ok (.iconst 1, 1) by decide +kernel) (by decide) ?_
    refine Ev_aload_n hq_200 (show decode prog_7_method_74_code 19 = .ok (.aload_n 0, 1) by decide +kernel) rfl ?_
    refine Ev_getI hq_200 (show decode prog_7_method_74_code 20 = .ok (.getfield 87, 3) by decide +kernel) rfl (SGn hS (by decide)) (SGk hS rfl) (by decide) rfl ?_
    refine Ev_ishl hq_200 (show decode prog_7_method_74_code 23 = .ok (.ishl, 1) by decide +kernel) ?_
    refine Ev_iconst (v := 1) hq_200 (show decode prog_7_method_74_code 24 = .ok (.iconst 1, 1) by decide +kernel) (by decide) ?_
    refine Ev_isub hq_200 (show decode prog_7_method_74_code 25 = .ok (.isub, 1) by decide +kernel) ?_
    obtain ⟨y7, ey7⟩ : ∃ y7 : Int32, y7 = ((1 <<< ((I5 57 0) &&& 31)) - 1) := ⟨_, rfl⟩
    have k := k y7 ey7
    rw [← ey7]
    refine Ev_istore_n (lo2 := [.ref 57, .int x1, .int r3, .int y7, zU, zU, zU, zU]) hq_200 (show decode prog_7_method_74_code 26 = .ok (.istore_n 3, 1) by decide +kernel) (z_le rfl) rfl ?_
    refine Ev_iconst (v := 0) hq_200 (show decode prog_7_method_74_code 27 = .ok (.iconst 0, 1) by decide +kernel) (by decide) ?_
    refine Ev_istore (lo2 := [.ref 57, .int x1, .int r3, .int y7, .int 0, zU, zU, zU]) hq_200 (show decode prog_7_method_74_code 28 = .ok (.istore 4, 2) by decide +kernel) (z_le rfl) rfl ?_
    exact k
  · have k := k.2 c4
    refine Ev_iload_n hq_200 (show decode prog_7_method_74_code 10 = .ok (.iload_n 2, 1) by decide +kernel) rfl ?_
    exact Ev_iret hq_200 (show decode prog_7_method_74_code 11 = .ok (.ireturn, 1) by decide +kernel) rfl k
set_option maxRecDepth 20000 in
theorem wp_Z_criers_30 {X : Nat × (Nat → Int32)} {d : Nat} {G : zG} {I : zI} {res : Option Value × zG × zI} (x1 : Int32) (x2 : Int32) (x3 : Int32) (x4 : Int32) (v5 : Value) (cv5 : v5.category = 1) (v6 : Value) (cv6 : v6.category = 1) (v7 : Value) (cv7 : v7.category = 1) (hS : SG G) 
    (k : z_inr x1 4 ∧ (((I 66 x1.toNatClampNeg) ≤ x4 → res = (some (.int x3), G, I)) ∧ (¬ (I 66 x1.toNatClampNeg) ≤ x4 → z_inr ((40 * x1) + x4) 160 ∧ (∀ y4 : Int32, y4 = (I 67 ((40 * x1) + x4).toNatClampNeg) → Ev X d 200 58 [.ref 57, .int x1, .int x2, .int x3, .int x4, .int y4, .int 0, v7] [] G I res)))) :
    Ev X d 200 30 [.ref 57, .int x1, .int x2, .int x3, .int x4, v5, v6, v7] [] G I res := by
  refine Ev_iload hq_200 (show decode prog_7_method_74_code 30 = .ok (.iload 4, 2) by decide +kernel) rfl ?_
  refine Ev_aload_n hq_200 (show decode prog_7_method_74_code 32 = .ok (.aload_n 0, 1) by decide +kernel) rfl ?_
  refine Ev_getR hq_200 (show decode prog_7_method_74_code 33 = .ok (.getfield 34, 3) by decide +kernel) rfl (SGn hS (by decide)) (SGk hS rfl) (by decide) rfl (SGr hS rfl) ?_
  refine Ev_iload_n hq_200 (show decode prog_7_method_74_code 36 = .ok (.iload_n 1, 1) by decide +kernel) rfl ?_
  obtain ⟨h1, k⟩ := k
  refine Ev_iald hq_200 (show decode prog_7_method_74_code 37 = .ok (.iaload, 1) by decide +kernel) (SGn hS (by decide)) (SGk hS rfl) (SGi hS rfl h1) ?_
  refine Ev_icmp_ge (tgt := 137) hq_200 (show decode prog_7_method_74_code 38 = .ok (.if_icmp .ge 99, 3) by decide +kernel) (by decide) (fun c2 => ?_) (fun c2 => ?_)
  · have k := k.1 c2
    refine Ev_iload_n hq_200 (show decode prog_7_method_74_code 137 = .ok (.iload_n 3, 1) by decide +kernel) rfl ?_
    exact Ev_iret hq_200 (show decode prog_7_method_74_code 138 = .ok (.ireturn, 1) by decide +kernel) rfl k
  · have k := k.2 c2
    refine Ev_aload_n hq_200 (show decode prog_7_method_74_code 41 = .ok (.aload_n 0, 1) by decide +kernel) rfl ?_
    refine Ev_getR hq_200 (show decode prog_7_method_74_code 42 = .ok (.getfield 37, 3) by decide +kernel) rfl (SGn hS (by decide)) (SGk hS rfl) (by decide) rfl (SGr hS rfl) ?_
    refine Ev_bipush (v := 40) hq_200 (show decode prog_7_method_74_code 45 = .ok (.bipush 40, 2) by decide +kernel) (by decide) ?_
    refine Ev_iload_n hq_200 (show decode prog_7_method_74_code 47 = .ok (.iload_n 1, 1) by decide +kernel) rfl ?_
    refine Ev_imul hq_200 (show decode prog_7_method_74_code 48 = .ok (.imul, 1) by decide +kernel) ?_
    refine Ev_iload hq_200 (show decode prog_7_method_74_code 49 = .ok (.iload 4, 2) by decide +kernel) rfl ?_
    refine Ev_iadd hq_200 (show decode prog_7_method_74_code 51 = .ok (.iadd, 1) by decide +kernel) ?_
    obtain ⟨h3, k⟩ := k
    refine Ev_iald hq_200 (show decode prog_7_method_74_code 52 = .ok (.iaload, 1) by decide +kernel) (SGn hS (by decide)) (SGk hS rfl) (SGi hS rfl h3) ?_
    obtain ⟨y4, ey4⟩ : ∃ y4 : Int32, y4 = (I 67 ((40 * x1) + x4).toNatClampNeg) := ⟨_, rfl⟩
    have k := k y4 ey4
    rw [← ey4]
    refine Ev_istore (lo2 := [.ref 57, .int x1, .int x2, .int x3, .int x4, .int y4, v6, v7]) hq_200 (show decode prog_7_method_74_code 53 = .ok (.istore 5, 2) by decide +kernel) (z_le rfl) rfl ?_
    refine Ev_iconst (v := 0) hq_200 (show decode prog_7_method_74_code 55 = .ok (.iconst 0, 1) by decide +kernel) (by decide) ?_
    refine Ev_istore (lo2 := [.ref 57, .int x1, .int x2, .int x3, .int x4, .int y4, .int 0, v7]) hq_200 (show decode prog_7_method_74_code 56 = .ok (.istore 6, 2) by decide +kernel) (z_le rfl) rfl ?_
    exact k
set_option maxRecDepth 20000 in
theorem wp_Z_criers_58 {X : Nat × (Nat → Int32)} {d : Nat} {G : zG} {I : zI} {res : Option Value × zG × zI} (x1 : Int32) (x2 : Int32) (x3 : Int32) (x4 : Int32) (x5 : Int32) (x6 : Int32) (v7 : Value) (cv7 : v7.category = 1) (hS : SG G) 
    (k : ((I 57 0) ≤ x6 → ∀ y2 : Int32, y2 = x4 + 1 → Ev X (d + 1) 200 30 [.ref 57, .int x1, .int x2, .int x3, .int y2, .int x5, .int x6, v7] [] G I res) ∧ (¬ (I 57 0) ≤ x6 → ∃ (r5 : Int32) (I3 : zI), Cv X d 131 [.int x5, .int 0, .int 29] G I (some (.int r5), G, I3) ∧ ((r5 = 0 → ∀ y7 : Int32, y7 = (x3 &&& ((1 <<< (x6 &&& 31)) ^^^ (-1))) → ∀ y8 : Int32, y8 = x6 + 1 → Ev X (d + 1) 200 58 [.ref 57, .int x1, .int x2, .int y7, .int x4, .int x5, .int y8, .int 0] [] G I3 res) ∧ (¬ r5 = 0 → z_inr x6 4 ∧ (∃ (r12 : Int32) (I10 : zI), Cv X d 152 [.int x5, .int 0, .int 29] G I3 (some (.int r12), G, I10) ∧ ((¬ (((I3 76 x6.toNatClampNeg) >>> (r12 &&& 31)) &&& 1) = 1 → ∀ y14 : Int32, y14 = (x3 &&& ((1 <<< (x6 &&& 31)) ^^^ (-1))) → ∀ y15 : Int32, y15 = x6 + 1 → Ev X (d + 1) 200 58 [.ref 57, .int x1, .int x2, .int y14, .int x4, .int x5, .int y15, .int 0] [] G I10 res) ∧ ((((I3 76 x6.toNatClampNeg) >>> (r12 &&& 31)) &&& 1) = 1 → ∀ y16 : Int32, y16 = x6 + 1 → Ev X (d + 1) 200 58 [.ref 57, .int x1, .int x2, .int x3, .int x4, .int x5, .int y16, .int 1] [] G I10 res))))))) :
    Ev X (d + 1) 200 58 [.ref 57, .int x1, .int x2, .int x3, .int x4, .int x5, .int x6, v7] [] G I res := by
  refine Ev_iload hq_200 (show decode prog_7_method_74_code 58 = .ok (.iload 6, 2) by decide +kernel) rfl ?_
  refine Ev_aload_n hq_200 (show decode prog_7_method_74_code 60 = .ok (.aload_n 0, 1) by decide +kernel) rfl ?_
  refine Ev_getI hq_200 (show decode prog_7_method_74_code 61 = .ok (.getfield 87, 3) by decide +kernel) rfl (SGn hS (by decide)) (SGk hS rfl) (by decide) rfl ?_
  refine Ev_icmp_ge (tgt := 131) hq_200 (show decode prog_7_method_74_code 64 = .ok (.if_icmp .ge 67, 3) by decide +kernel) (by decide) (fun c1 => ?_) (fun c1 => ?_)
  · have k := k.1 c1
    obtain ⟨y2, ey2⟩ : ∃ y2 : Int32, y2 = x4 + 1 := ⟨_, rfl⟩
    have k := k y2 ey2
    refine Ev_iinc (v := y2) (lo2 := [.ref 57, .int x1, .int x2, .int x3, .int y2, .int x5, .int x6, v7]) hq_200 (show decode prog_7_method_74_code 131 = .ok (.iinc 4 1, 3) by decide +kernel) rfl (by rw [ey2]; rfl) rfl ?_
    refine Ev_goto (tgt := 30) hq_200 (show decode prog_7_method_74_code 134 = .ok (.goto (-104), 3) by decide +kernel) (by decide) ?_
    exact k
  · have k := k.2 c1
    refine Ev_iload hq_200 (show decode prog_7_method_74_code 67 = .ok (.iload 5, 2) by decide +kernel) rfl ?_
    refine Ev_iconst (v := 0) hq_200 (show decode prog_7_method_74_code 69 = .ok (.iconst 0, 1) by decide +kernel) (by decide) ?_
    refine Ev_bipush (v := 29) hq_200 (show decode prog_7_method_74_code 70 = .ok (.bipush 29, 2) by decide +kernel) (by decide) ?_
    obtain ⟨r5, I3, h4, k⟩ := k
    refine Ev_stat (as := [.int x5, .int 0, .int 29]) hq_200 (show decode prog_7_method_74_code 72 = .ok (.invokestatic 90, 3) by decide +kernel) rfl (Or.inl rfl) hq_131 rfl (z_le rfl) h4 ?_
    refine Ev_if_eq (tgt := 104) hq_200 (show decode prog_7_method_74_code 75 = .ok (.ifCond .eq 29, 3) by decide +kernel) (by decide) (fun c6 => ?_) (fun c6 => ?_)
    · have k := k.1 c6
      refine Ev_iconst (v := 0) hq_200 (show decode prog_7_method_74_code 104 = .ok (.iconst 0, 1) by decide +kernel) (by decide) ?_
      refine Ev_istore (lo2 := [.ref 57, .int x1, .int x2, .int x3, .int x4, .int x5, .int x6, .int 0]) hq_200 (show decode prog_7_method_74_code 105 = .ok (.istore 7, 2) by decide +kernel) (z_le rfl) rfl ?_
      refine Ev_iload hq_200 (show decode prog_7_method_74_code 107 = .ok (.iload 7, 2) by decide +kernel) rfl ?_
      refine Ev_if_eq (tgt := 116) hq_200 (show decode prog_7_method_74_code 109 = .ok (.ifCond .eq 7, 3) by decide +kernel) (by decide) (fun _ => ?_) (fun hz => absurd (by decide) hz)
      refine Ev_iload_n hq_200 (show decode prog_7_method_74_code 116 = .ok (.iload_n 3, 1) by decide +kernel) rfl ?_
      refine Ev_iconst (v := 1) hq_200 (show decode prog_7_method_74_code 117 = .ok (.iconst 1, 1) by decide +kernel) (by decide) ?_
      refine Ev_iload hq_200 (show decode prog_7_method_74_code 118 = .ok (.iload 6, 2) by decide +kernel) rfl ?_
      refine Ev_ishl hq_200 (show decode prog_7_method_74_code 120 = .ok (.ishl, 1) by decide +kernel) ?_
      refine Ev_iconst (v := (-1)) hq_200 (show decode prog_7_method_74_code 121 = .ok (.iconst (-1), 1) by decide +kernel) (by decide) ?_
      refine Ev_ixor hq_200 (show decode prog_7_method_74_code 122 = .ok (.ixor, 1) by decide +kernel) ?_
      refine Ev_iand hq_200 (show decode prog_7_method_74_code 123 = .ok (.iand, 1) by decide +kernel) ?_
      obtain ⟨y7, ey7⟩ : ∃ y7 : Int32, y7 = (x3 &&& ((1 <<< (x6 &&& 31)) ^^^ (-1))) := ⟨_, rfl⟩
      have k := k y7 ey7
      rw [← ey7]
      refine Ev_istore_n (lo2 := [.ref 57, .int x1, .int x2, .int y7, .int x4, .int x5, .int x6, .int 0]) hq_200 (show decode prog_7_method_74_code 124 = .ok (.istore_n 3, 1) by decide +kernel) (z_le rfl) rfl ?_
      obtain ⟨y8, ey8⟩ : ∃ y8 : Int32, y8 = x6 + 1 := ⟨_, rfl⟩
      have k := k y8 ey8
      refine Ev_iinc (v := y8) (lo2 := [.ref 57, .int x1, .int x2, .int y7, .int x4, .int x5, .int y8, .int 0]) hq_200 (show decode prog_7_method_74_code 125 = .ok (.iinc 6 1, 3) by decide +kernel) rfl (by rw [ey8]; rfl) rfl ?_
      refine Ev_goto (tgt := 58) hq_200 (show decode prog_7_method_74_code 128 = .ok (.goto (-70), 3) by decide +kernel) (by decide) ?_
      exact k
    · have k := k.2 c6
      refine Ev_aload_n hq_200 (show decode prog_7_method_74_code 78 = .ok (.aload_n 0, 1) by decide +kernel) rfl ?_
      refine Ev_getR hq_200 (show decode prog_7_method_74_code 79 = .ok (.getfield 64, 3) by decide +kernel) rfl (SGn hS (by decide)) (SGk hS rfl) (by decide) rfl (SGr hS rfl) ?_
      refine Ev_iload hq_200 (show decode prog_7_method_74_code 82 = .ok (.iload 6, 2) by decide +kernel) rfl ?_
      obtain ⟨h9, k⟩ := k
      refine Ev_iald hq_200 (show decode prog_7_method_74_code 84 = .ok (.iaload, 1) by decide +kernel) (SGn hS (by decide)) (SGk hS rfl) (SGi hS rfl h9) ?_
      refine Ev_iload hq_200 (show decode prog_7_method_74_code 85 = .ok (.iload 5, 2) by decide +kernel) rfl ?_
      refine Ev_iconst (v := 0) hq_200 (show decode prog_7_method_74_code 87 = .ok (.iconst 0, 1) by decide +kernel) (by decide) ?_
      refine Ev_bipush (v := 29) hq_200 (show decode prog_7_method_74_code 88 = .ok (.bipush 29, 2) by decide +kernel) (by decide) ?_
      obtain ⟨r12, I10, h11, k⟩ := k
      refine Ev_stat (as := [.int x5, .int 0, .int 29]) hq_200 (show decode prog_7_method_74_code 90 = .ok (.invokestatic 173, 3) by decide +kernel) rfl (Or.inl rfl) hq_152 rfl (z_le rfl) h11 ?_
      refine Ev_ishr hq_200 (show decode prog_7_method_74_code 93 = .ok (.ishr, 1) by decide +kernel) ?_
      refine Ev_iconst (v := 1) hq_200 (show decode prog_7_method_74_code 94 = .ok (.iconst 1, 1) by decide +kernel) (by decide) ?_
      refine Ev_iand hq_200 (show decode prog_7_method_74_code 95 = .ok (.iand, 1) by decide +kernel) ?_
      refine Ev_iconst (v := 1) hq_200 (show decode prog_7_method_74_code 96 = .ok (.iconst 1, 1) by decide +kernel) (by decide) ?_
      refine Ev_icmp_ne (tgt := 104) hq_200 (show decode prog_7_method_74_code 97 = .ok (.if_icmp .ne 7, 3) by decide +kernel) (by decide) (fun c13 => ?_) (fun c13 => ?_)
      · have k := k.1 c13
        refine Ev_iconst (v := 0) hq_200 (show decode prog_7_method_74_code 104 = .ok (.iconst 0, 1) by decide +kernel) (by decide) ?_
        refine Ev_istore (lo2 := [.ref 57, .int x1, .int x2, .int x3, .int x4, .int x5, .int x6, .int 0]) hq_200 (show decode prog_7_method_74_code 105 = .ok (.istore 7, 2) by decide +kernel) (z_le rfl) rfl ?_
        refine Ev_iload hq_200 (show decode prog_7_method_74_code 107 = .ok (.iload 7, 2) by decide +kernel) rfl ?_
        refine Ev_if_eq (tgt := 116) hq_200 (show decode prog_7_method_74_code 109 = .ok (.ifCond .eq 7, 3) by decide +kernel) (by decide) (fun _ => ?_) (fun hz => absurd (by decide) hz)
        refine Ev_iload_n hq_200 (show decode prog_7_method_74_code 116 = .ok (.iload_n 3, 1) by decide +kernel) rfl ?_
        refine Ev_iconst (v := 1) hq_200 (show decode prog_7_method_74_code 117 = .ok (.iconst 1, 1) by decide +kernel) (by decide) ?_
        refine Ev_iload hq_200 (show decode prog_7_method_74_code 118 = .ok (.iload 6, 2) by decide +kernel) rfl ?_
        refine Ev_ishl hq_200 (show decode prog_7_method_74_code 120 = .ok (.ishl, 1) by decide +kernel) ?_
        refine Ev_iconst (v := (-1)) hq_200 (show decode prog_7_method_74_code 121 = .ok (.iconst (-1), 1) by decide +kernel) (by decide) ?_
        refine Ev_ixor hq_200 (show decode prog_7_method_74_code 122 = .ok (.ixor, 1) by decide +kernel) ?_
        refine Ev_iand hq_200 (show decode prog_7_method_74_code 123 = .ok (.iand, 1) by decide +kernel) ?_
        obtain ⟨y14, ey14⟩ : ∃ y14 : Int32, y14 = (x3 &&& ((1 <<< (x6 &&& 31)) ^^^ (-1))) := ⟨_, rfl⟩
        have k := k y14 ey14
        rw [← ey14]
        refine Ev_istore_n (lo2 := [.ref 57, .int x1, .int x2, .int y14, .int x4, .int x5, .int x6, .int 0]) hq_200 (show decode prog_7_method_74_code 124 = .ok (.istore_n 3, 1) by decide +kernel) (z_le rfl) rfl ?_
        obtain ⟨y15, ey15⟩ : ∃ y15 : Int32, y15 = x6 + 1 := ⟨_, rfl⟩
        have k := k y15 ey15
        refine Ev_iinc (v := y15) (lo2 := [.ref 57, .int x1, .int x2, .int y14, .int x4, .int x5, .int y15, .int 0]) hq_200 (show decode prog_7_method_74_code 125 = .ok (.iinc 6 1, 3) by decide +kernel) rfl (by rw [ey15]; rfl) rfl ?_
        refine Ev_goto (tgt := 58) hq_200 (show decode prog_7_method_74_code 128 = .ok (.goto (-70), 3) by decide +kernel) (by decide) ?_
        exact k
      · have k := k.2 (Classical.not_not.mp c13)
        refine Ev_iconst (v := 1) hq_200 (show decode prog_7_method_74_code 100 = .ok (.iconst 1, 1) by decide +kernel) (by decide) ?_
        refine Ev_goto (tgt := 105) hq_200 (show decode prog_7_method_74_code 101 = .ok (.goto 4, 3) by decide +kernel) (by decide) ?_
        refine Ev_istore (lo2 := [.ref 57, .int x1, .int x2, .int x3, .int x4, .int x5, .int x6, .int 1]) hq_200 (show decode prog_7_method_74_code 105 = .ok (.istore 7, 2) by decide +kernel) (z_le rfl) rfl ?_
        refine Ev_iload hq_200 (show decode prog_7_method_74_code 107 = .ok (.iload 7, 2) by decide +kernel) rfl ?_
        refine Ev_if_eq (tgt := 116) hq_200 (show decode prog_7_method_74_code 109 = .ok (.ifCond .eq 7, 3) by decide +kernel) (by decide) (fun hz => absurd hz (by decide)) (fun _ => ?_)
        refine Ev_iload_n hq_200 (show decode prog_7_method_74_code 112 = .ok (.iload_n 3, 1) by decide +kernel) rfl ?_
        refine Ev_goto (tgt := 124) hq_200 (show decode prog_7_method_74_code 113 = .ok (.goto 11, 3) by decide +kernel) (by decide) ?_
        refine Ev_istore_n (lo2 := [.ref 57, .int x1, .int x2, .int x3, .int x4, .int x5, .int x6, .int 1]) hq_200 (show decode prog_7_method_74_code 124 = .ok (.istore_n 3, 1) by decide +kernel) (z_le rfl) rfl ?_
        obtain ⟨y16, ey16⟩ : ∃ y16 : Int32, y16 = x6 + 1 := ⟨_, rfl⟩
        have k := k y16 ey16
        refine Ev_iinc (v := y16) (lo2 := [.ref 57, .int x1, .int x2, .int x3, .int x4, .int x5, .int y16, .int 1]) hq_200 (show decode prog_7_method_74_code 125 = .ok (.iinc 6 1, 3) by decide +kernel) rfl (by rw [ey16]; rfl) rfl ?_
        refine Ev_goto (tgt := 58) hq_200 (show decode prog_7_method_74_code 128 = .ok (.goto (-70), 3) by decide +kernel) (by decide) ?_
        exact k
