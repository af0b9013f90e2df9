set_option maxRecDepth 20000 in
theorem wp_Z_cell {X : Nat × (Nat → Int32)} {d : Nat} {G : zG} {I : zI} {res : Option Value × zG × zI} (x1 : Int32) (x2 : Int32) (x3 : Int32) (hS : SG G) 
    (k : (¬ (f_Z_in x1 0 3) = 0 → z_inr x1 4 ∧ ((¬ (I 65 x1.toNatClampNeg) = (-1) → z_inr x1 4 ∧ ((¬ (f_Z_in x2 0 ((I 66 x1.toNatClampNeg) - 1)) = 0 → z_inr x1 4 ∧ ((¬ (I 65 x1.toNatClampNeg) = 0 → z_inr x1 4 ∧ ((¬ (I 65 x1.toNatClampNeg) = 1 → z_inr ((40 * x1) + x2) 160 ∧ (∀ I11 : zI, I11 = z_up I 67 ((40 * x1) + x2).toNatClampNeg x3 → res = (some (.int 1), G, I11))) ∧ ((I 65 x1.toNatClampNeg) = 1 → z_inr ((40 * x1) + x2) 160 ∧ (∀ I13 : zI, I13 = z_up I 67 ((40 * x1) + x2).toNatClampNeg (x3.toInt16.toInt32) → res = (some (.int 1), G, I13))))) ∧ ((I 65 x1.toNatClampNeg) = 0 → z_inr ((40 * x1) + x2) 160 ∧ (∀ I15 : zI, I15 = z_up I 67 ((40 * x1) + x2).toNatClampNeg (x3.toInt8.toInt32) → res = (some (.int 1), G, I15))))) ∧ ((f_Z_in x2 0 ((I 66 x1.toNatClampNeg) - 1)) = 0 → res = (some (.int (-12)), G, I)))) ∧ ((I 65 x1.toNatClampNeg) = (-1) → res = (some (.int (-11)), G, I)))) ∧ ((f_Z_in x1 0 3) = 0 → res = (some (.int (-2)), G, I))) :
    Ev X (d + 1) 210 0 [.ref 57, .int x1, .int x2, .int x3] [] G I res := by
  refine Ev_iload_n hq_210 (show decode prog_7_method_84_code 0 = .ok (.iload_n 1, 1) by decide +kernel) rfl ?_
  refine Ev_iconst (v := 0) hq_210 (show decode prog_7_method_84_code 1 = .ok (.iconst 0, 1) by decide +kernel) (by decide) ?_
  refine Ev_iconst (v := 3) hq_210 (show decode prog_7_method_84_code 2 = .ok (.iconst 3, 1) by decide +kernel) (by decide) ?_
  refine Ev_stat (as := [.int x1, .int 0, .int 3]) hq_210 (show decode prog_7_method_84_code 3 = .ok (.invokestatic 90, 3) by decide +kernel) rfl (Or.inl rfl) hq_131 rfl (z_le rfl) (c_Z_in x1 0 3) ?_
  refine Ev_if_ne (tgt := 12) hq_210 (show decode prog_7_method_84_code 6 = .ok (.ifCond .ne 6, 3) by decide +kernel) (by decide) (fun c1 => ?_) (fun c1 => ?_)
  · have k := k.1 c1
    refine Ev_aload_n hq_210 (show decode prog_7_method_84_code 12 = .ok (.aload_n 0, 1) by decide +kernel) rfl ?_
    refine Ev_getR hq_210 (show decode prog_7_method_84_code 13 = .ok (.getfield 31, 3) by decide +kernel) rfl (SGn hS (by decide)) (SGk hS rfl) (by decide) rfl (SGr hS rfl) ?_
    refine Ev_iload_n hq_210 (show decode prog_7_method_84_code 16 = .ok (.iload_n 1, 1) by decide +kernel) rfl ?_
    obtain ⟨h2, k⟩ := k
    refine Ev_iald hq_210 (show decode prog_7_method_84_code 17 = .ok (.iaload, 1) by decide +kernel) (SGn hS (by decide)) (SGk hS rfl) (SGi hS rfl h2) ?_
    refine Ev_iconst (v := (-1)) hq_210 (show decode prog_7_method_84_code 18 = .ok (.iconst (-1), 1) by decide +kernel) (by decide) ?_
    refine Ev_icmp_ne (tgt := 25) hq_210 (show decode prog_7_method_84_code 19 = .ok (.if_icmp .ne 6, 3) by decide +kernel) (by decide) (fun c3 => ?_) (fun c3 => ?_)
    · have k := k.1 c3
      refine Ev_iload_n hq_210 (show decode prog_7_method_84_code 25 = .ok (.iload_n 2, 1) by decide +kernel) rfl ?_
      refine Ev_iconst (v := 0) hq_210 (show decode prog_7_method_84_code 26 = .ok (.iconst 0, 1) by decide +kernel) (by decide) ?_
      refine Ev_aload_n hq_210 (show decode prog_7_method_84_code 27 = .ok (.aload_n 0, 1) by decide +kernel) rfl ?_
      refine Ev_getR hq_210 (show decode prog_7_method_84_code 28 = .ok (.getfield 34, 3) by decide +kernel) rfl (SGn hS (by decide)) (SGk hS rfl) (by decide) rfl (SGr hS rfl) ?_
      refine Ev_iload_n hq_210 (show decode prog_7_method_84_code 31 = .ok (.iload_n 1, 1) by decide +kernel) rfl ?_
      obtain ⟨h4, k⟩ := k
      refine Ev_iald hq_210 (show decode prog_7_method_84_code 32 = .ok (.iaload, 1) by decide +kernel) (SGn hS (by decide)) (SGk hS rfl) (SGi hS rfl h4) ?_
      refine Ev_iconst (v := 1) hq_210 (show decode prog_7_method_84_code 33 = .ok (.iconst 1, 1) by decide +kernel) (by decide) ?_
      refine Ev_isub hq_210 (show decode prog_7_method_84_code 34 = .ok (.isub, 1) by decide +kernel) ?_
      refine Ev_stat (as := [.int x2, .int 0, .int ((I 66 x1.toNatClampNeg) - 1)]) hq_210 (show decode prog_7_method_84_code 35 = .ok (.invokestatic 90, 3) by decide +kernel) rfl (Or.inl rfl) hq_131 rfl (z_le rfl) (c_Z_in x2 0 ((I 66 x1.toNatClampNeg) - 1)) ?_
      refine Ev_if_ne (tgt := 44) hq_210 (show decode prog_7_method_84_code 38 = .ok (.ifCond .ne 6, 3) by decide +kernel) (by decide) (fun c5 => ?_) (fun c5 => ?_)
      · have k := k.1 c5
        refine Ev_aload_n hq_210 (show decode prog_7_method_84_code 44 = .ok (.aload_n 0, 1) by decide +kernel) rfl ?_
        refine Ev_getR hq_210 (show decode prog_7_method_84_code 45 = .ok (.getfield 37, 3) by decide +kernel) rfl (SGn hS (by decide)) (SGk hS rfl) (by decide) rfl (SGr hS rfl) ?_
        refine Ev_bipush (v := 40) hq_210 (show decode prog_7_method_84_code 48 = .ok (.bipush 40, 2) by decide +kernel) (by decide) ?_
        refine Ev_iload_n hq_210 (show decode prog_7_method_84_code 50 = .ok (.iload_n 1, 1) by decide +kernel) rfl ?_
        refine Ev_imul hq_210 (show decode prog_7_method_84_code 51 = .ok (.imul, 1) by decide +kernel) ?_
        refine Ev_iload_n hq_210 (show decode prog_7_method_84_code 52 = .ok (.iload_n 2, 1) by decide +kernel) rfl ?_
        refine Ev_iadd hq_210 (show decode prog_7_method_84_code 53 = .ok (.iadd, 1) by decide +kernel) ?_
        refine Ev_aload_n hq_210 (show decode prog_7_method_84_code 54 = .ok (.aload_n 0, 1) by decide +kernel) rfl ?_
        refine Ev_getR hq_210 (show decode prog_7_method_84_code 55 = .ok (.getfield 31, 3) by decide +kernel) rfl (SGn hS (by decide)) (SGk hS rfl) (by decide) rfl (SGr hS rfl) ?_
        refine Ev_iload_n hq_210 (show decode prog_7_method_84_code 58 = .ok (.iload_n 1, 1) by decide +kernel) rfl ?_
        obtain ⟨h6, k⟩ := k
        refine Ev_iald hq_210 (show decode prog_7_method_84_code 59 = .ok (.iaload, 1) by decide +kernel) (SGn hS (by decide)) (SGk hS rfl) (SGi hS rfl h6) ?_
        refine Ev_if_ne (tgt := 68) hq_210 (show decode prog_7_method_84_code 60 = .ok (.ifCond .ne 8, 3) by decide +kernel) (by decide) (fun c7 => ?_) (fun c7 => ?_)
        · have k := k.1 c7
          refine Ev_aload_n hq_210 (show decode prog_7_method_84_code 68 = .ok (.aload_n 0, 1) by decide +kernel) rfl ?_
          refine Ev_getR hq_210 (show decode prog_7_method_84_code 69 = .ok (.getfield 31, 3) by decide +kernel) rfl (SGn hS (by decide)) (SGk hS rfl) (by decide) rfl (SGr hS rfl) ?_
          refine Ev_iload_n hq_210 (show decode prog_7_method_84_code 72 = .ok (.iload_n 1, 1) by decide +kernel) rfl ?_
          obtain ⟨h8, k⟩ := k
          refine Ev_iald hq_210 (show decode prog_7_method_84_code 73 = .ok (.iaload, 1) by decide +kernel) (SGn hS (by decide)) (SGk hS rfl) (SGi hS rfl h8) ?_
          refine Ev_iconst (v := 1) hq_210 (show decode prog_7_method_84_code 74 = .ok (.iconst 1, 1) by decide +kernel) (by decide) ?_
          refine Ev_icmp_ne (tgt := 83) hq_210 (show decode prog_7_method_84_code 75 = .ok (.if_icmp .ne 8, 3) by decide +kernel) (by decide) (fun c9 => ?_) (fun c9 => ?_)
          · have k := k.1 c9
            refine Ev_iload_n hq_210 (show decode prog_7_method_84_code 83 = .ok (.iload_n 3, 1) by decide +kernel) rfl ?_
            obtain ⟨h10, k⟩ := k
            refine Ev_iast hq_210 (show decode prog_7_method_84_code 84 = .ok (.iastore, 1) by decide +kernel) (SGn hS (by decide)) (SGk hS rfl) (SGi hS rfl h10) ?_
            obtain ⟨I11, eI11⟩ : ∃ I11 : zI, I11 = z_up I 67 ((40 * x1) + x2).toNatClampNeg x3 := ⟨_, rfl⟩
            have k := k I11 eI11
            rw [← eI11]
            refine Ev_iconst (v := 1) hq_210 (show decode prog_7_method_84_code 85 = .ok (.iconst 1, 1) by decide +kernel) (by decide) ?_
            exact Ev_iret hq_210 (show decode prog_7_method_84_code 86 = .ok (.ireturn, 1) by decide +kernel) rfl k
          · have k := k.2 (Classical.not_not.mp c9)
            refine Ev_iload_n hq_210 (show decode prog_7_method_84_code 78 = .ok (.iload_n 3, 1) by decide +kernel) rfl ?_
            refine Ev_i2s hq_210 (show decode prog_7_method_84_code 79 = .ok (.i2s, 1) by decide +kernel) ?_
            refine Ev_goto (tgt := 84) hq_210 (show decode prog_7_method_84_code 80 = .ok (.goto 4, 3) by decide +kernel) (by decide) ?_
            obtain ⟨h12, k⟩ := k
            refine Ev_iast hq_210 (show decode prog_7_method_84_code 84 = .ok (.iastore, 1) by decide +kernel) (SGn hS (by decide)) (SGk hS rfl) (SGi hS rfl h12) ?_
            obtain ⟨I13, eI13⟩ : ∃ I13 : zI, I13 = z_up I 67 ((40 * x1) + x2).toNatClampNeg (x3.toInt16.toInt32) := ⟨_, rfl⟩
            have k := k I13 eI13
            rw [← eI13]
            refine Ev_iconst (v := 1) hq_210 (show decode prog_7_method_84_code 85 = .ok (.iconst 1, 1) by decide +kernel) (by decide) ?_
            exact Ev_iret hq_210 (show decode prog_7_method_84_code 86 = .ok (.ireturn, 1) by decide +kernel) rfl k
        · have k := k.2 (Classical.not_not.mp c7)
          refine Ev_iload_n hq_210 (show decode prog_7_method_84_code 63 = .ok (.iload_n 3, 1) by decide +kernel) rfl ?_
          refine Ev_i2b hq_210 (show decode prog_7_method_84_code 64 = .ok (.i2b, 1) by decide +kernel) ?_
          refine Ev_goto (tgt := 84) hq_210 (show decode prog_7_method_84_code 65 = .ok (.goto 19, 3) by decide +kernel) (by decide) ?_
          obtain ⟨h14, k⟩ := k
          refine Ev_iast hq_210 (show decode prog_7_method_84_code 84 = .ok (.iastore, 1) by decide +kernel) (SGn hS (by decide)) (SGk hS rfl) (SGi hS rfl h14) ?_
          obtain ⟨I15, eI15⟩ : ∃ I15 : zI, I15 = z_up I 67 ((40 * x1) + x2).toNatClampNeg (x3.toInt8.toInt32) := ⟨_, rfl⟩
          have k := k I15 eI15
          rw [← eI15]
          refine Ev_iconst (v := 1) hq_210 (show decode prog_7_method_84_code 85 = .ok (.iconst 1, 1) by decide +kernel) (by decide) ?_
          exact Ev_iret hq_210 (show decode prog_7_method_84_code 86 = .ok (.ireturn, 1) by decide +kernel) rfl k
      · have k := k.2 (Classical.not_not.mp c5)
        refine Ev_bipush (v := (-12)) hq_210 (show decode prog_7_method_84_code 41 = .ok (.bipush (-12), 2) by decide +kernel) (by decide) ?_
        exact Ev_iret hq_210 (show decode prog_7_method_84_code 43 = .ok (.ireturn, 1) by decide +kernel) rfl k
    · have k := k.2 (Classical.not_not.mp c3)
      refine Ev_bipush (v := (-11)) hq_210 (show decode prog_7_method_84_code 22 = .ok (.bipush (-11), 2) by decide +kernel) (by decide) ?_
      exact Ev_iret hq_210 (show decode prog_7_method_84_code 24 = .ok (.ireturn, 1) by decide +kernel) rfl k
  · have k := k.2 (Classical.not_not.mp c1)
    refine Ev_bipush (v := (-2)) hq_210 (show decode prog_7_method_84_code 9 = .ok (.bipush (-2), 2) by decide +kernel) (by decide) ?_
    exact Ev_iret hq_210 (show decode prog_7_method_84_code 11 = .ok (.ireturn, 1) by decide +kernel) rfl k
set_option maxRecDepth 20000 in
theorem wp_Z_copy {X : Nat × (Nat → Int32)} {d : Nat} {G : zG} {I : zI} {res : Option Value × zG × zI} (x1 : Int32) (x2 : Int32) (x3 : Int32) (x4 : Int32) (x5 : Int32) (hS : SG G) 
    (k : ((f_Z_in x1 0 3) = 0 → res = (some (.int (-2)), G, I)) ∧ (¬ (f_Z_in x1 0 3) = 0 → (¬ (f_Z_in x3 0 3) = 0 → z_inr x1 4 ∧ (((I 65 x1.toNatClampNeg) = (-1) → res = (some (.int (-11)), G, I)) ∧ (¬ (I 65 x1.toNatClampNeg) = (-1) → z_inr x3 4 ∧ ((¬ (I 65 x3.toNatClampNeg) = (-1) → z_inr x1 4 ∧ (z_inr x3 4 ∧ (((I 65 x1.toNatClampNeg) = (I 65 x3.toNatClampNeg) → (x5 < 0 → res = (some (.int (-12)), G, I)) ∧ (¬ x5 < 0 → (x2 < 0 → res = (some (.int (-12)), G, I)) ∧ (¬ x2 < 0 → (x4 < 0 → res = (some (.int (-12)), G, I)) ∧ (¬ x4 < 0 → z_inr x1 4 ∧ (((I 66 x1.toNatClampNeg) < x2 → res = (some (.int (-12)), G, I)) ∧ (¬ (I 66 x1.toNatClampNeg) < x2 → z_inr x3 4 ∧ (((I 66 x3.toNatClampNeg) < x4 → res = (some (.int (-12)), G, I)) ∧ (¬ (I 66 x3.toNatClampNeg) < x4 → z_inr x1 4 ∧ ((((I 66 x1.toNatClampNeg) - x2) < x5 → res = (some (.int (-12)), G, I)) ∧ (¬ ((I 66 x1.toNatClampNeg) - x2) < x5 → z_inr x3 4 ∧ ((x5 ≤ ((I 66 x3.toNatClampNeg) - x4) → ∀ y21 : Int32, y21 = ((40 * x1) + x2) → ∀ y22 : Int32, y22 = ((40 * x3) + x4) → Ev X (d + 1) 211 147 [.ref 57, .int x1, .int x2, .int x3, .int x4, .int x5, .int y21, .int y22, .int 0, zU] [] G I res) ∧ (¬ x5 ≤ ((I 66 x3.toNatClampNeg) - x4) → res = (some (.int (-12)), G, I))))))))))))) ∧ (¬ (I 65 x1.toNatClampNeg) = (I 65 x3.toNatClampNeg) → res = (some (.int (-13)), G, I))))) ∧ ((I 65 x3.toNatClampNeg) = (-1) → res = (some (.int (-11)), G, I)))))) ∧ ((f_Z_in x3 0 3) = 0 → res = (some (.int (-2)), G, I)))) :
    Ev X (d + 1) 211 0 [.ref 57, .int x1, .int x2, .int x3, .int x4, .int x5, zU, zU, zU, zU] [] G I res := by
  refine Ev_iload_n hq_211 (show decode prog_7_method_85_code 0 = .ok (.iload_n 1, 1) by decide +kernel) rfl ?_
  refine Ev_iconst (v := 0) hq_211 (show decode prog_7_method_85_code 1 = .ok (.iconst 0, 1) by decide +kernel) (by decide) ?_
  refine Ev_iconst (v := 3) hq_211 (show decode prog_7_method_85_code 2 = .ok (.iconst 3, 1) by decide +kernel) (by decide) ?_
  refine Ev_stat (as := [.int x1, .int 0, .int 3]) hq_211 (show decode prog_7_method_85_code 3 = .ok (.invokestatic 90, 3) by decide +kernel) rfl (Or.inl rfl) hq_131 rfl (z_le rfl) (c_Z_in x1 0 3) ?_
  refine Ev_if_eq (tgt := 18) hq_211 (show decode prog_7_method_85_code 6 = .ok (.ifCond .eq 12, 3) by decide +kernel) (by decide) (fun c1 => ?_) (fun c1 => ?_)
  · have k := k.1 c1
    refine Ev_bipush (v := (-2)) hq_211 (show decode prog_7_method_85_code 18 = .ok (.bipush (-2), 2) by decide +kernel) (by decide) ?_
    exact Ev_iret hq_211 (show decode prog_7_method_85_code 20 = .ok (.ireturn, 1) by decide +kernel) rfl k
  · have k := k.2 c1
    refine Ev_iload_n hq_211 (show decode prog_7_method_85_code 9 = .ok (.iload_n 3, 1) by decide +kernel) rfl ?_
    refine Ev_iconst (v := 0) hq_211 (show decode prog_7_method_85_code 10 = .ok (.iconst 0, 1) by decide +kernel) (by decide) ?_
    refine Ev_iconst (v := 3) hq_211 (show decode prog_7_method_85_code 11 = .ok (.iconst 3, 1) by decide +kernel) (by decide) ?_
    refine Ev_stat (as := [.int x3, .int 0, .int 3]) hq_211 (show decode prog_7_method_85_code 12 = .ok (.invokestatic 90, 3) by decide +kernel) rfl (Or.inl rfl) hq_131 rfl (z_le rfl) (c_Z_in x3 0 3) ?_
    refine Ev_if_ne (tgt := 21) hq_211 (show decode prog_7_method_85_code 15 = .ok (.ifCond .ne 6, 3) by decide +kernel) (by decide) (fun c2 => ?_) (fun c2 => ?_)
    · have k := k.1 c2
      refine Ev_aload_n hq_211 (show decode prog_7_method_85_code 21 = .ok (.aload_n 0, 1) by decide +kernel) rfl ?_
      refine Ev_getR hq_211 (show decode prog_7_method_85_code 22 = .ok (.getfield 31, 3) by decide +kernel) rfl (SGn hS (by decide)) (SGk hS rfl) (by decide) rfl (SGr hS rfl) ?_
      refine Ev_iload_n hq_211 (show decode prog_7_method_85_code 25 = .ok (.iload_n 1, 1) by decide +kernel) rfl ?_
      obtain ⟨h3, k⟩ := k
      refine Ev_iald hq_211 (show decode prog_7_method_85_code 26 = .ok (.iaload, 1) by decide +kernel) (SGn hS (by decide)) (SGk hS rfl) (SGi hS rfl h3) ?_
      refine Ev_iconst (v := (-1)) hq_211 (show decode prog_7_method_85_code 27 = .ok (.iconst (-1), 1) by decide +kernel) (by decide) ?_
      refine Ev_icmp_eq (tgt := 41) hq_211 (show decode prog_7_method_85_code 28 = .ok (.if_icmp .eq 13, 3) by decide +kernel) (by decide) (fun c4 => ?_) (fun c4 => ?_)
      · have k := k.1 c4
        refine Ev_bipush (v := (-11)) hq_211 (show decode prog_7_method_85_code 41 = .ok (.bipush (-11), 2) by decide +kernel) (by decide) ?_
        exact Ev_iret hq_211 (show decode prog_7_method_85_code 43 = .ok (.ireturn, 1) by decide +kernel) rfl k
      · have k := k.2 c4
        refine Ev_aload_n hq_211 (show decode prog_7_method_85_code 31 = .ok (.aload_n 0, 1) by decide +kernel) rfl ?_
        refine Ev_getR hq_211 (show decode prog_7_method_85_code 32 = .ok (.getfield 31, 3) by decide +kernel) rfl (SGn hS (by decide)) (SGk hS rfl) (by decide) rfl (SGr hS rfl) ?_
        refine Ev_iload_n hq_211 (show decode prog_7_method_85_code 35 = .ok (.iload_n 3, 1) by decide +kernel) rfl ?_
        obtain ⟨h5, k⟩ := k
        refine Ev_iald hq_211 (show decode prog_7_method_85_code 36 = .ok (.iaload, 1) by decide +kernel) (SGn hS (by decide)) (SGk hS rfl) (SGi hS rfl h5) ?_
        refine Ev_iconst (v := (-1)) hq_211 (show decode prog_7_method_85_code 37 = .ok (.iconst (-1), 1) by decide +kernel) (by decide) ?_
        refine Ev_icmp_ne (tgt := 44) hq_211 (show decode prog_7_method_85_code 38 = .ok (.if_icmp .ne 6, 3) by decide +kernel) (by decide) (fun c6 => ?_) (fun c6 => ?_)
        · have k := k.1 c6
          refine Ev_aload_n hq_211 (show decode prog_7_method_85_code 44 = .ok (.aload_n 0, 1) by decide +kernel) rfl ?_
          refine Ev_getR hq_211 (show decode prog_7_method_85_code 45 = .ok (.getfield 31, 3) by decide +kernel) rfl (SGn hS (by decide)) (SGk hS rfl) (by decide) rfl (SGr hS rfl) ?_
          refine Ev_iload_n hq_211 (show decode prog_7_method_85_code 48 = .ok (.iload_n 1, 1) by decide +kernel) rfl ?_
          obtain ⟨h7, k⟩ := k
          refine Ev_iald hq_211 (show decode prog_7_method_85_code 49 = .ok (.iaload, 1) by decide +kernel) (SGn hS (by decide)) (SGk hS rfl) (SGi hS rfl h7) ?_
          refine Ev_aload_n hq_211 (show decode prog_7_method_85_code 50 = .ok (.aload_n 0, 1) by decide +kernel) rfl ?_
          refine Ev_getR hq_211 (show decode prog_7_method_85_code 51 = .ok (.getfield 31, 3) by decide +kernel) rfl (SGn hS (by decide)) (SGk hS rfl) (by decide) rfl (SGr hS rfl) ?_
          refine Ev_iload_n hq_211 (show decode prog_7_method_85_code 54 = .ok (.iload_n 3, 1) by decide +kernel) rfl ?_
          obtain ⟨h8, k⟩ := k
          refine Ev_iald hq_211 (show decode prog_7_method_85_code 55 = .ok (.iaload, 1) by decide +kernel) (SGn hS (by decide)) (SGk hS rfl) (SGi hS rfl h8) ?_
          refine Ev_icmp_eq (tgt := 62) hq_211 (show decode prog_7_method_85_code 56 = .ok (.if_icmp .eq 6, 3) by decide +kernel) (by decide) (fun c9 => ?_) (fun c9 => ?_)
          · have k := k.1 c9
            refine Ev_iload hq_211 (show decode prog_7_method_85_code 62 = .ok (.iload 5, 2) by decide +kernel) rfl ?_
            refine Ev_if_lt (tgt := 124) hq_211 (show decode prog_7_method_85_code 64 = .ok (.ifCond .lt 60, 3) by decide +kernel) (by decide) (fun c10 => ?_) (fun c10 => ?_)
            · have k := k.1 c10
              refine Ev_bipush (v := (-12)) hq_211 (show decode prog_7_method_85_code 124 = .ok (.bipush (-12), 2) by decide +kernel) (by decide) ?_
              exact Ev_iret hq_211 (show decode prog_7_method_85_code 126 = .ok (.ireturn, 1) by decide +kernel) rfl k
            · have k := k.2 c10
              refine Ev_iload_n hq_211 (show decode prog_7_method_85_code 67 = .ok (.iload_n 2, 1) by decide +kernel) rfl ?_
              refine Ev_if_lt (tgt := 124) hq_211 (show decode prog_7_method_85_code 68 = .ok (.ifCond .lt 56, 3) by decide +kernel) (by decide) (fun c11 => ?_) (fun c11 => ?_)
              · have k := k.1 c11
                refine Ev_bipush (v := (-12)) hq_211 (show decode prog_7_method_85_code 124 = .ok (.bipush (-12), 2) by decide +kernel) (by decide) ?_
                exact Ev_iret hq_211 (show decode prog_7_method_85_code 126 = .ok (.ireturn, 1) by decide +kernel) rfl k
              · have k := k.2 c11
                refine Ev_iload hq_211 (show decode prog_7_method_85_code 71 = .ok (.iload 4, 2) by decide +kernel) rfl ?_
                refine Ev_if_lt (tgt := 124) hq_211 (show decode prog_7_method_85_code 73 = .ok (.ifCond .lt 51, 3) by decide +kernel) (by decide) (fun c12 => ?_) (fun c12 => ?_)
                · have k := k.1 c12
                  refine Ev_bipush (v := (-12)) hq_211 (show decode prog_7_method_85_code 124 = .ok (.bipush (-12), 2) by decide +kernel) (by decide) ?_
                  exact Ev_iret hq_211 (show decode prog_7_method_85_code 126 = .ok (.ireturn, 1) by decide +kernel) rfl k
                · have k := k.2 c12
                  refine Ev_iload_n hq_211 (show decode prog_7_method_85_code 76 = .ok (.iload_n 2, 1) by decide +kernel) rfl ?_
                  refine Ev_aload_n hq_211 (show decode prog_7_method_85_code 77 = .ok (.aload_n 0, 1) by decide +kernel) rfl ?_
                  refine Ev_getR hq_211 (show decode prog_7_method_85_code 78 = .ok (.getfield 34, 3) by decide +kernel) rfl (SGn hS (by decide)) (SGk hS rfl) (by decide) rfl (SGr hS rfl) ?_
                  refine Ev_iload_n hq_211 (show decode prog_7_method_85_code 81 = .ok (.iload_n 1, 1) by decide +kernel) rfl ?_
                  obtain ⟨h13, k⟩ := k
                  refine Ev_iald hq_211 (show decode prog_7_method_85_code 82 = .ok (.iaload, 1) by decide +kernel) (SGn hS (by decide)) (SGk hS rfl) (SGi hS rfl h13) ?_
                  refine Ev_icmp_gt (tgt := 124) hq_211 (show decode prog_7_method_85_code 83 = .ok (.if_icmp .gt 41, 3) by decide +kernel) (by decide) (fun c14 => ?_) (fun c14 => ?_)
                  · have k := k.1 c14
                    refine Ev_bipush (v := (-12)) hq_211 (show decode prog_7_method_85_code 124 = .ok (.bipush (-12), 2) by decide +kernel) (by decide) ?_
                    exact Ev_iret hq_211 (show decode prog_7_method_85_code 126 = .ok (.ireturn, 1) by decide +kernel) rfl k
                  · have k := k.2 c14
                    refine Ev_iload hq_211 (show decode prog_7_method_85_code 86 = .ok (.iload 4, 2) by decide +kernel) rfl ?_
                    refine Ev_aload_n hq_211 (show decode prog_7_method_85_code 88 = .ok (.aload_n 0, 1) by decide +kernel) rfl ?_
                    refine Ev_getR hq_211 (show decode prog_7_method_85_code 89 = .ok (.getfield 34, 3) by decide +kernel) rfl (SGn hS (by decide)) (SGk hS rfl) (by decide) rfl (SGr hS rfl) ?_
                    refine Ev_iload_n hq_211 (show decode prog_7_method_85_code 92 = .ok (.iload_n 3, 1) by decide +kernel) rfl ?_
                    obtain ⟨h15, k⟩ := k
                    refine Ev_iald hq_211 (show decode prog_7_method_85_code 93 = .ok (.iaload, 1) by decide +kernel) (SGn hS (by decide)) (SGk hS rfl) (SGi hS rfl h15) ?_
                    refine Ev_icmp_gt (tgt := 124) hq_211 (show decode prog_7_method_85_code 94 = .ok (.if_icmp .gt 30, 3) by decide +kernel) (by decide) (fun c16 => ?_) (fun c16 => ?_)
                    · have k := k.1 c16
                      refine Ev_bipush (v := (-12)) hq_211 (show decode prog_7_method_85_code 124 = .ok (.bipush (-12), 2) by decide +kernel) (by decide) ?_
                      exact Ev_iret hq_211 (show decode prog_7_method_85_code 126 = .ok (.ireturn, 1) by decide +kernel) rfl k
                    · have k := k.2 c16
                      refine Ev_iload hq_211 (show decode prog_7_method_85_code 97 = .ok (.iload 5, 2) by decide +kernel) rfl ?_
                      refine Ev_aload_n hq_211 (show decode prog_7_method_85_code 99 = .ok (.aload_n 0, 1) by decide +kernel) rfl ?_
                      refine Ev_getR hq_211 (show decode prog_7_method_85_code 100 = .ok (.getfield 34, 3) by decide +kernel) rfl (SGn hS (by decide)) (SGk hS rfl) (by decide) rfl (SGr hS rfl) ?_
                      refine Ev_iload_n hq_211 (show decode prog_7_method_85_code 103 = .ok (.iload_n 1, 1) by decide +kernel) rfl ?_
                      obtain ⟨h17, k⟩ := k
                      refine Ev_iald hq_211 (show decode prog_7_method_85_code 104 = .ok (.iaload, 1) by decide +kernel) (SGn hS (by decide)) (SGk hS rfl) (SGi hS rfl h17) ?_
                      refine Ev_iload_n hq_211 (show decode prog_7_method_85_code 105 = .ok (.iload_n 2, 1) by decide +kernel) rfl ?_
                      refine Ev_isub hq_211 (show decode prog_7_method_85_code 106 = .ok (.isub, 1) by decide +kernel) ?_
                      refine Ev_icmp_gt (tgt := 124) hq_211 (show decode prog_7_method_85_code 107 = .ok (.if_icmp .gt 17, 3) by decide +kernel) (by decide) (fun c18 => ?_) (fun c18 => ?_)
                      · have k := k.1 c18
                        refine Ev_bipush (v := (-12)) hq_211 (show decode prog_7_method_85_code 124 = .ok (.bipush (-12), 2) by decide +kernel) (by decide) ?_
                        exact Ev_iret hq_211 (show decode prog_7_method_85_code 126 = .ok (.ireturn, 1) by decide +kernel) rfl k
                      · have k := k.2 c18
                        refine Ev_iload hq_211 (show decode prog_7_method_85_code 110 = .ok (.iload 5, 2) by decide +kernel) rfl ?_
                        refine Ev_aload_n hq_211 (show decode prog_7_method_85_code 112 = .ok (.aload_n 0, 1) by decide +kernel) rfl ?_
                        refine Ev_getR hq_211 (show decode prog_7_method_85_code 113 = .ok (.getfield 34, 3) by decide +kernel) rfl (SGn hS (by decide)) (SGk hS rfl) (by decide) rfl (SGr hS rfl) ?_
                        refine Ev_iload_n hq_211 (show decode prog_7_method_85_code 116 = .ok (.iload_n 3, 1) by decide +kernel) rfl ?_
                        obtain ⟨h19, k⟩ := k
                        refine Ev_iald hq_211 (show decode prog_7_method_85_code 117 = .ok (.iaload, 1) by decide +kernel) (SGn hS (by decide)) (SGk hS rfl) (SGi hS rfl h19) ?_
                        refine Ev_iload hq_211 (show decode prog_7_method_85_code 118 = .ok (.iload 4, 2) by decide +kernel) rfl ?_
                        refine Ev_isub hq_211 (show decode prog_7_method_85_code 120 = .ok (.isub, 1) by decide +kernel) ?_
                        refine Ev_icmp_le (tgt := 127) hq_211 (show decode prog_7_method_85_code 121 = .ok (.if_icmp .le 6, 3) by decide +kernel) (by decide) (fun c20 => ?_) (fun c20 => ?_)
                        · have k := k.1 c20
                          refine Ev_bipush (v := 40) hq_211 (show decode prog_7_method_85_code 127 = .ok (.bipush 40, 2) by decide +kernel) (by decide) ?_
                          refine Ev_iload_n hq_211 (show decode prog_7_method_85_code 129 = .ok (.iload_n 1, 1) by decide +kernel) rfl ?_
                          refine Ev_imul hq_211 (show decode prog_7_method_85_code 130 = .ok (.imul, 1) by decide +kernel) ?_
                          refine Ev_iload_n hq_211 (show decode prog_7_method_85_code 131 = .ok (.iload_n 2, 1) by decide +kernel) rfl ?_
                          refine Ev_iadd hq_211 (show decode prog_7_method_85_code 132 = .ok (.iadd, 1) by decide +kernel) ?_
                          obtain ⟨y21, ey21⟩ : ∃ y21 : Int32, y21 = ((40 * x1) + x2) := ⟨_, rfl⟩
                          have k := k y21 ey21
                          rw [← ey21]
                          refine Ev_istore (lo2 := [.ref 57, .int x1, .int x2, .int x3, .int x4, .int x5, .int y21, zU, zU, zU]) hq_211 (show decode prog_7_method_85_code 133 = .ok (.istore 6, 2) by decide +kernel) (z_le rfl) rfl ?_
                          refine Ev_bipush (v := 40) hq_211 (show decode prog_7_method_85_code 135 = .ok (.bipush 40, 2) by decide +kernel) (by decide) ?_
                          refine Ev_iload_n hq_211 (show decode prog_7_method_85_code 137 = .ok (.iload_n 3, 1) by decide +kernel) rfl ?_
                          refine Ev_imul hq_211 (show decode prog_7_method_85_code 138 = .ok (.imul, 1) by decide +kernel) ?_
                          refine Ev_iload hq_211 (show decode prog_7_method_85_code 139 = .ok (.iload 4, 2) by decide +kernel) rfl ?_
                          refine Ev_iadd hq_211 (show decode prog_7_method_85_code 141 = .ok (.iadd, 1) by decide +kernel) ?_
                          obtain ⟨y22, ey22⟩ : ∃ y22 : Int32, y22 = ((40 * x3) + x4) := ⟨_, rfl⟩
                          have k := k y22 ey22
                          rw [← ey22]
                          refine Ev_istore (lo2 := [.ref 57, .int x1, .int x2, .int x3, .int x4, .int x5, .int y21, .int y22, zU, zU]) hq_211 (show decode prog_7_method_85_code 142 = .ok (.istore 7, 2) by decide +kernel) (z_le rfl) rfl ?_
                          refine Ev_iconst (v := 0) hq_211 (show decode prog_7_method_85_code 144 = .ok (.iconst 0, 1) by decide +kernel) (by decide) ?_
                          refine Ev_istore (lo2 := [.ref 57, .int x1, .int x2, .int x3, .int x4, .int x5, .int y21, .int y22, .int 0, zU]) hq_211 (show decode prog_7_method_85_code 145 = .ok (.istore 8, 2) by decide +kernel) (z_le rfl) rfl ?_
                          exact k
                        · have k := k.2 c20
                          refine Ev_bipush (v := (-12)) hq_211 (show decode prog_7_method_85_code 124 = .ok (.bipush (-12), 2) by decide +kernel) (by decide) ?_
                          exact Ev_iret hq_211 (show decode prog_7_method_85_code 126 = .ok (.ireturn, 1) by decide +kernel) rfl k
          · have k := k.2 c9
            refine Ev_bipush (v := (-13)) hq_211 (show decode prog_7_method_85_code 59 = .ok (.bipush (-13), 2) by decide +kernel) (by decide) ?_
            exact Ev_iret hq_211 (show decode prog_7_method_85_code 61 = .ok (.ireturn, 1) by decide +kernel) rfl k
        · have k := k.2 (Classical.not_not.mp c6)
          refine Ev_bipush (v := (-11)) hq_211 (show decode prog_7_method_85_code 41 = .ok (.bipush (-11), 2) by decide +kernel) (by decide) ?_
          exact Ev_iret hq_211 (show decode prog_7_method_85_code 43 = .ok (.ireturn, 1) by decide +kernel) rfl k
    · have k := k.2 (Classical.not_not.mp c2)
      refine Ev_bipush (v := (-2)) hq_211 (show decode prog_7_method_85_code 18 = .ok (.bipush (-2), 2) by decide +kernel) (by decide) ?_
      exact Ev_iret hq_211 (show decode prog_7_method_85_code 20 = .ok (.ireturn, 1) by decide +kernel) rfl k
set_option maxRecDepth 20000 in
theorem wp_Z_copy_147 {X : Nat × (Nat → Int32)} {d : Nat} {G : zG} {I : zI} {res : Option Value × zG × zI} (x1 : Int32) (x2 : Int32) (x3 : Int32) (x4 : Int32) (x5 : Int32) (x6 : Int32) (x7 : Int32) (x8 : Int32) (v9 : Value) (cv9 : v9.category = 1) (hS : SG G) 
    (k : (x5 ≤ x8 → res = (some (.int x5), G, I)) ∧ (¬ x5 ≤ x8 → (x7 ≤ x6 → z_inr (x6 + x8) 160 ∧ (z_inr (x7 + x8) 160 ∧ (∀ I5 : zI, I5 = z_up I 67 (x7 + x8).toNatClampNeg (I 67 (x6 + x8).toNatClampNeg) → ∀ y6 : Int32, y6 = x8 + 1 → Ev X d 211 147 [.ref 57, .int x1, .int x2, .int x3, .int x4, .int x5, .int x6, .int x7, .int y6, .int x8] [] G I5 res))) ∧ (¬ x7 ≤ x6 → ∀ y7 : Int32, y7 = ((x5 - 1) - x8) → z_inr (x6 + y7) 160 ∧ (z_inr (x7 + y7) 160 ∧ (∀ I10 : zI, I10 = z_up I 67 (x7 + y7).toNatClampNeg (I 67 (x6 + y7).toNatClampNeg) → ∀ y11 : Int32, y11 = x8 + 1 → Ev X d 211 147 [.ref 57, .int x1, .int x2, .int x3, .int x4, .int x5, .int x6, .int x7, .int y11, .int y7] [] G I10 res))))) :
    Ev X d 211 147 [.ref 57, .int x1, .int x2, .int x3, .int x4, .int x5, .int x6, .int x7, .int x8, v9] [] G I res := by
  refine Ev_iload hq_211 (show decode prog_7_method_85_code 147 = .ok (.iload 8, 2) by decide +kernel) rfl ?_
  refine Ev_iload hq_211 (show decode prog_7_method_85_code 149 = .ok (.iload 5, 2) by decide +kernel) rfl ?_
  refine Ev_icmp_ge (tgt := 201) hq_211 (show decode prog_7_method_85_code 151 = .ok (.if_icmp .ge 50, 3) by decide +kernel) (by decide) (fun c1 => ?_) (fun c1 => ?_)
  · have k := k.1 c1
    refine Ev_iload hq_211 (show decode prog_7_method_85_code 201 = .ok (.iload 5, 2) by decide +kernel) rfl ?_
    exact Ev_iret hq_211 (show decode prog_7_method_85_code 203 = .ok (.ireturn, 1) by decide +kernel) rfl k
  · have k := k.2 c1
    refine Ev_iload hq_211 (show decode prog_7_method_85_code 154 = .ok (.iload 6, 2) by decide +kernel) rfl ?_
    refine Ev_iload hq_211 (show decode prog_7_method_85_code 156 = .ok (.iload 7, 2) by decide +kernel) rfl ?_
    refine Ev_icmp_ge (tgt := 171) hq_211 (show decode prog_7_method_85_code 158 = .ok (.if_icmp .ge 13, 3) by decide +kernel) (by decide) (fun c2 => ?_) (fun c2 => ?_)
    · have k := k.1 c2
      refine Ev_iload hq_211 (show decode prog_7_method_85_code 171 = .ok (.iload 8, 2) by decide +kernel) rfl ?_
      refine Ev_istore (lo2 := [.ref 57, .int x1, .int x2, .int x3, .int x4, .int x5, .int x6, .int x7, .int x8, .int x8]) hq_211 (show decode prog_7_method_85_code 173 = .ok (.istore 9, 2) by decide +kernel) (z_le rfl) rfl ?_
      refine Ev_aload_n hq_211 (show decode prog_7_method_85_code 175 = .ok (.aload_n 0, 1) by decide +kernel) rfl ?_
      refine Ev_getR hq_211 (show decode prog_7_method_85_code 176 = .ok (.getfield 37, 3) by decide +kernel) rfl (SGn hS (by decide)) (SGk hS rfl) (by decide) rfl (SGr hS rfl) ?_
      refine Ev_iload hq_211 (show decode prog_7_method_85_code 179 = .ok (.iload 7, 2) by decide +kernel) rfl ?_
      refine Ev_iload hq_211 (show decode prog_7_method_85_code 181 = .ok (.iload 9, 2) by decide +kernel) rfl ?_
      refine Ev_iadd hq_211 (show decode prog_7_method_85_code 183 = .ok (.iadd, 1) by decide +kernel) ?_
      refine Ev_aload_n hq_211 (show decode prog_7_method_85_code 184 = .ok (.aload_n 0, 1) by decide +kernel) rfl ?_
      refine Ev_getR hq_211 (show decode prog_7_method_85_code 185 = .ok (.getfield 37, 3) by decide +kernel) rfl (SGn hS (by decide)) (SGk hS rfl) (by decide) rfl (SGr hS rfl) ?_
      refine Ev_iload hq_211 (show decode prog_7_method_85_code 188 = .ok (.iload 6, 2) by decide +kernel) rfl ?_
      refine Ev_iload hq_211 (show decode prog_7_method_85_code 190 = .ok (.iload 9, 2) by decide +kernel) rfl ?_
      refine Ev_iadd hq_211 (show decode prog_7_method_85_code 192 = .ok (.iadd, 1) by decide +kernel) ?_
      obtain ⟨h3, k⟩ := k
      refine Ev_iald hq_211 (show decode prog_7_method_85_code 193 = .ok (.iaload, 1) by decide +kernel) (SGn hS (by decide)) (SGk hS rfl) (SGi hS rfl h3) ?_
      obtain ⟨h4, k⟩ := k
      refine Ev_iast hq_211 (show decode prog_7_method_85_code 194 = .ok (.iastore, 1) by decide +kernel) (SGn hS (by decide)) (SGk hS rfl) (SGi hS rfl h4) ?_
      obtain ⟨I5, eI5⟩ : ∃ I5 : zI, I5 = z_up I 67 (x7 + x8).toNatClampNeg (I 67 (x6 + x8).toNatClampNeg) := ⟨_, rfl⟩
      have k := k I5 eI5
      rw [← eI5]
      obtain ⟨y6, ey6⟩ : ∃ y6 : Int32, y6 = x8 + 1 := ⟨_, rfl⟩
      have k := k y6 ey6
      refine Ev_iinc (v := y6) (lo2 := [.ref 57, .int x1, .int x2, .int x3, .int x4, .int x5, .int x6, .int x7, .int y6, .int x8]) hq_211 (show decode prog_7_method_85_code 195 = .ok (.iinc 8 1, 3) by decide +kernel) rfl (by rw [ey6]; rfl) rfl ?_
      refine Ev_goto (tgt := 147) hq_211 (show decode prog_7_method_85_code 198 = .ok (.goto (-51), 3) by decide +kernel) (by decide) ?_
      exact k
    · have k := k.2 c2
      refine Ev_iload hq_211 (show decode prog_7_method_85_code 161 = .ok (.iload 5, 2) by decide +kernel) rfl ?_
      refine Ev_iconst (v := 1) hq_211 (show decode prog_7_method_85_code 163 = .ok (.iconst 1, 1) by decide +kernel) (by decide) ?_
      refine Ev_isub hq_211 (show decode prog_7_method_85_code 164 = .ok (.isub, 1) by decide +kernel) ?_
      refine Ev_iload hq_211 (show decode prog_7_method_85_code 165 = .ok (.iload 8, 2) by decide +kernel) rfl ?_
      refine Ev_isub hq_211 (show decode prog_7_method_85_code 167 = .ok (.isub, 1) by decide +kernel) ?_
      refine Ev_goto (tgt := 173) hq_211 (show decode prog_7_method_85_code 168 = .ok (.goto 5, 3) by decide +kernel) (by decide) ?_
      obtain ⟨y7, ey7⟩ : ∃ y7 : Int32, y7 = ((x5 - 1) - x8) := ⟨_, rfl⟩
      have k := k y7 ey7
      rw [← ey7]
      refine Ev_istore (lo2 := [.ref 57, .int x1, .int x2, .int x3, .int x4, .int x5, .int x6, .int x7, .int x8, .int y7]) hq_211 (show decode prog_7_method_85_code 173 = .ok (.istore 9, 2) by decide +kernel) (z_le rfl) rfl ?_
      refine Ev_aload_n hq_211 (show decode prog_7_method_85_code 175 = .ok (.aload_n 0, 1) by decide +kernel) rfl ?_
      refine Ev_getR hq_211 (show decode prog_7_method_85_code 176 = .ok (.getfield 37, 3) by decide +kernel) rfl (SGn hS (by decide)) (SGk hS rfl) (by decide) rfl (SGr hS rfl) ?_
      refine Ev_iload hq_211 (show decode prog_7_method_85_code 179 = .ok (.iload 7, 2) by decide +kernel) rfl ?_
      refine Ev_iload hq_211 (show decode prog_7_method_85_code 181 = .ok (.iload 9, 2) by decide +kernel) rfl ?_
      refine Ev_iadd hq_211 (show decode prog_7_method_85_code 183 = .ok (.iadd, 1) by decide +kernel) ?_
      refine Ev_aload_n hq_211 (show decode prog_7_method_85_code 184 = .ok (.aload_n 0, 1) by decide +kernel) rfl ?_
      refine Ev_getR hq_211 (show decode prog_7_method_85_code 185 = .ok (.getfield 37, 3) by decide +kernel) rfl (SGn hS (by decide)) (SGk hS rfl) (by decide) rfl (SGr hS rfl) ?_
      refine Ev_iload hq_211 (show decode prog_7_method_85_code 188 = .ok (.iload 6, 2) by decide +kernel) rfl ?_
      refine Ev_iload hq_211 (show decode prog_7_method_85_code 190 = .ok (.iload 9, 2) by decide +kernel) rfl ?_
      refine Ev_iadd hq_211 (show decode prog_7_method_85_code 192 = .ok (.iadd, 1) by decide +kernel) ?_
      obtain ⟨h8, k⟩ := k
      refine Ev_iald hq_211 (show decode prog_7_method_85_code 193 = .ok (.iaload, 1) by decide +kernel) (SGn hS (by decide)) (SGk hS rfl) (SGi hS rfl h8) ?_
      obtain ⟨h9, k⟩ := k
      refine Ev_iast hq_211 (show decode prog_7_method_85_code 194 = .ok (.iastore, 1) by decide +kernel) (SGn hS (by decide)) (SGk hS rfl) (SGi hS rfl h9) ?_
      obtain ⟨I10, eI10⟩ : ∃ I10 : zI, I10 = z_up I 67 (x7 + y7).toNatClampNeg (I 67 (x6 + y7).toNatClampNeg) := ⟨_, rfl⟩
      have k := k I10 eI10
      rw [← eI10]
      obtain ⟨y11, ey11⟩ : ∃ y11 : Int32, y11 = x8 + 1 := ⟨_, rfl⟩
      have k := k y11 ey11
      refine Ev_iinc (v := y11) (lo2 := [.ref 57, .int x1, .int x2, .int x3, .int x4, .int x5, .int x6, .int x7, .int y11, .int y7]) hq_211 (show decode prog_7_method_85_code 195 = .ok (.iinc 8 1, 3) by decide +kernel) rfl (by rw [ey11]; rfl) rfl ?_
      refine Ev_goto (tgt := 147) hq_211 (show decode prog_7_method_85_code 198 = .ok (.goto (-51), 3) by decide +kernel) (by decide) ?_
      exact k
set_option maxRecDepth 20000 in
theorem wp_Z_showersBy {X : Nat × (Nat → Int32)} {d : Nat} {G : zG} {I : zI} {res : Option Value × zG × zI} (x1 : Int32) (x2 : Int32) (x3 : Int32) (x4 : Int32) (hS : SG G) 
    (k : ((f_Z_in x1 0 3) = 0 → res = (some (.int (-2)), G, I)) ∧ (¬ (f_Z_in x1 0 3) = 0 → ((f_Z_in x2 0 2) = 0 → res = (some (.int (-2)), G, I)) ∧ (¬ (f_Z_in x2 0 2) = 0 → (¬ (f_Z_in x4 0 4) = 0 → z_inr x1 4 ∧ ((¬ (I 65 x1.toNatClampNeg) = (-1) → z_inr x1 4 ∧ (((I 65 x1.toNatClampNeg) = x2 → Ev X (d + 1) 212 63 [.ref 57, .int x1, .int x2, .int x3, .int x4, .int 0, .int 0, zU, zU] [] G I res) ∧ (¬ (I 65 x1.toNatClampNeg) = x2 → res = (some (.int (-13)), G, I)))) ∧ ((I 65 x1.toNatClampNeg) = (-1) → res = (some (.int (-11)), G, I)))) ∧ ((f_Z_in x4 0 4) = 0 → res = (some (.int (-2)), G, I))))) :
    Ev X (d + 1) 212 0 [.ref 57, .int x1, .int x2, .int x3, .int x4, zU, zU, zU, zU] [] G I res := by
  refine Ev_iload_n hq_212 (show decode prog_7_method_86_code 0 = .ok (.iload_n 1, 1) by decide +kernel) rfl ?_
  refine Ev_iconst (v := 0) hq_212 (show decode prog_7_method_86_code 1 = .ok (.iconst 0, 1) by decide +kernel) (by decide) ?_
  refine Ev_iconst (v := 3) hq_212 (show decode prog_7_method_86_code 2 = .ok (.iconst 3, 1) by decide +kernel) (by decide) ?_
  refine Ev_stat (as := [.int x1, .int 0, .int 3]) hq_212 (show decode prog_7_method_86_code 3 = .ok (.invokestatic 90, 3) by decide +kernel) rfl (Or.inl rfl) hq_131 rfl (z_le rfl) (c_Z_in x1 0 3) ?_
  refine Ev_if_eq (tgt := 28) hq_212 (show decode prog_7_method_86_code 6 = .ok (.ifCond .eq 22, 3) by decide +kernel) (by decide) (fun c1 => ?_) (fun c1 => ?_)
  · have k := k.1 c1
    refine Ev_bipush (v := (-2)) hq_212 (show decode prog_7_method_86_code 28 = .ok (.bipush (-2), 2) by decide +kernel) (by decide) ?_
    exact Ev_iret hq_212 (show decode prog_7_method_86_code 30 = .ok (.ireturn, 1) by decide +kernel) rfl k
  · have k := k.2 c1
    refine Ev_iload_n hq_212 (show decode prog_7_method_86_code 9 = .ok (.iload_n 2, 1) by decide +kernel) rfl ?_
    refine Ev_iconst (v := 0) hq_212 (show decode prog_7_method_86_code 10 = .ok (.iconst 0, 1) by decide +kernel) (by decide) ?_
    refine Ev_iconst (v := 2) hq_212 (show decode prog_7_method_86_code 11 = .ok (.iconst 2, 1) by decide +kernel) (by decide) ?_
    refine Ev_stat (as := [.int x2, .int 0, .int 2]) hq_212 (show decode prog_7_method_86_code 12 = .ok (.invokestatic 90, 3) by decide +kernel) rfl (Or.inl rfl) hq_131 rfl (z_le rfl) (c_Z_in x2 0 2) ?_
    refine Ev_if_eq (tgt := 28) hq_212 (show decode prog_7_method_86_code 15 = .ok (.ifCond .eq 13, 3) by decide +kernel) (by decide) (fun c2 => ?_) (fun c2 => ?_)
    · have k := k.1 c2
      refine Ev_bipush (v := (-2)) hq_212 (show decode prog_7_method_86_code 28 = .ok (.bipush (-2), 2) by decide +kernel) (by decide) ?_
      exact Ev_iret hq_212 (show decode prog_7_method_86_code 30 = .ok (.ireturn, 1) by decide +kernel) rfl k
    · have k := k.2 c2
      refine Ev_iload hq_212 (show decode prog_7_method_86_code 18 = .ok (.iload 4, 2) by decide +kernel) rfl ?_
      refine Ev_iconst (v := 0) hq_212 (show decode prog_7_method_86_code 20 = .ok (.iconst 0, 1) by decide +kernel) (by decide) ?_
      refine Ev_iconst (v := 4) hq_212 (show decode prog_7_method_86_code 21 = .ok (.iconst 4, 1) by decide +kernel) (by decide) ?_
      refine Ev_stat (as := [.int x4, .int 0, .int 4]) hq_212 (show decode prog_7_method_86_code 22 = .ok (.invokestatic 90, 3) by decide +kernel) rfl (Or.inl rfl) hq_131 rfl (z_le rfl) (c_Z_in x4 0 4) ?_
      refine Ev_if_ne (tgt := 31) hq_212 (show decode prog_7_method_86_code 25 = .ok (.ifCond .ne 6, 3) by decide +kernel) (by decide) (fun c3 => ?_) (fun c3 => ?_)
      · have k := k.1 c3
        refine Ev_aload_n hq_212 (show decode prog_7_method_86_code 31 = .ok (.aload_n 0, 1) by decide +kernel) rfl ?_
        refine Ev_getR hq_212 (show decode prog_7_method_86_code 32 = .ok (.getfield 31, 3) by decide +kernel) rfl (SGn hS (by decide)) (SGk hS rfl) (by decide) rfl (SGr hS rfl) ?_
        refine Ev_iload_n hq_212 (show decode prog_7_method_86_code 35 = .ok (.iload_n 1, 1) by decide +kernel) rfl ?_
        obtain ⟨h4, k⟩ := k
        refine Ev_iald hq_212 (show decode prog_7_method_86_code 36 = .ok (.iaload, 1) by decide +kernel) (SGn hS (by decide)) (SGk hS rfl) (SGi hS rfl h4) ?_
        refine Ev_iconst (v := (-1)) hq_212 (show decode prog_7_method_86_code 37 = .ok (.iconst (-1), 1) by decide +kernel) (by decide) ?_
        refine Ev_icmp_ne (tgt := 44) hq_212 (show decode prog_7_method_86_code 38 = .ok (.if_icmp .ne 6, 3) by decide +kernel) (by decide) (fun c5 => ?_) (fun c5 => ?_)
        · have k := k.1 c5
          refine Ev_aload_n hq_212 (show decode prog_7_method_86_code 44 = .ok (.aload_n 0, 1) by decide +kernel) rfl ?_
          refine Ev_getR hq_212 (show decode prog_7_method_86_code 45 = .ok (.getfield 31, 3) by decide +kernel) rfl (SGn hS (by decide)) (SGk hS rfl) (by decide) rfl (SGr hS rfl) ?_
          refine Ev_iload_n hq_212 (show decode prog_7_method_86_code 48 = .ok (.iload_n 1, 1) by decide +kernel) rfl ?_
          obtain ⟨h6, k⟩ := k
          refine Ev_iald hq_212 (show decode prog_7_method_86_code 49 = .ok (.iaload, 1) by decide +kernel) (SGn hS (by decide)) (SGk hS rfl) (SGi hS rfl h6) ?_
          refine Ev_iload_n hq_212 (show decode prog_7_method_86_code 50 = .ok (.iload_n 2, 1) by decide +kernel) rfl ?_
          refine Ev_icmp_eq (tgt := 57) hq_212 (show decode prog_7_method_86_code 51 = .ok (.if_icmp .eq 6, 3) by decide +kernel) (by decide) (fun c7 => ?_) (fun c7 => ?_)
          · have k := k.1 c7
            refine Ev_iconst (v := 0) hq_212 (show decode prog_7_method_86_code 57 = .ok (.iconst 0, 1) by decide +kernel) (by decide) ?_
            refine Ev_istore (lo2 := [.ref 57, .int x1, .int x2, .int x3, .int x4, .int 0, zU, zU, zU]) hq_212 (show decode prog_7_method_86_code 58 = .ok (.istore 5, 2) by decide +kernel) (z_le rfl) rfl ?_
            refine Ev_iconst (v := 0) hq_212 (show decode prog_7_method_86_code 60 = .ok (.iconst 0, 1) by decide +kernel) (by decide) ?_
            refine Ev_istore (lo2 := [.ref 57, .int x1, .int x2, .int x3, .int x4, .int 0, .int 0, zU, zU]) hq_212 (show decode prog_7_method_86_code 61 = .ok (.istore 6, 2) by decide +kernel) (z_le rfl) rfl ?_
            exact k
          · have k := k.2 c7
            refine Ev_bipush (v := (-13)) hq_212 (show decode prog_7_method_86_code 54 = .ok (.bipush (-13), 2) by decide +kernel) (by decide) ?_
            exact Ev_iret hq_212 (show decode prog_7_method_86_code 56 = .ok (.ireturn, 1) by decide +kernel) rfl k
        · have k := k.2 (Classical.not_not.mp c5)
          refine Ev_bipush (v := (-11)) hq_212 (show decode prog_7_method_86_code 41 = .ok (.bipush (-11), 2) by decide +kernel) (by decide) ?_
          exact Ev_iret hq_212 (show decode prog_7_method_86_code 43 = .ok (.ireturn, 1) by decide +kernel) rfl k
      · have k := k.2 (Classical.not_not.mp c3)
        refine Ev_bipush (v := (-2)) hq_212 (show decode prog_7_method_86_code 28 = .ok (.bipush (-2), 2) by decide +kernel) (by decide) ?_
        exact Ev_iret hq_212 (show decode prog_7_method_86_code 30 = .ok (.ireturn, 1) by decide +kernel) rfl k
set_option maxRecDepth 20000 in
theorem wp_Z_showersBy_63 {X : Nat × (Nat → Int32)} {d : Nat} {G : zG} {I : zI} {res : Option Value × zG × zI} (x1 : Int32) (x2 : Int32) (x3 : Int32) (x4 : Int32) (x5 : Int32) (x6 : Int32) (v7 : Value) (cv7 : v7.category = 1) (v8 : Value) (cv8 : v8.category = 1) (hS : SG G) 
    (k : (x4 ≤ x6 → res = (some (.int x5), G, I)) ∧ (¬ x4 ≤ x6 → ∀ y2 : Int32, y2 = (x3 + (3 * x6)) → (x3 < 0 → res = (some (.int (-12)), G, I)) ∧ (¬ x3 < 0 → (y2 < x3 → res = (some (.int (-12)), G, I)) ∧ (¬ y2 < x3 → z_inr x1 4 ∧ ((y2 ≤ ((I 66 x1.toNatClampNeg) - 3) → ∀ y7 : Int32, y7 = ((40 * x1) + y2) → z_inr y7 160 ∧ (z_inr (y7 + 1) 160 ∧ (z_inr (y7 + 2) 160 ∧ (∃ (r13 : Int32) (I11 : zI), Cv X d 153 [.ref 57, .int (I 67 y7.toNatClampNeg), .int (I 67 (y7 + 1).toNatClampNeg), .int (I 67 (y7 + 2).toNatClampNeg)] G I (some (.int r13), G, I11) ∧ ((r13 < 0 → ∀ y15 : Int32, y15 = (x5 + 0) → ∀ y16 : Int32, y16 = x6 + 1 → Ev X (d + 1) 212 63 [.ref 57, .int x1, .int x2, .int x3, .int x4, .int y15, .int y16, .int y2, .int y7] [] G I11 res) ∧ (¬ r13 < 0 → ∀ y17 : Int32, y17 = (x5 + 1) → ∀ y18 : Int32, y18 = x6 + 1 → Ev X (d + 1) 212 63 [.ref 57, .int x1, .int x2, .int x3, .int x4, .int y17, .int y18, .int y2, .int y7] [] G I11 res)))))) ∧ (¬ y2 ≤ ((I 66 x1.toNatClampNeg) - 3) → res = (some (.int (-12)), G, I))))))) :
    Ev X (d + 1) 212 63 [.ref 57, .int x1, .int x2, .int x3, .int x4, .int x5, .int x6, v7, v8] [] G I res := by
  refine Ev_iload hq_212 (show decode prog_7_method_86_code 63 = .ok (.iload 6, 2) by decide +kernel) rfl ?_
  refine Ev_iload hq_212 (show decode prog_7_method_86_code 65 = .ok (.iload 4, 2) by decide +kernel) rfl ?_
  refine Ev_icmp_ge (tgt := 161) hq_212 (show decode prog_7_method_86_code 67 = .ok (.if_icmp .ge 94, 3) by decide +kernel) (by decide) (fun c1 => ?_) (fun c1 => ?_)
  · have k := k.1 c1
    refine Ev_iload hq_212 (show decode prog_7_method_86_code 161 = .ok (.iload 5, 2) by decide +kernel) rfl ?_
    exact Ev_iret hq_212 (show decode prog_7_method_86_code 163 = .ok (.ireturn, 1) by decide +kernel) rfl k
  · have k := k.2 c1
    refine Ev_iload_n hq_212 (show decode prog_7_method_86_code 70 = .ok (.iload_n 3, 1) by decide +kernel) rfl ?_
    refine Ev_iconst (v := 3) hq_212 (show decode prog_7_method_86_code 71 = .ok (.iconst 3, 1) by decide +kernel) (by decide) ?_
    refine Ev_iload hq_212 (show decode prog_7_method_86_code 72 = .ok (.iload 6, 2) by decide +kernel) rfl ?_
    refine Ev_imul hq_212 (show decode prog_7_method_86_code 74 = .ok (.imul, 1) by decide +kernel) ?_
    refine Ev_iadd hq_212 (show decode prog_7_method_86_code 75 = .ok (.iadd, 1) by decide +kernel) ?_
    obtain ⟨y2, ey2⟩ : ∃ y2 : Int32, y2 = (x3 + (3 * x6)) := ⟨_, rfl⟩
    have k := k y2 ey2
    rw [← ey2]
    refine Ev_istore (lo2 := [.ref 57, .int x1, .int x2, .int x3, .int x4, .int x5, .int x6, .int y2, v8]) hq_212 (show decode prog_7_method_86_code 76 = .ok (.istore 7, 2) by decide +kernel) (z_le rfl) rfl ?_
    refine Ev_iload_n hq_212 (show decode prog_7_method_86_code 78 = .ok (.iload_n 3, 1) by decide +kernel) rfl ?_
    refine Ev_if_lt (tgt := 101) hq_212 (show decode prog_7_method_86_code 79 = .ok (.ifCond .lt 22, 3) by decide +kernel) (by decide) (fun c3 => ?_) (fun c3 => ?_)
    · have k := k.1 c3
      refine Ev_bipush (v := (-12)) hq_212 (show decode prog_7_method_86_code 101 = .ok (.bipush (-12), 2) by decide +kernel) (by decide) ?_
      exact Ev_iret hq_212 (show decode prog_7_method_86_code 103 = .ok (.ireturn, 1) by decide +kernel) rfl k
    · have k := k.2 c3
      refine Ev_iload hq_212 (show decode prog_7_method_86_code 82 = .ok (.iload 7, 2) by decide +kernel) rfl ?_
      refine Ev_iload_n hq_212 (show decode prog_7_method_86_code 84 = .ok (.iload_n 3, 1) by decide +kernel) rfl ?_
      refine Ev_icmp_lt (tgt := 101) hq_212 (show decode prog_7_method_86_code 85 = .ok (.if_icmp .lt 16, 3) by decide +kernel) (by decide) (fun c4 => ?_) (fun c4 => ?_)
      · have k := k.1 c4
        refine Ev_bipush (v := (-12)) hq_212 (show decode prog_7_method_86_code 101 = .ok (.bipush (-12), 2) by decide +kernel) (by decide) ?_
        exact Ev_iret hq_212 (show decode prog_7_method_86_code 103 = .ok (.ireturn, 1) by decide +kernel) rfl k
      · have k := k.2 c4
        refine Ev_iload hq_212 (show decode prog_7_method_86_code 88 = .ok (.iload 7, 2) by decide +kernel) rfl ?_
        refine Ev_aload_n hq_212 (show decode prog_7_method_86_code 90 = .ok (.aload_n 0, 1) by decide +kernel) rfl ?_
        refine Ev_getR hq_212 (show decode prog_7_method_86_code 91 = .ok (.getfield 34, 3) by decide +kernel) rfl (SGn hS (by decide)) (SGk hS rfl) (by decide) rfl (SGr hS rfl) ?_
        refine Ev_iload_n hq_212 (show decode prog_7_method_86_code 94 = .ok (.iload_n 1, 1) by decide +kernel) rfl ?_
        obtain ⟨h5, k⟩ := k
        refine Ev_iald hq_212 (show decode prog_7_method_86_code 95 = .ok (.iaload, 1) by decide +kernel) (SGn hS (by decide)) (SGk hS rfl) (SGi hS rfl h5) ?_
        refine Ev_iconst (v := 3) hq_212 (show decode prog_7_method_86_code 96 = .ok (.iconst 3, 1) by decide +kernel) (by decide) ?_
        refine Ev_isub hq_212 (show decode prog_7_method_86_code 97 = .ok (.isub, 1) by decide +kernel) ?_
        refine Ev_icmp_le (tgt := 104) hq_212 (show decode prog_7_method_86_code 98 = .ok (.if_icmp .le 6, 3) by decide +kernel) (by decide) (fun c6 => ?_) (fun c6 => ?_)
        · have k := k.1 c6
          refine Ev_bipush (v := 40) hq_212 (show decode prog_7_method_86_code 104 = .ok (.bipush 40, 2) by decide +kernel) (by decide) ?_
          refine Ev_iload_n hq_212 (show decode prog_7_method_86_code 106 = .ok (.iload_n 1, 1) by decide +kernel) rfl ?_
          refine Ev_imul hq_212 (show decode prog_7_method_86_code 107 = .ok (.imul, 1) by decide +kernel) ?_
          refine Ev_iload hq_212 (show decode prog_7_method_86_code 108 = .ok (.iload 7, 2) by decide +kernel) rfl ?_
          refine Ev_iadd hq_212 (show decode prog_7_method_86_code 110 = .ok (.iadd, 1) by decide +kernel) ?_
          obtain ⟨y7, ey7⟩ : ∃ y7 : Int32, y7 = ((40 * x1) + y2) := ⟨_, rfl⟩
          have k := k y7 ey7
          rw [← ey7]
          refine Ev_istore (lo2 := [.ref 57, .int x1, .int x2, .int x3, .int x4, .int x5, .int x6, .int y2, .int y7]) hq_212 (show decode prog_7_method_86_code 111 = .ok (.istore 8, 2) by decide +kernel) (z_le rfl) rfl ?_
          refine Ev_iload hq_212 (show decode prog_7_method_86_code 113 = .ok (.iload 5, 2) by decide +kernel) rfl ?_
          refine Ev_aload_n hq_212 (show decode prog_7_method_86_code 115 = .ok (.aload_n 0, 1) by decide +kernel) rfl ?_
          refine Ev_aload_n hq_212 (show decode prog_7_method_86_code 116 = .ok (.aload_n 0, 1) by decide +kernel) rfl ?_
          refine Ev_getR hq_212 (show decode prog_7_method_86_code 117 = .ok (.getfield 37, 3) by decide +kernel) rfl (SGn hS (by decide)) (SGk hS rfl) (by decide) rfl (SGr hS rfl) ?_
          refine Ev_iload hq_212 (show decode prog_7_method_86_code 120 = .ok (.iload 8, 2) by decide +kernel) rfl ?_
          obtain ⟨h8, k⟩ := k
          refine Ev_iald hq_212 (show decode prog_7_method_86_code 122 = .ok (.iaload, 1) by decide +kernel) (SGn hS (by decide)) (SGk hS rfl) (SGi hS rfl h8) ?_
          refine Ev_aload_n hq_212 (show decode prog_7_method_86_code 123 = .ok (.aload_n 0, 1) by decide +kernel) rfl ?_
          refine Ev_getR hq_212 (show decode prog_7_method_86_code 124 = .ok (.getfield 37, 3) by decide +kernel) rfl (SGn hS (by decide)) (SGk hS rfl) (by decide) rfl (SGr hS rfl) ?_
          refine Ev_iload hq_212 (show decode prog_7_method_86_code 127 = .ok (.iload 8, 2) by decide +kernel) rfl ?_
          refine Ev_iconst (v := 1) hq_212 (show decode prog_7_method_86_code 129 = .ok (.iconst 1, 1) by decide +kernel) (by decide) ?_
          refine Ev_iadd hq_212 (show decode prog_7_method_86_code 130 = .ok (.iadd, 1) by decide +kernel) ?_
          obtain ⟨h9, k⟩ := k
          refine Ev_iald hq_212 (show decode prog_7_method_86_code 131 = .ok (.iaload, 1) by decide +kernel) (SGn hS (by decide)) (SGk hS rfl) (SGi hS rfl h9) ?_
          refine Ev_aload_n hq_212 (show decode prog_7_method_86_code 132 = .ok (.aload_n 0, 1) by decide +kernel) rfl ?_
          refine Ev_getR hq_212 (show decode prog_7_method_86_code 133 = .ok (.getfield 37, 3) by decide +kernel) rfl (SGn hS (by decide)) (SGk hS rfl) (by decide) rfl (SGr hS rfl) ?_
          refine Ev_iload hq_212 (show decode prog_7_method_86_code 136 = .ok (.iload 8, 2) by decide +kernel) rfl ?_
          refine Ev_iconst (v := 2) hq_212 (show decode prog_7_method_86_code 138 = .ok (.iconst 2, 1) by decide +kernel) (by decide) ?_
          refine Ev_iadd hq_212 (show decode prog_7_method_86_code 139 = .ok (.iadd, 1) by decide +kernel) ?_
          obtain ⟨h10, k⟩ := k
          refine Ev_iald hq_212 (show decode prog_7_method_86_code 140 = .ok (.iaload, 1) by decide +kernel) (SGn hS (by decide)) (SGk hS rfl) (SGi hS rfl h10) ?_
          obtain ⟨r13, I11, h12, k⟩ := k
          refine Ev_virt (as := [.int (I 67 y7.toNatClampNeg), .int (I 67 (y7 + 1).toNatClampNeg), .int (I 67 (y7 + 2).toNatClampNeg)]) hq_212 (show decode prog_7_method_86_code 141 = .ok (.invokevirtual 292, 3) by decide +kernel) rfl hq_153 rfl (z_le rfl) ⟨(SGn hS (by decide)), (SGk hS rfl), by decide⟩ h12 ?_
          refine Ev_if_lt (tgt := 151) hq_212 (show decode prog_7_method_86_code 144 = .ok (.ifCond .lt 7, 3) by decide +kernel) (by decide) (fun c14 => ?_) (fun c14 => ?_)
          · have k := k.1 c14
            refine Ev_iconst (v := 0) hq_212 (show decode prog_7_method_86_code 151 = .ok (.iconst 0, 1) by decide +kernel) (by decide) ?_
            refine Ev_iadd hq_212 (show decode prog_7_method_86_code 152 = .ok (.iadd, 1) by decide +kernel) ?_
            obtain ⟨y15, ey15⟩ : ∃ y15 : Int32, y15 = (x5 + 0) := ⟨_, rfl⟩
            have k := k y15 ey15
            rw [← ey15]
            refine Ev_istore (lo2 := [.ref 57, .int x1, .int x2, .int x3, .int x4, .int y15, .int x6, .int y2, .int y7]) hq_212 (show decode prog_7_method_86_code 153 = .ok (.istore 5, 2) by decide +kernel) (z_le rfl) rfl ?_
            obtain ⟨y16, ey16⟩ : ∃ y16 : Int32, y16 = x6 + 1 := ⟨_, rfl⟩
            have k := k y16 ey16
            refine Ev_iinc (v := y16) (lo2 := [.ref 57, .int x1, .int x2, .int x3, .int x4, .int y15, .int y16, .int y2, .int y7]) hq_212 (show decode prog_7_method_86_code 155 = .ok (.iinc 6 1, 3) by decide +kernel) rfl (by rw [ey16]; rfl) rfl ?_
            refine Ev_goto (tgt := 63) hq_212 (show decode prog_7_method_86_code 158 = .ok (.goto (-95), 3) by decide +kernel) (by decide) ?_
            exact k
          · have k := k.2 c14
            refine Ev_iconst (v := 1) hq_212 (show decode prog_7_method_86_code 147 = .ok (.iconst 1, 1) by decide +kernel) (by decide) ?_
            refine Ev_goto (tgt := 152) hq_212 (show decode prog_7_method_86_code 148 = .ok (.goto 4, 3) by decide +kernel) (by decide) ?_
            refine Ev_iadd hq_212 (show decode prog_7_method_86_code 152 = .ok (.iadd, 1) by decide +kernel) ?_
            obtain ⟨y17, ey17⟩ : ∃ y17 : Int32, y17 = (x5 + 1) := ⟨_, rfl⟩
            have k := k y17 ey17
            rw [← ey17]
            refine Ev_istore (lo2 := [.ref 57, .int x1, .int x2, .int x3, .int x4, .int y17, .int x6, .int y2, .int y7]) hq_212 (show decode prog_7_method_86_code 153 = .ok (.istore 5, 2) by decide +kernel) (z_le rfl) rfl ?_
            obtain ⟨y18, ey18⟩ : ∃ y18 : Int32, y18 = x6 + 1 := ⟨_, rfl⟩
            have k := k y18 ey18
            refine Ev_iinc (v := y18) (lo2 := [.ref 57, .int x1, .int x2, .int x3, .int x4, .int y17, .int y18, .int y2, .int y7]) hq_212 (show decode prog_7_method_86_code 155 = .ok (.iinc 6 1, 3) by decide +kernel) rfl (by rw [ey18]; rfl) rfl ?_
            refine Ev_goto (tgt := 63) hq_212 (show decode prog_7_method_86_code 158 = .ok (.goto (-95), 3) by decide +kernel) (by decide) ?_
            exact k
        · have k := k.2 c6
          refine Ev_bipush (v := (-12)) hq_212 (show decode prog_7_method_86_code 101 = .ok (.bipush (-12), 2) by decide +kernel) (by decide) ?_
          exact Ev_iret hq_212 (show decode prog_7_method_86_code 103 = .ok (.ireturn, 1) by decide +kernel) rfl k
set_option maxRecDepth 20000 in
theorem wp_Z_isUnder {X : Nat × (Nat → Int32)} {d : Nat} {G : zG} {I : zI} {res : Option Value × zG × zI} (x0 : Int32) (x1 : Int32) 
    (k : (x1 = 0 → res = (some (.int 1), G, I)) ∧ (¬ x1 = 0 → (x0 = x1 → res = (some (.int 1), G, I)) ∧ (¬ x0 = x1 → (¬ x1 = 1 → (¬ x1 = 2 → res = (some (.int 0), G, I)) ∧ (x1 = 2 → (¬ x0 = 4 → res = (some (.int 0), G, I)) ∧ (x0 = 4 → res = (some (.int 1), G, I)))) ∧ (x1 = 1 → (x0 = 3 → res = (some (.int 1), G, I)) ∧ (¬ x0 = 3 → (¬ x1 = 2 → res = (some (.int 0), G, I)) ∧ (x1 = 2 → (¬ x0 = 4 → res = (some (.int 0), G, I)) ∧ (x0 = 4 → res = (some (.int 1), G, I)))))))) :
    Ev X d 214 0 [.int x0, .int x1] [] G I res := by
  refine Ev_iload_n hq_214 (show decode prog_7_method_87_code 0 = .ok (.iload_n 1, 1) by decide +kernel) rfl ?_
  refine Ev_if_eq (tgt := 29) hq_214 (show decode prog_7_method_87_code 1 = .ok (.ifCond .eq 28, 3) by decide +kernel) (by decide) (fun c1 => ?_) (fun c1 => ?_)
  · have k := k.1 c1
    refine Ev_iconst (v := 1) hq_214 (show decode prog_7_method_87_code 29 = .ok (.iconst 1, 1) by decide +kernel) (by decide) ?_
    refine Ev_goto (tgt := 34) hq_214 (show decode prog_7_method_87_code 30 = .ok (.goto 4, 3) by decide +kernel) (by decide) ?_
    exact Ev_iret hq_214 (show decode prog_7_method_87_code 34 = .ok (.ireturn, 1) by decide +kernel) rfl k
  · have k := k.2 c1
    refine Ev_iload_n hq_214 (show decode prog_7_method_87_code 4 = .ok (.iload_n 0, 1) by decide +kernel) rfl ?_
    refine Ev_iload_n hq_214 (show decode prog_7_method_87_code 5 = .ok (.iload_n 1, 1) by decide +kernel) rfl ?_
    refine Ev_icmp_eq (tgt := 29) hq_214 (show decode prog_7_method_87_code 6 = .ok (.if_icmp .eq 23, 3) by decide +kernel) (by decide) (fun c2 => ?_) (fun c2 => ?_)
    · have k := k.1 c2
      refine Ev_iconst (v := 1) hq_214 (show decode prog_7_method_87_code 29 = .ok (.iconst 1, 1) by decide +kernel) (by decide) ?_
      refine Ev_goto (tgt := 34) hq_214 (show decode prog_7_method_87_code 30 = .ok (.goto 4, 3) by decide +kernel) (by decide) ?_
      exact Ev_iret hq_214 (show decode prog_7_method_87_code 34 = .ok (.ireturn, 1) by decide +kernel) rfl k
    · have k := k.2 c2
      refine Ev_iload_n hq_214 (show decode prog_7_method_87_code 9 = .ok (.iload_n 1, 1) by decide +kernel) rfl ?_
      refine Ev_iconst (v := 1) hq_214 (show decode prog_7_method_87_code 10 = .ok (.iconst 1, 1) by decide +kernel) (by decide) ?_
      refine Ev_icmp_ne (tgt := 19) hq_214 (show decode prog_7_method_87_code 11 = .ok (.if_icmp .ne 8, 3) by decide +kernel) (by decide) (fun c3 => ?_) (fun c3 => ?_)
      · have k := k.1 c3
        refine Ev_iload_n hq_214 (show decode prog_7_method_87_code 19 = .ok (.iload_n 1, 1) by decide +kernel) rfl ?_
        refine Ev_iconst (v := 2) hq_214 (show decode prog_7_method_87_code 20 = .ok (.iconst 2, 1) by decide +kernel) (by decide) ?_
        refine Ev_icmp_ne (tgt := 33) hq_214 (show decode prog_7_method_87_code 21 = .ok (.if_icmp .ne 12, 3) by decide +kernel) (by decide) (fun c4 => ?_) (fun c4 => ?_)
        · have k := k.1 c4
          refine Ev_iconst (v := 0) hq_214 (show decode prog_7_method_87_code 33 = .ok (.iconst 0, 1) by decide +kernel) (by decide) ?_
          exact Ev_iret hq_214 (show decode prog_7_method_87_code 34 = .ok (.ireturn, 1) by decide +kernel) rfl k
        · have k := k.2 (Classical.not_not.mp c4)
          refine Ev_iload_n hq_214 (show decode prog_7_method_87_code 24 = .ok (.iload_n 0, 1) by decide +kernel) rfl ?_
          refine Ev_iconst (v := 4) hq_214 (show decode prog_7_method_87_code 25 = .ok (.iconst 4, 1) by decide +kernel) (by decide) ?_
          refine Ev_icmp_ne (tgt := 33) hq_214 (show decode prog_7_method_87_code 26 = .ok (.if_icmp .ne 7, 3) by decide +kernel) (by decide) (fun c5 => ?_) (fun c5 => ?_)
          · have k := k.1 c5
            refine Ev_iconst (v := 0) hq_214 (show decode prog_7_method_87_code 33 = .ok (.iconst 0, 1) by decide +kernel) (by decide) ?_
            exact Ev_iret hq_214 (show decode prog_7_method_87_code 34 = .ok (.ireturn, 1) by decide +kernel) rfl k
          · have k := k.2 (Classical.not_not.mp c5)
            refine Ev_iconst (v := 1) hq_214 (show decode prog_7_method_87_code 29 = .ok (.iconst 1, 1) by decide +kernel) (by decide) ?_
            refine Ev_goto (tgt := 34) hq_214 (show decode prog_7_method_87_code 30 = .ok (.goto 4, 3) by decide +kernel) (by decide) ?_
            exact Ev_iret hq_214 (show decode prog_7_method_87_code 34 = .ok (.ireturn, 1) by decide +kernel) rfl k
      · have k := k.2 (Classical.not_not.mp c3)
        refine Ev_iload_n hq_214 (show decode prog_7_method_87_code 14 = .ok (.iload_n 0, 1) by decide +kernel) rfl ?_
        refine Ev_iconst (v := 3) hq_214 (show decode prog_7_method_87_code 15 = .ok (.iconst 3, 1) by decide +kernel) (by decide) ?_
        refine Ev_icmp_eq (tgt := 29) hq_214 (show decode prog_7_method_87_code 16 = .ok (.if_icmp .eq 13, 3) by decide +kernel) (by decide) (fun c6 => ?_) (fun c6 => ?_)
        · have k := k.1 c6
          refine Ev_iconst (v := 1) hq_214 (show decode prog_7_method_87_code 29 = .ok (.iconst 1, 1) by decide +kernel) (by decide) ?_
          refine Ev_goto (tgt := 34) hq_214 (show decode prog_7_method_87_code 30 = .ok (.goto 4, 3) by decide +kernel) (by decide) ?_
          exact Ev_iret hq_214 (show decode prog_7_method_87_code 34 = .ok (.ireturn, 1) by decide +kernel) rfl k
        · have k := k.2 c6
          refine Ev_iload_n hq_214 (show decode prog_7_method_87_code 19 = .ok (.iload_n 1, 1) by decide +kernel) rfl ?_
          refine Ev_iconst (v := 2) hq_214 (show decode prog_7_method_87_code 20 = .ok (.iconst 2, 1) by decide +kernel) (by decide) ?_
          refine Ev_icmp_ne (tgt := 33) hq_214 (show decode prog_7_method_87_code 21 = .ok (.if_icmp .ne 12, 3) by decide +kernel) (by decide) (fun c7 => ?_) (fun c7 => ?_)
          · have k := k.1 c7
            refine Ev_iconst (v := 0) hq_214 (show decode prog_7_method_87_code 33 = .ok (.iconst 0, 1) by decide +kernel) (by decide) ?_
            exact Ev_iret hq_214 (show decode prog_7_method_87_code 34 = .ok (.ireturn, 1) by decide +kernel) rfl k
          · have k := k.2 (Classical.not_not.mp c7)
            refine Ev_iload_n hq_214 (show decode prog_7_method_87_code 24 = .ok (.iload_n 0, 1) by decide +kernel) rfl ?_
            refine Ev_iconst (v := 4) hq_214 (show decode prog_7_method_87_code 25 = .ok (.iconst 4, 1) by decide +kernel) (by decide) ?_
            refine Ev_icmp_ne (tgt := 33) hq_214 (show decode prog_7_method_87_code 26 = .ok (.if_icmp .ne 7, 3) by decide +kernel) (by decide) (fun c8 => ?_) (fun c8 => ?_)
            · have k := k.1 c8
              refine Ev_iconst (v := 0) hq_214 (show decode prog_7_method_87_code 33 = .ok (.iconst 0, 1) by decide +kernel) (by decide) ?_
              exact Ev_iret hq_214 (show decode prog_7_method_87_code 34 = .ok (.ireturn, 1) by decide +kernel) rfl k
            · have k := k.2 (Classical.not_not.mp c8)
              refine Ev_iconst (v := 1) hq_214 (show decode prog_7_method_87_code 29 = .ok (.iconst 1, 1) by decide +kernel) (by decide) ?_
              refine Ev_goto (tgt := 34) hq_214 (show decode prog_7_method_87_code 30 = .ok (.goto 4, 3) by decide +kernel) (by decide) ?_
              exact Ev_iret hq_214 (show decode prog_7_method_87_code 34 = .ok (.ireturn, 1) by decide +kernel) rfl k
def f_Z_isUnder (x0 x1 : Int32) : Int32 := (if x1 = 0 then 1 else (if x0 = x1 then 1 else (if x1 = 1 then (if x0 = 3 then 1 else (if x1 = 2 then (if x0 = 4 then 1 else 0) else 0)) else (if x1 = 2 then (if x0 = 4 then 1 else 0) else 0))))
theorem c_Z_isUnder {X : Nat × (Nat → Int32)} {d : Nat} {G : zG} {I : zI} (x0 x1 : Int32) : Cv X d 214 [.int x0, .int x1] G I (some (.int (f_Z_isUnder x0 x1)), G, I) := by
  exact Cv.of hq_214 (z_le rfl) rfl (wp_Z_isUnder x0 x1 ⟨fun h0 => (by simp only [f_Z_isUnder]; rw [if_pos h0]), fun h0 => ⟨fun h1 => (by simp only [f_Z_isUnder]; rw [if_neg h0]; rw [if_pos h1]), fun h1 => ⟨fun h2 => ⟨fun h3 => (by simp only [f_Z_isUnder]; rw [if_neg h0]; rw [if_neg h1]; rw [if_neg h2]; rw [if_neg h3]), fun h3 => ⟨fun h4 => (by simp only [f_Z_isUnder]; rw [if_neg h0]; rw [if_neg h1]; rw [if_neg h2]; rw [if_pos h3]; rw [if_neg h4]), fun h4 => (by simp only [f_Z_isUnder]; rw [if_neg h0]; rw [if_neg h1]; rw [if_neg h2]; rw [if_pos h3]; rw [if_pos h4])⟩⟩, fun h2 => ⟨fun h3 => (by simp only [f_Z_isUnder]; rw [if_neg h0]; rw [if_neg h1]; rw [if_pos h2]; rw [if_pos h3]), fun h3 => ⟨fun h4 => (by simp only [f_Z_isUnder]; rw [if_neg h0]; rw [if_neg h1]; rw [if_pos h2]; rw [if_neg h3]; rw [if_neg h4]), fun h4 => ⟨fun h5 => (by simp only [f_Z_isUnder]; rw [if_neg h0]; rw [if_neg h1]; rw [if_pos h2]; rw [if_neg h3]; rw [if_pos h4]; rw [if_neg h5]), fun h5 => (by simp only [f_Z_isUnder]; rw [if_neg h0]; rw [if_neg h1]; rw [if_pos h2]; rw [if_neg h3]; rw [if_pos h4]; rw [if_pos h5])⟩⟩⟩⟩⟩⟩)
theorem b_Z_isUnder (x0 x1 : Int32) : f_Z_isUnder x0 x1 = 0 ∨ f_Z_isUnder x0 x1 = 1 := by
  unfold f_Z_isUnder
  repeat (any_goals split)
  all_goals first | exact Or.inl rfl | exact Or.inr rfl
set_option maxRecDepth 20000 in
theorem wp_Z_taken {X : Nat × (Nat → Int32)} {d : Nat} {G : zG} {I : zI} {res : Option Value × zG × zI} (x1 : Int32) (x2 : Int32) (hS : SG G) 
    (k : (¬ (f_Z_in x2 0 6) = 0 → (¬ (f_Z_in x1 0 7) = 0 → ((x1 - x1 / 4 * 4) < (I 57 0) → (4 ≤ x1 → ∃ (r7 : Int32) (I5 : zI), Cv X d 143 [.ref 57, .int (x1 - 4)] G I (some (.int r7), G, I5) ∧ ((¬ r7 = 0 → (¬ x2 = 6 → res = (some (.int (-13)), G, I5)) ∧ (x2 = 6 → z_inr ((5 * (x1 - 4)) + 2) 20 ∧ (res = (some (.int (I5 60 ((5 * (x1 - 4)) + 2).toNatClampNeg)), G, I5)))) ∧ (r7 = 0 → res = (some (.int (-11)), G, I5)))) ∧ (¬ 4 ≤ x1 → (6 ≤ x2 → res = (some (.int (-13)), G, I)) ∧ (¬ 6 ≤ x2 → z_inr x1 4 ∧ (((f_Z_isUnder (I 58 x1.toNatClampNeg) x2) = 0 → res = (some (.int (-13)), G, I)) ∧ (¬ (f_Z_isUnder (I 58 x1.toNatClampNeg) x2) = 0 → res = (some (.int x1), G, I)))))) ∧ (¬ (x1 - x1 / 4 * 4) < (I 57 0) → res = (some (.int (-11)), G, I))) ∧ ((f_Z_in x1 0 7) = 0 → res = (some (.int (-12)), G, I))) ∧ ((f_Z_in x2 0 6) = 0 → res = (some (.int (-2)), G, I))) :
    Ev X (d + 1) 213 0 [.ref 57, .int x1, .int x2] [] G I res := by
  refine Ev_iload_n hq_213 (show decode prog_7_method_88_code 0 = .ok (.iload_n 2, 1) by decide +kernel) rfl ?_
  refine Ev_iconst (v := 0) hq_213 (show decode prog_7_method_88_code 1 = .ok (.iconst 0, 1) by decide +kernel) (by decide) ?_
  refine Ev_bipush (v := 6) hq_213 (show decode prog_7_method_88_code 2 = .ok (.bipush 6, 2) by decide +kernel) (by decide) ?_
  refine Ev_stat (as := [.int x2, .int 0, .int 6]) hq_213 (show decode prog_7_method_88_code 4 = .ok (.invokestatic 90, 3) by decide +kernel) rfl (Or.inl rfl) hq_131 rfl (z_le rfl) (c_Z_in x2 0 6) ?_
  refine Ev_if_ne (tgt := 13) hq_213 (show decode prog_7_method_88_code 7 = .ok (.ifCond .ne 6, 3) by decide +kernel) (by decide) (fun c1 => ?_) (fun c1 => ?_)
  · have k := k.1 c1
    refine Ev_iload_n hq_213 (show decode prog_7_method_88_code 13 = .ok (.iload_n 1, 1) by decide +kernel) rfl ?_
    refine Ev_iconst (v := 0) hq_213 (show decode prog_7_method_88_code 14 = .ok (.iconst 0, 1) by decide +kernel) (by decide) ?_
    refine Ev_bipush (v := 7) hq_213 (show decode prog_7_method_88_code 15 = .ok (.bipush 7, 2) by decide +kernel) (by decide) ?_
    refine Ev_stat (as := [.int x1, .int 0, .int 7]) hq_213 (show decode prog_7_method_88_code 17 = .ok (.invokestatic 90, 3) by decide +kernel) rfl (Or.inl rfl) hq_131 rfl (z_le rfl) (c_Z_in x1 0 7) ?_
    refine Ev_if_ne (tgt := 26) hq_213 (show decode prog_7_method_88_code 20 = .ok (.ifCond .ne 6, 3) by decide +kernel) (by decide) (fun c2 => ?_) (fun c2 => ?_)
    · have k := k.1 c2
      refine Ev_iload_n hq_213 (show decode prog_7_method_88_code 26 = .ok (.iload_n 1, 1) by decide +kernel) rfl ?_
      refine Ev_iconst (v := 4) hq_213 (show decode prog_7_method_88_code 27 = .ok (.iconst 4, 1) by decide +kernel) (by decide) ?_
      refine Ev_irem hq_213 (show decode prog_7_method_88_code 28 = .ok (.irem, 1) by decide +kernel) (by decide) ?_
      refine Ev_aload_n hq_213 (show decode prog_7_method_88_code 29 = .ok (.aload_n 0, 1) by decide +kernel) rfl ?_
      refine Ev_getI hq_213 (show decode prog_7_method_88_code 30 = .ok (.getfield 87, 3) by decide +kernel) rfl (SGn hS (by decide)) (SGk hS rfl) (by decide) rfl ?_
      refine Ev_icmp_lt (tgt := 39) hq_213 (show decode prog_7_method_88_code 33 = .ok (.if_icmp .lt 6, 3) by decide +kernel) (by decide) (fun c3 => ?_) (fun c3 => ?_)
      · have k := k.1 c3
        refine Ev_iload_n hq_213 (show decode prog_7_method_88_code 39 = .ok (.iload_n 1, 1) by decide +kernel) rfl ?_
        refine Ev_iconst (v := 4) hq_213 (show decode prog_7_method_88_code 40 = .ok (.iconst 4, 1) by decide +kernel) (by decide) ?_
        refine Ev_icmp_ge (tgt := 70) hq_213 (show decode prog_7_method_88_code 41 = .ok (.if_icmp .ge 29, 3) by decide +kernel) (by decide) (fun c4 => ?_) (fun c4 => ?_)
        · have k := k.1 c4
          refine Ev_aload_n hq_213 (show decode prog_7_method_88_code 70 = .ok (.aload_n 0, 1) by decide +kernel) rfl ?_
          refine Ev_iload_n hq_213 (show decode prog_7_method_88_code 71 = .ok (.iload_n 1, 1) by decide +kernel) rfl ?_
          refine Ev_iconst (v := 4) hq_213 (show decode prog_7_method_88_code 72 = .ok (.iconst 4, 1) by decide +kernel) (by decide) ?_
          refine Ev_isub hq_213 (show decode prog_7_method_88_code 73 = .ok (.isub, 1) by decide +kernel) ?_
          obtain ⟨r7, I5, h6, k⟩ := k
          refine Ev_virt (as := [.int (x1 - 4)]) hq_213 (show decode prog_7_method_88_code 74 = .ok (.invokevirtual 94, 3) by decide +kernel) rfl hq_143 rfl (z_le rfl) ⟨(SGn hS (by decide)), (SGk hS rfl), by decide⟩ h6 ?_
          refine Ev_if_ne (tgt := 85) hq_213 (show decode prog_7_method_88_code 77 = .ok (.ifCond .ne 8, 3) by decide +kernel) (by decide) (fun c8 => ?_) (fun c8 => ?_)
          · have k := k.1 c8
            refine Ev_iload_n hq_213 (show decode prog_7_method_88_code 85 = .ok (.iload_n 2, 1) by decide +kernel) rfl ?_
            refine Ev_bipush (v := 6) hq_213 (show decode prog_7_method_88_code 86 = .ok (.bipush 6, 2) by decide +kernel) (by decide) ?_
            refine Ev_icmp_ne (tgt := 106) hq_213 (show decode prog_7_method_88_code 88 = .ok (.if_icmp .ne 18, 3) by decide +kernel) (by decide) (fun c9 => ?_) (fun c9 => ?_)
            · have k := k.1 c9
              refine Ev_bipush (v := (-13)) hq_213 (show decode prog_7_method_88_code 106 = .ok (.bipush (-13), 2) by decide +kernel) (by decide) ?_
              exact Ev_iret hq_213 (show decode prog_7_method_88_code 108 = .ok (.ireturn, 1) by decide +kernel) rfl k
            · have k := k.2 (Classical.not_not.mp c9)
              refine Ev_aload_n hq_213 (show decode prog_7_method_88_code 91 = .ok (.aload_n 0, 1) by decide +kernel) rfl ?_
              refine Ev_getR hq_213 (show decode prog_7_method_88_code 92 = .ok (.getfield 16, 3) by decide +kernel) rfl (SGn hS (by decide)) (SGk hS rfl) (by decide) rfl (SGr hS rfl) ?_
              refine Ev_iconst (v := 5) hq_213 (show decode prog_7_method_88_code 95 = .ok (.iconst 5, 1) by decide +kernel) (by decide) ?_
              refine Ev_iload_n hq_213 (show decode prog_7_method_88_code 96 = .ok (.iload_n 1, 1) by decide +kernel) rfl ?_
              refine Ev_iconst (v := 4) hq_213 (show decode prog_7_method_88_code 97 = .ok (.iconst 4, 1) by decide +kernel) (by decide) ?_
              refine Ev_isub hq_213 (show decode prog_7_method_88_code 98 = .ok (.isub, 1) by decide +kernel) ?_
              refine Ev_imul hq_213 (show decode prog_7_method_88_code 99 = .ok (.imul, 1) by decide +kernel) ?_
              refine Ev_iconst (v := 2) hq_213 (show decode prog_7_method_88_code 100 = .ok (.iconst 2, 1) by decide +kernel) (by decide) ?_
              refine Ev_iadd hq_213 (show decode prog_7_method_88_code 101 = .ok (.iadd, 1) by decide +kernel) ?_
              obtain ⟨h10, k⟩ := k
              refine Ev_iald hq_213 (show decode prog_7_method_88_code 102 = .ok (.iaload, 1) by decide +kernel) (SGn hS (by decide)) (SGk hS rfl) (SGi hS rfl h10) ?_
              refine Ev_goto (tgt := 108) hq_213 (show decode prog_7_method_88_code 103 = .ok (.goto 5, 3) by decide +kernel) (by decide) ?_
              exact Ev_iret hq_213 (show decode prog_7_method_88_code 108 = .ok (.ireturn, 1) by decide +kernel) rfl k
          · have k := k.2 (Classical.not_not.mp c8)
            refine Ev_bipush (v := (-11)) hq_213 (show decode prog_7_method_88_code 80 = .ok (.bipush (-11), 2) by decide +kernel) (by decide) ?_
            refine Ev_goto (tgt := 108) hq_213 (show decode prog_7_method_88_code 82 = .ok (.goto 26, 3) by decide +kernel) (by decide) ?_
            exact Ev_iret hq_213 (show decode prog_7_method_88_code 108 = .ok (.ireturn, 1) by decide +kernel) rfl k
        · have k := k.2 c4
          refine Ev_iload_n hq_213 (show decode prog_7_method_88_code 44 = .ok (.iload_n 2, 1) by decide +kernel) rfl ?_
          refine Ev_bipush (v := 6) hq_213 (show decode prog_7_method_88_code 45 = .ok (.bipush 6, 2) by decide +kernel) (by decide) ?_
          refine Ev_icmp_ge (tgt := 67) hq_213 (show decode prog_7_method_88_code 47 = .ok (.if_icmp .ge 20, 3) by decide +kernel) (by decide) (fun c11 => ?_) (fun c11 => ?_)
          · have k := k.1 c11
            refine Ev_bipush (v := (-13)) hq_213 (show decode prog_7_method_88_code 67 = .ok (.bipush (-13), 2) by decide +kernel) (by decide) ?_
            exact Ev_iret hq_213 (show decode prog_7_method_88_code 69 = .ok (.ireturn, 1) by decide +kernel) rfl k
          · have k := k.2 c11
            refine Ev_aload_n hq_213 (show decode prog_7_method_88_code 50 = .ok (.aload_n 0, 1) by decide +kernel) rfl ?_
            refine Ev_getR hq_213 (show decode prog_7_method_88_code 51 = .ok (.getfield 7, 3) by decide +kernel) rfl (SGn hS (by decide)) (SGk hS rfl) (by decide) rfl (SGr hS rfl) ?_
            refine Ev_iload_n hq_213 (show decode prog_7_method_88_code 54 = .ok (.iload_n 1, 1) by decide +kernel) rfl ?_
            obtain ⟨h12, k⟩ := k
            refine Ev_iald hq_213 (show decode prog_7_method_88_code 55 = .ok (.iaload, 1) by decide +kernel) (SGn hS (by decide)) (SGk hS rfl) (SGi hS rfl h12) ?_
            refine Ev_iload_n hq_213 (show decode prog_7_method_88_code 56 = .ok (.iload_n 2, 1) by decide +kernel) rfl ?_
            refine Ev_stat (as := [.int (I 58 x1.toNatClampNeg), .int x2]) hq_213 (show decode prog_7_method_88_code 57 = .ok (.invokestatic 295, 3) by decide +kernel) rfl (Or.inl rfl) hq_214 rfl (z_le rfl) (c_Z_isUnder (I 58 x1.toNatClampNeg) x2) ?_
            refine Ev_if_eq (tgt := 67) hq_213 (show decode prog_7_method_88_code 60 = .ok (.ifCond .eq 7, 3) by decide +kernel) (by decide) (fun c13 => ?_) (fun c13 => ?_)
            · have k := k.1 c13
              refine Ev_bipush (v := (-13)) hq_213 (show decode prog_7_method_88_code 67 = .ok (.bipush (-13), 2) by decide +kernel) (by decide) ?_
              exact Ev_iret hq_213 (show decode prog_7_method_88_code 69 = .ok (.ireturn, 1) by decide +kernel) rfl k
            · have k := k.2 c13
              refine Ev_iload_n hq_213 (show decode prog_7_method_88_code 63 = .ok (.iload_n 1, 1) by decide +kernel) rfl ?_
              refine Ev_goto (tgt := 69) hq_213 (show decode prog_7_method_88_code 64 = .ok (.goto 5, 3) by decide +kernel) (by decide) ?_
              exact Ev_iret hq_213 (show decode prog_7_method_88_code 69 = .ok (.ireturn, 1) by decide +kernel) rfl k
      · have k := k.2 c3
        refine Ev_bipush (v := (-11)) hq_213 (show decode prog_7_method_88_code 36 = .ok (.bipush (-11), 2) by decide +kernel) (by decide) ?_
        exact Ev_iret hq_213 (show decode prog_7_method_88_code 38 = .ok (.ireturn, 1) by decide +kernel) rfl k
    · have k := k.2 (Classical.not_not.mp c2)
      refine Ev_bipush (v := (-12)) hq_213 (show decode prog_7_method_88_code 23 = .ok (.bipush (-12), 2) by decide +kernel) (by decide) ?_
      exact Ev_iret hq_213 (show decode prog_7_method_88_code 25 = .ok (.ireturn, 1) by decide +kernel) rfl k
  · have k := k.2 (Classical.not_not.mp c1)
    refine Ev_bipush (v := (-2)) hq_213 (show decode prog_7_method_88_code 10 = .ok (.bipush (-2), 2) by decide +kernel) (by decide) ?_
    exact Ev_iret hq_213 (show decode prog_7_method_88_code 12 = .ok (.ireturn, 1) by decide +kernel) rfl k
