set_option maxRecDepth 20000 in
theorem w5_R_read_43 {X : Nat × (Nat → Int32)} {d : Nat} {G : zG} {I : zI} {res : Option Value × zG × zI} (x2 : Int32) (x3 : Int32) (hS : S5 G) 
    (k : (3 ≤ x3 → (∀ I2 : zI, I2 = z_up I 42 (3 : Int32).toNatClampNeg (I 39 8) → (¬ (I2 39 4) = 0 → res = (some (.int (I2 39 2)), G, I2)) ∧ ((I2 39 4) = 0 → res = (some (.int (-1)), G, I2)))) ∧ (¬ 3 ≤ x3 → z_inr x3 4 ∧ (∀ I5 : zI, I5 = z_up I 42 x3.toNatClampNeg (I 39 8) → ∃ (r8 : Int32) (I6 : zI), Cv X d 22 [.ref 39, .int (11 + x3)] G I5 (some (.int r8), G, I6) ∧ ((r8 = 0 → res = (some (.int (I6 39 2)), G, I6)) ∧ (¬ r8 = 0 → ∃ (r12 : Int32) (I10 : zI), Cv X d 23 [.ref 39] G I6 (some (.int r12), G, I10) ∧ ((r12 = 0 → res = (some (.int (I10 39 2)), G, I10)) ∧ (¬ r12 = 0 → ∃ (r16 : Int32) (I14 : zI), Cv X d 22 [.ref 39, .int 5] G I10 (some (.int r16), G, I14) ∧ ((¬ r16 = 0 → ∀ y18 : Int32, y18 = x3 + 1 → Ev X (d + 1) 12 43 [.ref 39, .ref 44, .int x2, .int y18] [] G I14 res) ∧ (r16 = 0 → res = (some (.int (I14 39 2)), G, I14)))))))))) :
    Ev X (d + 1) 12 43 [.ref 39, .ref 44, .int x2, .int x3] [] G I res := by
  refine Ev_iload_n hq_12 (show decode prog_5_method_2_code 43 = .ok (.iload_n 3, 1) by decide +kernel) rfl ?_
  refine Ev_iconst (v := 3) hq_12 (show decode prog_5_method_2_code 44 = .ok (.iconst 3, 1) by decide +kernel) (by decide) ?_
  refine Ev_icmp_ge (tgt := 95) hq_12 (show decode prog_5_method_2_code 45 = .ok (.if_icmp .ge 50, 3) by decide +kernel) (by decide) (fun c1 => ?_) (fun c1 => ?_)
  · have k := k.1 c1
    refine Ev_aload_n hq_12 (show decode prog_5_method_2_code 95 = .ok (.aload_n 0, 1) by decide +kernel) rfl ?_
    refine Ev_getR hq_12 (show decode prog_5_method_2_code 96 = .ok (.getfield 42, 3) by decide +kernel) rfl (S5n hS (by decide)) (S5k hS rfl) (by decide) rfl (S5r hS rfl) ?_
    refine Ev_iconst (v := 3) hq_12 (show decode prog_5_method_2_code 99 = .ok (.iconst 3, 1) by decide +kernel) (by decide) ?_
    refine Ev_aload_n hq_12 (show decode prog_5_method_2_code 100 = .ok (.aload_n 0, 1) by decide +kernel) rfl ?_
    refine Ev_getI hq_12 (show decode prog_5_method_2_code 101 = .ok (.getfield 37, 3) by decide +kernel) rfl (S5n hS (by decide)) (S5k hS rfl) (by decide) rfl ?_
    refine Ev_iast hq_12 (show decode prog_5_method_2_code 104 = .ok (.iastore, 1) by decide +kernel) (S5n hS (by decide)) (S5k hS rfl) (S5i hS rfl (by decide)) ?_
    obtain ⟨I2, eI2⟩ : ∃ I2 : zI, I2 = z_up I 42 (3 : Int32).toNatClampNeg (I 39 8) := ⟨_, rfl⟩
    have k := k I2 eI2
    rw [← eI2]
    refine Ev_aload_n hq_12 (show decode prog_5_method_2_code 105 = .ok (.aload_n 0, 1) by decide +kernel) rfl ?_
    refine Ev_getI hq_12 (show decode prog_5_method_2_code 106 = .ok (.getfield 25, 3) by decide +kernel) rfl (S5n hS (by decide)) (S5k hS rfl) (by decide) rfl ?_
    refine Ev_if_ne (tgt := 116) hq_12 (show decode prog_5_method_2_code 109 = .ok (.ifCond .ne 7, 3) by decide +kernel) (by decide) (fun c3 => ?_) (fun c3 => ?_)
    · have k := k.1 c3
      refine Ev_aload_n hq_12 (show decode prog_5_method_2_code 116 = .ok (.aload_n 0, 1) by decide +kernel) rfl ?_
      refine Ev_getI hq_12 (show decode prog_5_method_2_code 117 = .ok (.getfield 19, 3) by decide +kernel) rfl (S5n hS (by decide)) (S5k hS rfl) (by decide) rfl ?_
      exact Ev_iret hq_12 (show decode prog_5_method_2_code 120 = .ok (.ireturn, 1) by decide +kernel) rfl k
    · have k := k.2 (Classical.not_not.mp c3)
      refine Ev_iconst (v := (-1)) hq_12 (show decode prog_5_method_2_code 112 = .ok (.iconst (-1), 1) by decide +kernel) (by decide) ?_
      refine Ev_goto (tgt := 120) hq_12 (show decode prog_5_method_2_code 113 = .ok (.goto 7, 3) by decide +kernel) (by decide) ?_
      exact Ev_iret hq_12 (show decode prog_5_method_2_code 120 = .ok (.ireturn, 1) by decide +kernel) rfl k
  · have k := k.2 c1
    refine Ev_aload_n hq_12 (show decode prog_5_method_2_code 48 = .ok (.aload_n 0, 1) by decide +kernel) rfl ?_
    refine Ev_getR hq_12 (show decode prog_5_method_2_code 49 = .ok (.getfield 42, 3) by decide +kernel) rfl (S5n hS (by decide)) (S5k hS rfl) (by decide) rfl (S5r hS rfl) ?_
    refine Ev_iload_n hq_12 (show decode prog_5_method_2_code 52 = .ok (.iload_n 3, 1) by decide +kernel) rfl ?_
    refine Ev_aload_n hq_12 (show decode prog_5_method_2_code 53 = .ok (.aload_n 0, 1) by decide +kernel) rfl ?_
    refine Ev_getI hq_12 (show decode prog_5_method_2_code 54 = .ok (.getfield 37, 3) by decide +kernel) rfl (S5n hS (by decide)) (S5k hS rfl) (by decide) rfl ?_
    obtain ⟨h4, k⟩ := k
    refine Ev_iast hq_12 (show decode prog_5_method_2_code 57 = .ok (.iastore, 1) by decide +kernel) (S5n hS (by decide)) (S5k hS rfl) (S5i hS rfl h4) ?_
    obtain ⟨I5, eI5⟩ : ∃ I5 : zI, I5 = z_up I 42 x3.toNatClampNeg (I 39 8) := ⟨_, rfl⟩
    have k := k I5 eI5
    rw [← eI5]
    refine Ev_aload_n hq_12 (show decode prog_5_method_2_code 58 = .ok (.aload_n 0, 1) by decide +kernel) rfl ?_
    refine Ev_bipush (v := 11) hq_12 (show decode prog_5_method_2_code 59 = .ok (.bipush 11, 2) by decide +kernel) (by decide) ?_
    refine Ev_iload_n hq_12 (show decode prog_5_method_2_code 61 = .ok (.iload_n 3, 1) by decide +kernel) rfl ?_
    refine Ev_iadd hq_12 (show decode prog_5_method_2_code 62 = .ok (.iadd, 1) by decide +kernel) ?_
    obtain ⟨r8, I6, h7, k⟩ := k
    refine Ev_virt (as := [.int (11 + x3)]) hq_12 (show decode prog_5_method_2_code 63 = .ok (.invokevirtual 52, 3) by decide +kernel) rfl hq_22 rfl (z_le rfl) ⟨(S5n hS (by decide)), (S5k hS rfl), by decide⟩ h7 ?_
    refine Ev_if_eq (tgt := 84) hq_12 (show decode prog_5_method_2_code 66 = .ok (.ifCond .eq 18, 3) by decide +kernel) (by decide) (fun c9 => ?_) (fun c9 => ?_)
    · have k := k.1 c9
      refine Ev_aload_n hq_12 (show decode prog_5_method_2_code 84 = .ok (.aload_n 0, 1) by decide +kernel) rfl ?_
      refine Ev_getI hq_12 (show decode prog_5_method_2_code 85 = .ok (.getfield 19, 3) by decide +kernel) rfl (S5n hS (by decide)) (S5k hS rfl) (by decide) rfl ?_
      exact Ev_iret hq_12 (show decode prog_5_method_2_code 88 = .ok (.ireturn, 1) by decide +kernel) rfl k
    · have k := k.2 c9
      refine Ev_aload_n hq_12 (show decode prog_5_method_2_code 69 = .ok (.aload_n 0, 1) by decide +kernel) rfl ?_
      obtain ⟨r12, I10, h11, k⟩ := k
      refine Ev_virt (as := []) hq_12 (show decode prog_5_method_2_code 70 = .ok (.invokevirtual 56, 3) by decide +kernel) rfl hq_23 rfl (z_le rfl) ⟨(S5n hS (by decide)), (S5k hS rfl), by decide⟩ h11 ?_
      refine Ev_if_eq (tgt := 84) hq_12 (show decode prog_5_method_2_code 73 = .ok (.ifCond .eq 11, 3) by decide +kernel) (by decide) (fun c13 => ?_) (fun c13 => ?_)
      · have k := k.1 c13
        refine Ev_aload_n hq_12 (show decode prog_5_method_2_code 84 = .ok (.aload_n 0, 1) by decide +kernel) rfl ?_
        refine Ev_getI hq_12 (show decode prog_5_method_2_code 85 = .ok (.getfield 19, 3) by decide +kernel) rfl (S5n hS (by decide)) (S5k hS rfl) (by decide) rfl ?_
        exact Ev_iret hq_12 (show decode prog_5_method_2_code 88 = .ok (.ireturn, 1) by decide +kernel) rfl k
      · have k := k.2 c13
        refine Ev_aload_n hq_12 (show decode prog_5_method_2_code 76 = .ok (.aload_n 0, 1) by decide +kernel) rfl ?_
        refine Ev_iconst (v := 5) hq_12 (show decode prog_5_method_2_code 77 = .ok (.iconst 5, 1) by decide +kernel) (by decide) ?_
        obtain ⟨r16, I14, h15, k⟩ := k
        refine Ev_virt (as := [.int 5]) hq_12 (show decode prog_5_method_2_code 78 = .ok (.invokevirtual 52, 3) by decide +kernel) rfl hq_22 rfl (z_le rfl) ⟨(S5n hS (by decide)), (S5k hS rfl), by decide⟩ h15 ?_
        refine Ev_if_ne (tgt := 89) hq_12 (show decode prog_5_method_2_code 81 = .ok (.ifCond .ne 8, 3) by decide +kernel) (by decide) (fun c17 => ?_) (fun c17 => ?_)
        · have k := k.1 c17
          obtain ⟨y18, ey18⟩ : ∃ y18 : Int32, y18 = x3 + 1 := ⟨_, rfl⟩
          have k := k y18 ey18
          refine Ev_iinc (v := y18) (lo2 := [.ref 39, .ref 44, .int x2, .int y18]) hq_12 (show decode prog_5_method_2_code 89 = .ok (.iinc 3 1, 3) by decide +kernel) rfl (by rw [ey18]; rfl) rfl ?_
          refine Ev_goto (tgt := 43) hq_12 (show decode prog_5_method_2_code 92 = .ok (.goto (-49), 3) by decide +kernel) (by decide) ?_
          exact k
        · have k := k.2 (Classical.not_not.mp c17)
          refine Ev_aload_n hq_12 (show decode prog_5_method_2_code 84 = .ok (.aload_n 0, 1) by decide +kernel) rfl ?_
          refine Ev_getI hq_12 (show decode prog_5_method_2_code 85 = .ok (.getfield 19, 3) by decide +kernel) rfl (S5n hS (by decide)) (S5k hS rfl) (by decide) rfl ?_
          exact Ev_iret hq_12 (show decode prog_5_method_2_code 88 = .ok (.ireturn, 1) by decide +kernel) rfl k
