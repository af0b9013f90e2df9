set_option maxRecDepth 20000 in
theorem wp_M_feel {X : Nat × (Nat → Int32)} {d : Nat} {G : zG} {I : zI} {res : Option Value × zG × zI} (o : Nat) (x2 : Int32) (x3 : Int32) (hS : SG G) (ho : HH G o) 
    (k : z_inr x3 4 ∧ (z_inr x3 4 ∧ (z_inr (if 0 < (x2 - (if 0 < (I (o + (2 + 1)) x3.toNatClampNeg) then (I (o + (2 + 1)) x3.toNatClampNeg) else 0)) then (x2 - (if 0 < (I (o + (2 + 1)) x3.toNatClampNeg) then (I (o + (2 + 1)) x3.toNatClampNeg) else 0)) else 0) 31 ∧ (∀ y5 : Int32, y5 = (I (32 + x3.toNatClampNeg) (if 0 < (x2 - (if 0 < (I (o + (2 + 1)) x3.toNatClampNeg) then (I (o + (2 + 1)) x3.toNatClampNeg) else 0)) then (x2 - (if 0 < (I (o + (2 + 1)) x3.toNatClampNeg) then (I (o + (2 + 1)) x3.toNatClampNeg) else 0)) else 0).toNatClampNeg) → z_inr x3 4 ∧ (z_inr x3 4 ∧ (z_inr x3 4 ∧ (∃ (r12 : Int32) (I10 : zI), Cv X d 65 [.ref 25, .ref o, .int x2, .int x3] G I (some (.int r12), G, I10) ∧ (∃ (r15 : Int32) (I13 : zI), Cv X d 66 [.int (I (o + (0 + 1)) x3.toNatClampNeg), .int (I (o + (1 + 1)) x3.toNatClampNeg), .int y5, .int r12, .int x2] G I10 (some (.int r15), G, I13) ∧ (z_inr x2 30 ∧ (∀ I17 : zI, I17 = z_up I13 (27 + x3.toNatClampNeg) x2.toNatClampNeg r15 → res = (none, G, I17))))))))))) :
    Ev X (d + 1) 64 0 [.ref 25, .ref o, .int x2, .int x3, zU] [] G I res := by
  refine Ev_aload_n hq_64 (show decode prog_4_method_3_code 0 = .ok (.aload_n 0, 1) by decide +kernel) rfl ?_
  refine Ev_getR hq_64 (show decode prog_4_method_3_code 1 = .ok (.getfield 16, 3) by decide +kernel) rfl (SGn hS (by decide)) (SGk hS rfl) (by decide) rfl (SGr hS rfl) ?_
  refine Ev_iload_n hq_64 (show decode prog_4_method_3_code 4 = .ok (.iload_n 3, 1) by decide +kernel) rfl ?_
  obtain ⟨h1, k⟩ := k
  have r2 := SGrow hS (a := 31) (b := 32) (n := 31) (Or.inr (Or.inl ⟨rfl, rfl, rfl⟩)) h1.2
  refine Ev_aald hq_64 (show decode prog_4_method_3_code 5 = .ok (.aaload, 1) by decide +kernel) (SGn hS (by decide)) (Or.inr (SGk hS rfl)) (SGi hS rfl h1) r2.1 ?_
  refine Ev_iconst (v := 0) hq_64 (show decode prog_4_method_3_code 6 = .ok (.iconst 0, 1) by decide +kernel) (by decide) ?_
  refine Ev_iload_n hq_64 (show decode prog_4_method_3_code 7 = .ok (.iload_n 2, 1) by decide +kernel) rfl ?_
  refine Ev_iconst (v := 0) hq_64 (show decode prog_4_method_3_code 8 = .ok (.iconst 0, 1) by decide +kernel) (by decide) ?_
  refine Ev_aload_n hq_64 (show decode prog_4_method_3_code 9 = .ok (.aload_n 1, 1) by decide +kernel) rfl ?_
  refine Ev_getR hq_64 (show decode prog_4_method_3_code 10 = .ok (.getfield 55, 3) by decide +kernel) rfl (VB.lt ho (by omega)) ho.2.1 (by decide) rfl (ho.2.2 2 (by decide)).1 ?_
  refine Ev_iload_n hq_64 (show decode prog_4_method_3_code 13 = .ok (.iload_n 3, 1) by decide +kernel) rfl ?_
  obtain ⟨h3, k⟩ := k
  refine Ev_iald hq_64 (show decode prog_4_method_3_code 14 = .ok (.iaload, 1) by decide +kernel) (VB.lt ho (by omega)) (ho.2.2 2 (by decide)).2.1 (VB.inr ho (j := 2) (n := 4) (by decide) rfl h3) ?_
  refine Ev_max hq_64 (show decode prog_4_method_3_code 15 = .ok (.invokestatic 58, 3) by decide +kernel) rfl (z_le rfl) ?_
  refine Ev_isub hq_64 (show decode prog_4_method_3_code 18 = .ok (.isub, 1) by decide +kernel) ?_
  refine Ev_max hq_64 (show decode prog_4_method_3_code 19 = .ok (.invokestatic 58, 3) by decide +kernel) rfl (z_le rfl) ?_
  obtain ⟨h4, k⟩ := k
  refine Ev_iald hq_64 (show decode prog_4_method_3_code 22 = .ok (.iaload, 1) by decide +kernel) r2.2.1 r2.2.2.1 (by rw [r2.2.2.2]; exact h4) ?_
  obtain ⟨y5, ey5⟩ : ∃ y5 : Int32, y5 = (I (32 + x3.toNatClampNeg) (if 0 < (x2 - (if 0 < (I (o + (2 + 1)) x3.toNatClampNeg) then (I (o + (2 + 1)) x3.toNatClampNeg) else 0)) then (x2 - (if 0 < (I (o + (2 + 1)) x3.toNatClampNeg) then (I (o + (2 + 1)) x3.toNatClampNeg) else 0)) else 0).toNatClampNeg) := ⟨_, rfl⟩
  have k := k y5 ey5
  rw [← ey5]
  refine Ev_istore (lo2 := [.ref 25, .ref o, .int x2, .int x3, .int y5]) hq_64 (show decode prog_4_method_3_code 23 = .ok (.istore 4, 2) by decide +kernel) (z_le rfl) rfl ?_
  refine Ev_aload_n hq_64 (show decode prog_4_method_3_code 25 = .ok (.aload_n 0, 1) by decide +kernel) rfl ?_
  refine Ev_getR hq_64 (show decode prog_4_method_3_code 26 = .ok (.getfield 11, 3) by decide +kernel) rfl (SGn hS (by decide)) (SGk hS rfl) (by decide) rfl (SGr hS rfl) ?_
  refine Ev_iload_n hq_64 (show decode prog_4_method_3_code 29 = .ok (.iload_n 3, 1) by decide +kernel) rfl ?_
  obtain ⟨h6, k⟩ := k
  have r7 := SGrow hS (a := 26) (b := 27) (n := 30) (Or.inl ⟨rfl, rfl, rfl⟩) h6.2
  refine Ev_aald hq_64 (show decode prog_4_method_3_code 30 = .ok (.aaload, 1) by decide +kernel) (SGn hS (by decide)) (Or.inr (SGk hS rfl)) (SGi hS rfl h6) r7.1 ?_
  refine Ev_iload_n hq_64 (show decode prog_4_method_3_code 31 = .ok (.iload_n 2, 1) by decide +kernel) rfl ?_
  refine Ev_aload_n hq_64 (show decode prog_4_method_3_code 32 = .ok (.aload_n 1, 1) by decide +kernel) rfl ?_
  refine Ev_getR hq_64 (show decode prog_4_method_3_code 33 = .ok (.getfield 61, 3) by decide +kernel) rfl (VB.lt ho (by omega)) ho.2.1 (by decide) rfl (ho.2.2 0 (by decide)).1 ?_
  refine Ev_iload_n hq_64 (show decode prog_4_method_3_code 36 = .ok (.iload_n 3, 1) by decide +kernel) rfl ?_
  obtain ⟨h8, k⟩ := k
  refine Ev_iald hq_64 (show decode prog_4_method_3_code 37 = .ok (.iaload, 1) by decide +kernel) (VB.lt ho (by omega)) (ho.2.2 0 (by decide)).2.1 (VB.inr ho (j := 0) (n := 4) (by decide) rfl h8) ?_
  refine Ev_aload_n hq_64 (show decode prog_4_method_3_code 38 = .ok (.aload_n 1, 1) by decide +kernel) rfl ?_
  refine Ev_getR hq_64 (show decode prog_4_method_3_code 39 = .ok (.getfield 64, 3) by decide +kernel) rfl (VB.lt ho (by omega)) ho.2.1 (by decide) rfl (ho.2.2 1 (by decide)).1 ?_
  refine Ev_iload_n hq_64 (show decode prog_4_method_3_code 42 = .ok (.iload_n 3, 1) by decide +kernel) rfl ?_
  obtain ⟨h9, k⟩ := k
  refine Ev_iald hq_64 (show decode prog_4_method_3_code 43 = .ok (.iaload, 1) by decide +kernel) (VB.lt ho (by omega)) (ho.2.2 1 (by decide)).2.1 (VB.inr ho (j := 1) (n := 4) (by decide) rfl h9) ?_
  refine Ev_iload hq_64 (show decode prog_4_method_3_code 44 = .ok (.iload 4, 2) by decide +kernel) rfl ?_
  refine Ev_aload_n hq_64 (show decode prog_4_method_3_code 46 = .ok (.aload_n 0, 1) by decide +kernel) rfl ?_
  refine Ev_aload_n hq_64 (show decode prog_4_method_3_code 47 = .ok (.aload_n 1, 1) by decide +kernel) rfl ?_
  refine Ev_iload_n hq_64 (show decode prog_4_method_3_code 48 = .ok (.iload_n 2, 1) by decide +kernel) rfl ?_
  refine Ev_iload_n hq_64 (show decode prog_4_method_3_code 49 = .ok (.iload_n 3, 1) by decide +kernel) rfl ?_
  obtain ⟨r12, I10, h11, k⟩ := k
  refine Ev_virt (as := [.ref o, .int x2, .int x3]) hq_64 (show decode prog_4_method_3_code 50 = .ok (.invokevirtual 67, 3) by decide +kernel) rfl hq_65 rfl (z_le rfl) ⟨(SGn hS (by decide)), (SGk hS rfl), by decide⟩ h11 ?_
  refine Ev_iload_n hq_64 (show decode prog_4_method_3_code 53 = .ok (.iload_n 2, 1) by decide +kernel) rfl ?_
  obtain ⟨r15, I13, h14, k⟩ := k
  refine Ev_stat (as := [.int (I (o + (0 + 1)) x3.toNatClampNeg), .int (I (o + (1 + 1)) x3.toNatClampNeg), .int y5, .int r12, .int x2]) hq_64 (show decode prog_4_method_3_code 54 = .ok (.invokestatic 71, 3) by decide +kernel) rfl (Or.inr rfl) hq_66 rfl (z_le rfl) h14 ?_
  obtain ⟨h16, k⟩ := k
  refine Ev_iast hq_64 (show decode prog_4_method_3_code 57 = .ok (.iastore, 1) by decide +kernel) r7.2.1 r7.2.2.1 (by rw [r7.2.2.2]; exact h16) ?_
  obtain ⟨I17, eI17⟩ : ∃ I17 : zI, I17 = z_up I13 (27 + x3.toNatClampNeg) x2.toNatClampNeg r15 := ⟨_, rfl⟩
  have k := k I17 eI17
  rw [← eI17]
  exact Ev_vret hq_64 (show decode prog_4_method_3_code 58 = .ok (.return_, 1) by decide +kernel) k
set_option maxRecDepth 20000 in
theorem wp_T_turnedBy {X : Nat × (Nat → Int32)} {d : Nat} {G : zG} {I : zI} {res : Option Value × zG × zI} (x0 : Int32) (x1 : Int32) (x2 : Int32) 
    (k : (¬ x0 = 5 → (¬ x0 = 4 → (x0 = 2 → ∀ y4 : Int32, y4 = ((if 0 < x1 then x1 else 0) + 1) → (¬ y4 = 0) ∧ (res = (some (.int ((x2 / y4) * y4)), G, I))) ∧ (¬ x0 = 2 → (x0 = 4 → ∀ y7 : Int32, y7 = ((if 0 < x1 then x1 else 0) + 1) → (¬ y7 = 0) ∧ (res = (some (.int ((x2 / y7) * y7)), G, I))) ∧ (¬ x0 = 4 → res = (some (.int x2), G, I)))) ∧ (x0 = 4 → ((3 * x1) ≤ (if 0 ≤ x2 then x2 else 0 - x2) → (x0 = 2 → ∀ y11 : Int32, y11 = ((if 0 < x1 then x1 else 0) + 1) → (¬ y11 = 0) ∧ (res = (some (.int ((x2 / y11) * y11)), G, I))) ∧ (¬ x0 = 2 → (x0 = 4 → ∀ y14 : Int32, y14 = ((if 0 < x1 then x1 else 0) + 1) → (¬ y14 = 0) ∧ (res = (some (.int ((x2 / y14) * y14)), G, I))) ∧ (¬ x0 = 4 → res = (some (.int x2), G, I)))) ∧ (¬ (3 * x1) ≤ (if 0 ≤ x2 then x2 else 0 - x2) → res = (some (.int 0), G, I)))) ∧ (x0 = 5 → res = (some (.int 0), G, I))) :
    Ev X (d + 1) 68 0 [.int x0, .int x1, .int x2, zU] [] G I res := by
  refine Ev_iload_n hq_68 (show decode prog_1_method_20_code 0 = .ok (.iload_n 0, 1) by decide +kernel) rfl ?_
  refine Ev_iconst (v := 5) hq_68 (show decode prog_1_method_20_code 1 = .ok (.iconst 5, 1) by decide +kernel) (by decide) ?_
  refine Ev_icmp_ne (tgt := 7) hq_68 (show decode prog_1_method_20_code 2 = .ok (.if_icmp .ne 5, 3) by decide +kernel) (by decide) (fun c1 => ?_) (fun c1 => ?_)
  · have k := k.1 c1
    refine Ev_iload_n hq_68 (show decode prog_1_method_20_code 7 = .ok (.iload_n 0, 1) by decide +kernel) rfl ?_
    refine Ev_iconst (v := 4) hq_68 (show decode prog_1_method_20_code 8 = .ok (.iconst 4, 1) by decide +kernel) (by decide) ?_
    refine Ev_icmp_ne (tgt := 24) hq_68 (show decode prog_1_method_20_code 9 = .ok (.if_icmp .ne 15, 3) by decide +kernel) (by decide) (fun c2 => ?_) (fun c2 => ?_)
    · have k := k.1 c2
      refine Ev_iload_n hq_68 (show decode prog_1_method_20_code 24 = .ok (.iload_n 0, 1) by decide +kernel) rfl ?_
      refine Ev_iconst (v := 2) hq_68 (show decode prog_1_method_20_code 25 = .ok (.iconst 2, 1) by decide +kernel) (by decide) ?_
      refine Ev_icmp_eq (tgt := 36) hq_68 (show decode prog_1_method_20_code 26 = .ok (.if_icmp .eq 10, 3) by decide +kernel) (by decide) (fun c3 => ?_) (fun c3 => ?_)
      · have k := k.1 c3
        refine Ev_iconst (v := 0) hq_68 (show decode prog_1_method_20_code 36 = .ok (.iconst 0, 1) by decide +kernel) (by decide) ?_
        refine Ev_iload_n hq_68 (show decode prog_1_method_20_code 37 = .ok (.iload_n 1, 1) by decide +kernel) rfl ?_
        refine Ev_max hq_68 (show decode prog_1_method_20_code 38 = .ok (.invokestatic 168, 3) by decide +kernel) rfl (z_le rfl) ?_
        refine Ev_iconst (v := 1) hq_68 (show decode prog_1_method_20_code 41 = .ok (.iconst 1, 1) by decide +kernel) (by decide) ?_
        refine Ev_iadd hq_68 (show decode prog_1_method_20_code 42 = .ok (.iadd, 1) by decide +kernel) ?_
        obtain ⟨y4, ey4⟩ : ∃ y4 : Int32, y4 = ((if 0 < x1 then x1 else 0) + 1) := ⟨_, rfl⟩
        have k := k y4 ey4
        rw [← ey4]
        refine Ev_istore_n (lo2 := [.int x0, .int x1, .int x2, .int y4]) hq_68 (show decode prog_1_method_20_code 43 = .ok (.istore_n 3, 1) by decide +kernel) (z_le rfl) rfl ?_
        refine Ev_iload_n hq_68 (show decode prog_1_method_20_code 44 = .ok (.iload_n 2, 1) by decide +kernel) rfl ?_
        refine Ev_iload_n hq_68 (show decode prog_1_method_20_code 45 = .ok (.iload_n 3, 1) by decide +kernel) rfl ?_
        obtain ⟨h5, k⟩ := k
        refine Ev_idiv hq_68 (show decode prog_1_method_20_code 46 = .ok (.idiv, 1) by decide +kernel) h5 ?_
        refine Ev_iload_n hq_68 (show decode prog_1_method_20_code 47 = .ok (.iload_n 3, 1) by decide +kernel) rfl ?_
        refine Ev_imul hq_68 (show decode prog_1_method_20_code 48 = .ok (.imul, 1) by decide +kernel) ?_
        exact Ev_iret hq_68 (show decode prog_1_method_20_code 49 = .ok (.ireturn, 1) by decide +kernel) rfl k
      · have k := k.2 c3
        refine Ev_iload_n hq_68 (show decode prog_1_method_20_code 29 = .ok (.iload_n 0, 1) by decide +kernel) rfl ?_
        refine Ev_iconst (v := 4) hq_68 (show decode prog_1_method_20_code 30 = .ok (.iconst 4, 1) by decide +kernel) (by decide) ?_
        refine Ev_icmp_eq (tgt := 36) hq_68 (show decode prog_1_method_20_code 31 = .ok (.if_icmp .eq 5, 3) by decide +kernel) (by decide) (fun c6 => ?_) (fun c6 => ?_)
        · have k := k.1 c6
          refine Ev_iconst (v := 0) hq_68 (show decode prog_1_method_20_code 36 = .ok (.iconst 0, 1) by decide +kernel) (by decide) ?_
          refine Ev_iload_n hq_68 (show decode prog_1_method_20_code 37 = .ok (.iload_n 1, 1) by decide +kernel) rfl ?_
          refine Ev_max hq_68 (show decode prog_1_method_20_code 38 = .ok (.invokestatic 168, 3) by decide +kernel) rfl (z_le rfl) ?_
          refine Ev_iconst (v := 1) hq_68 (show decode prog_1_method_20_code 41 = .ok (.iconst 1, 1) by decide +kernel) (by decide) ?_
          refine Ev_iadd hq_68 (show decode prog_1_method_20_code 42 = .ok (.iadd, 1) by decide +kernel) ?_
          obtain ⟨y7, ey7⟩ : ∃ y7 : Int32, y7 = ((if 0 < x1 then x1 else 0) + 1) := ⟨_, rfl⟩
          have k := k y7 ey7
          rw [← ey7]
          refine Ev_istore_n (lo2 := [.int x0, .int x1, .int x2, .int y7]) hq_68 (show decode prog_1_method_20_code 43 = .ok (.istore_n 3, 1) by decide +kernel) (z_le rfl) rfl ?_
          refine Ev_iload_n hq_68 (show decode prog_1_method_20_code 44 = .ok (.iload_n 2, 1) by decide +kernel) rfl ?_
          refine Ev_iload_n hq_68 (show decode prog_1_method_20_code 45 = .ok (.iload_n 3, 1) by decide +kernel) rfl ?_
          obtain ⟨h8, k⟩ := k
          refine Ev_idiv hq_68 (show decode prog_1_method_20_code 46 = .ok (.idiv, 1) by decide +kernel) h8 ?_
          refine Ev_iload_n hq_68 (show decode prog_1_method_20_code 47 = .ok (.iload_n 3, 1) by decide +kernel) rfl ?_
          refine Ev_imul hq_68 (show decode prog_1_method_20_code 48 = .ok (.imul, 1) by decide +kernel) ?_
          exact Ev_iret hq_68 (show decode prog_1_method_20_code 49 = .ok (.ireturn, 1) by decide +kernel) rfl k
        · have k := k.2 c6
          refine Ev_iload_n hq_68 (show decode prog_1_method_20_code 34 = .ok (.iload_n 2, 1) by decide +kernel) rfl ?_
          exact Ev_iret hq_68 (show decode prog_1_method_20_code 35 = .ok (.ireturn, 1) by decide +kernel) rfl k
    · have k := k.2 (Classical.not_not.mp c2)
      refine Ev_iload_n hq_68 (show decode prog_1_method_20_code 12 = .ok (.iload_n 2, 1) by decide +kernel) rfl ?_
      refine Ev_abs hq_68 (show decode prog_1_method_20_code 13 = .ok (.invokestatic 175, 3) by decide +kernel) rfl (z_le rfl) ?_
      refine Ev_iconst (v := 3) hq_68 (show decode prog_1_method_20_code 16 = .ok (.iconst 3, 1) by decide +kernel) (by decide) ?_
      refine Ev_iload_n hq_68 (show decode prog_1_method_20_code 17 = .ok (.iload_n 1, 1) by decide +kernel) rfl ?_
      refine Ev_imul hq_68 (show decode prog_1_method_20_code 18 = .ok (.imul, 1) by decide +kernel) ?_
      refine Ev_icmp_ge (tgt := 24) hq_68 (show decode prog_1_method_20_code 19 = .ok (.if_icmp .ge 5, 3) by decide +kernel) (by decide) (fun c9 => ?_) (fun c9 => ?_)
      · have k := k.1 c9
        refine Ev_iload_n hq_68 (show decode prog_1_method_20_code 24 = .ok (.iload_n 0, 1) by decide +kernel) rfl ?_
        refine Ev_iconst (v := 2) hq_68 (show decode prog_1_method_20_code 25 = .ok (.iconst 2, 1) by decide +kernel) (by decide) ?_
        refine Ev_icmp_eq (tgt := 36) hq_68 (show decode prog_1_method_20_code 26 = .ok (.if_icmp .eq 10, 3) by decide +kernel) (by decide) (fun c10 => ?_) (fun c10 => ?_)
        · have k := k.1 c10
          refine Ev_iconst (v := 0) hq_68 (show decode prog_1_method_20_code 36 = .ok (.iconst 0, 1) by decide +kernel) (by decide) ?_
          refine Ev_iload_n hq_68 (show decode prog_1_method_20_code 37 = .ok (.iload_n 1, 1) by decide +kernel) rfl ?_
          refine Ev_max hq_68 (show decode prog_1_method_20_code 38 = .ok (.invokestatic 168, 3) by decide +kernel) rfl (z_le rfl) ?_
          refine Ev_iconst (v := 1) hq_68 (show decode prog_1_method_20_code 41 = .ok (.iconst 1, 1) by decide +kernel) (by decide) ?_
          refine Ev_iadd hq_68 (show decode prog_1_method_20_code 42 = .ok (.iadd, 1) by decide +kernel) ?_
          obtain ⟨y11, ey11⟩ : ∃ y11 : Int32, y11 = ((if 0 < x1 then x1 else 0) + 1) := ⟨_, rfl⟩
          have k := k y11 ey11
          rw [← ey11]
          refine Ev_istore_n (lo2 := [.int x0, .int x1, .int x2, .int y11]) hq_68 (show decode prog_1_method_20_code 43 = .ok (.istore_n 3, 1) by decide +kernel) (z_le rfl) rfl ?_
          refine Ev_iload_n hq_68 (show decode prog_1_method_20_code 44 = .ok (.iload_n 2, 1) by decide +kernel) rfl ?_
          refine Ev_iload_n hq_68 (show decode prog_1_method_20_code 45 = .ok (.iload_n 3, 1) by decide +kernel) rfl ?_
          obtain ⟨h12, k⟩ := k
          refine Ev_idiv hq_68 (show decode prog_1_method_20_code 46 = .ok (.idiv, 1) by decide +kernel) h12 ?_
          refine Ev_iload_n hq_68 (show decode prog_1_method_20_code 47 = .ok (.iload_n 3, 1) by decide +kernel) rfl ?_
          refine Ev_imul hq_68 (show decode prog_1_method_20_code 48 = .ok (.imul, 1) by decide +kernel) ?_
          exact Ev_iret hq_68 (show decode prog_1_method_20_code 49 = .ok (.ireturn, 1) by decide +kernel) rfl k
        · have k := k.2 c10
          refine Ev_iload_n hq_68 (show decode prog_1_method_20_code 29 = .ok (.iload_n 0, 1) by decide +kernel) rfl ?_
          refine Ev_iconst (v := 4) hq_68 (show decode prog_1_method_20_code 30 = .ok (.iconst 4, 1) by decide +kernel) (by decide) ?_
          refine Ev_icmp_eq (tgt := 36) hq_68 (show decode prog_1_method_20_code 31 = .ok (.if_icmp .eq 5, 3) by decide +kernel) (by decide) (fun c13 => ?_) (fun c13 => ?_)
          · have k := k.1 c13
            refine Ev_iconst (v := 0) hq_68 (show decode prog_1_method_20_code 36 = .ok (.iconst 0, 1) by decide +kernel) (by decide) ?_
            refine Ev_iload_n hq_68 (show decode prog_1_method_20_code 37 = .ok (.iload_n 1, 1) by decide +kernel) rfl ?_
            refine Ev_max hq_68 (show decode prog_1_method_20_code 38 = .ok (.invokestatic 168, 3) by decide +kernel) rfl (z_le rfl) ?_
            refine Ev_iconst (v := 1) hq_68 (show decode prog_1_method_20_code 41 = .ok (.iconst 1, 1) by decide +kernel) (by decide) ?_
            refine Ev_iadd hq_68 (show decode prog_1_method_20_code 42 = .ok (.iadd, 1) by decide +kernel) ?_
            obtain ⟨y14, ey14⟩ : ∃ y14 : Int32, y14 = ((if 0 < x1 then x1 else 0) + 1) := ⟨_, rfl⟩
            have k := k y14 ey14
            rw [← ey14]
            refine Ev_istore_n (lo2 := [.int x0, .int x1, .int x2, .int y14]) hq_68 (show decode prog_1_method_20_code 43 = .ok (.istore_n 3, 1) by decide +kernel) (z_le rfl) rfl ?_
            refine Ev_iload_n hq_68 (show decode prog_1_method_20_code 44 = .ok (.iload_n 2, 1) by decide +kernel) rfl ?_
            refine Ev_iload_n hq_68 (show decode prog_1_method_20_code 45 = .ok (.iload_n 3, 1) by decide +kernel) rfl ?_
            obtain ⟨h15, k⟩ := k
            refine Ev_idiv hq_68 (show decode prog_1_method_20_code 46 = .ok (.idiv, 1) by decide +kernel) h15 ?_
            refine Ev_iload_n hq_68 (show decode prog_1_method_20_code 47 = .ok (.iload_n 3, 1) by decide +kernel) rfl ?_
            refine Ev_imul hq_68 (show decode prog_1_method_20_code 48 = .ok (.imul, 1) by decide +kernel) ?_
            exact Ev_iret hq_68 (show decode prog_1_method_20_code 49 = .ok (.ireturn, 1) by decide +kernel) rfl k
          · have k := k.2 c13
            refine Ev_iload_n hq_68 (show decode prog_1_method_20_code 34 = .ok (.iload_n 2, 1) by decide +kernel) rfl ?_
            exact Ev_iret hq_68 (show decode prog_1_method_20_code 35 = .ok (.ireturn, 1) by decide +kernel) rfl k
      · have k := k.2 c9
        refine Ev_iconst (v := 0) hq_68 (show decode prog_1_method_20_code 22 = .ok (.iconst 0, 1) by decide +kernel) (by decide) ?_
        exact Ev_iret hq_68 (show decode prog_1_method_20_code 23 = .ok (.ireturn, 1) by decide +kernel) rfl k
  · have k := k.2 (Classical.not_not.mp c1)
    refine Ev_iconst (v := 0) hq_68 (show decode prog_1_method_20_code 5 = .ok (.iconst 0, 1) by decide +kernel) (by decide) ?_
    exact Ev_iret hq_68 (show decode prog_1_method_20_code 6 = .ok (.ireturn, 1) by decide +kernel) rfl k
set_option maxRecDepth 20000 in
theorem wp_M_liveBeat {X : Nat × (Nat → Int32)} {d : Nat} {G : zG} {I : zI} {res : Option Value × zG × zI} (o : Nat) (w : Nat) (x3 : Int32) (x4 : Int32) (x5 : Int32) (hS : SG G) (ho : HH G o) (hw : LW G w) 
    (k : z_inr x4 4 ∧ (z_inr x4 4 ∧ (z_inr x3 30 ∧ (∀ y5 : Int32, y5 = ((I (o + (3 + 1)) x4.toNatClampNeg) - (I (27 + x4.toNatClampNeg) x3.toNatClampNeg)) → z_inr x4 4 ∧ (z_inr x4 4 ∧ (z_inr (if 0 < (x3 - 1) then (x3 - 1) else 0) 30 ∧ (∀ y10 : Int32, y10 = ((I (o + (3 + 1)) x4.toNatClampNeg) - (I (27 + x4.toNatClampNeg) (if 0 < (x3 - 1) then (x3 - 1) else 0).toNatClampNeg)) → z_inr x4 4 ∧ (z_inr x3 31 ∧ (z_inr x4 4 ∧ (z_inr x4 4 ∧ (∃ (I16 : zI), Cv X d 49 [.ref w, .int y5, .int y10, .int (I (32 + x4.toNatClampNeg) x3.toNatClampNeg), .int x3, .int (I (o + (2 + 1)) x4.toNatClampNeg), .int (I (o + (1 + 1)) x4.toNatClampNeg)] G I (none, G, I16) ∧ (z_inr x4 4 ∧ (∃ (r21 : Int32) (I19 : zI), Cv X d 50 [.ref w, .int 1] G I16 (some (.int r21), G, I19) ∧ (z_inr x4 4 ∧ (∀ I23 : zI, I23 = z_up I19 36 x4.toNatClampNeg ((I16 36 x4.toNatClampNeg) + r21) → ∃ (r26 : Int32) (I24 : zI), Cv X d 50 [.ref w, .int 2] G I23 (some (.int r26), G, I24) ∧ ((¬ r26 = 1 → z_inr x4 4 ∧ (z_inr x4 4 ∧ (((-y5) < (f_T_scaldsFrom (I24 (o + (0 + 1)) x4.toNatClampNeg) (I24 (o + (1 + 1)) x4.toNatClampNeg)) → (x5 = 0 → ∃ (r34 : Int32) (I32 : zI), Cv X d 50 [.ref w, .int 0] G I24 (some (.int r34), G, I32) ∧ (z_inr x4 4 ∧ (∀ y36 : Int32, y36 = ((r34 * (I32 (o + (5 + 1)) x4.toNatClampNeg)) / 8) → z_inr x4 4 ∧ (z_inr x4 4 ∧ (z_inr x3 31 ∧ (z_inr x4 4 ∧ (z_inr x4 4 ∧ (∃ (r46 : Int32) (I44 : zI), Cv X d 68 [.int (I32 (o + (0 + 1)) x4.toNatClampNeg), .int (I32 (o + (1 + 1)) x4.toNatClampNeg), .int y36] G I32 (some (.int r46), G, I44) ∧ (z_inr (x3 + 1) 31 ∧ (∀ I48 : zI, I48 = z_up I44 (32 + x4.toNatClampNeg) (x3 + 1).toNatClampNeg (f_T_bounded ((I32 (32 + x4.toNatClampNeg) x3.toNatClampNeg) + r46) 0 999) → res = (none, G, I48))))))))))) ∧ (¬ x5 = 0 → res = (none, G, I24))) ∧ (¬ (-y5) < (f_T_scaldsFrom (I24 (o + (0 + 1)) x4.toNatClampNeg) (I24 (o + (1 + 1)) x4.toNatClampNeg)) → z_inr x4 4 ∧ (z_inr x4 4 ∧ (∀ I51 : zI, I51 = z_up I24 38 x4.toNatClampNeg ((I24 38 x4.toNatClampNeg) + 1) → (x5 = 0 → ∃ (r55 : Int32) (I53 : zI), Cv X d 50 [.ref w, .int 0] G I51 (some (.int r55), G, I53) ∧ (z_inr x4 4 ∧ (∀ y57 : Int32, y57 = ((r55 * (I53 (o + (5 + 1)) x4.toNatClampNeg)) / 8) → z_inr x4 4 ∧ (z_inr x4 4 ∧ (z_inr x3 31 ∧ (z_inr x4 4 ∧ (z_inr x4 4 ∧ (∃ (r67 : Int32) (I65 : zI), Cv X d 68 [.int (I53 (o + (0 + 1)) x4.toNatClampNeg), .int (I53 (o + (1 + 1)) x4.toNatClampNeg), .int y57] G I53 (some (.int r67), G, I65) ∧ (z_inr (x3 + 1) 31 ∧ (∀ I69 : zI, I69 = z_up I65 (32 + x4.toNatClampNeg) (x3 + 1).toNatClampNeg (f_T_bounded ((I53 (32 + x4.toNatClampNeg) x3.toNatClampNeg) + r67) 0 999) → res = (none, G, I69))))))))))) ∧ (¬ x5 = 0 → res = (none, G, I51)))))))) ∧ (r26 = 1 → z_inr x4 4 ∧ (z_inr x4 4 ∧ (∀ I72 : zI, I72 = z_up I24 37 x4.toNatClampNeg ((I24 37 x4.toNatClampNeg) ||| (1 <<< (x3 &&& 31))) → z_inr x4 4 ∧ (z_inr x4 4 ∧ (((-y5) < (f_T_scaldsFrom (I72 (o + (0 + 1)) x4.toNatClampNeg) (I72 (o + (1 + 1)) x4.toNatClampNeg)) → (x5 = 0 → ∃ (r79 : Int32) (I77 : zI), Cv X d 50 [.ref w, .int 0] G I72 (some (.int r79), G, I77) ∧ (z_inr x4 4 ∧ (∀ y81 : Int32, y81 = ((r79 * (I77 (o + (5 + 1)) x4.toNatClampNeg)) / 8) → z_inr x4 4 ∧ (z_inr x4 4 ∧ (z_inr x3 31 ∧ (z_inr x4 4 ∧ (z_inr x4 4 ∧ (∃ (r91 : Int32) (I89 : zI), Cv X d 68 [.int (I77 (o + (0 + 1)) x4.toNatClampNeg), .int (I77 (o + (1 + 1)) x4.toNatClampNeg), .int y81] G I77 (some (.int r91), G, I89) ∧ (z_inr (x3 + 1) 31 ∧ (∀ I93 : zI, I93 = z_up I89 (32 + x4.toNatClampNeg) (x3 + 1).toNatClampNeg (f_T_bounded ((I77 (32 + x4.toNatClampNeg) x3.toNatClampNeg) + r91) 0 999) → res = (none, G, I93))))))))))) ∧ (¬ x5 = 0 → res = (none, G, I72))) ∧ (¬ (-y5) < (f_T_scaldsFrom (I72 (o + (0 + 1)) x4.toNatClampNeg) (I72 (o + (1 + 1)) x4.toNatClampNeg)) → z_inr x4 4 ∧ (z_inr x4 4 ∧ (∀ I96 : zI, I96 = z_up I72 38 x4.toNatClampNeg ((I72 38 x4.toNatClampNeg) + 1) → (x5 = 0 → ∃ (r100 : Int32) (I98 : zI), Cv X d 50 [.ref w, .int 0] G I96 (some (.int r100), G, I98) ∧ (z_inr x4 4 ∧ (∀ y102 : Int32, y102 = ((r100 * (I98 (o + (5 + 1)) x4.toNatClampNeg)) / 8) → z_inr x4 4 ∧ (z_inr x4 4 ∧ (z_inr x3 31 ∧ (z_inr x4 4 ∧ (z_inr x4 4 ∧ (∃ (r112 : Int32) (I110 : zI), Cv X d 68 [.int (I98 (o + (0 + 1)) x4.toNatClampNeg), .int (I98 (o + (1 + 1)) x4.toNatClampNeg), .int y102] G I98 (some (.int r112), G, I110) ∧ (z_inr (x3 + 1) 31 ∧ (∀ I114 : zI, I114 = z_up I110 (32 + x4.toNatClampNeg) (x3 + 1).toNatClampNeg (f_T_bounded ((I98 (32 + x4.toNatClampNeg) x3.toNatClampNeg) + r112) 0 999) → res = (none, G, I114))))))))))) ∧ (¬ x5 = 0 → res = (none, G, I96)))))))))))))))))))))))))) :
    Ev X (d + 1) 67 0 [.ref 25, .ref o, .ref w, .int x3, .int x4, .int x5, zU, zU, zU] [] G I res := by
  refine Ev_aload_n hq_67 (show decode prog_4_method_5_code 0 = .ok (.aload_n 1, 1) by decide +kernel) rfl ?_
  refine Ev_getR hq_67 (show decode prog_4_method_5_code 1 = .ok (.getfield 75, 3) by decide +kernel) rfl (VB.lt ho (by omega)) ho.2.1 (by decide) rfl (ho.2.2 3 (by decide)).1 ?_
  refine Ev_iload hq_67 (show decode prog_4_method_5_code 4 = .ok (.iload 4, 2) by decide +kernel) rfl ?_
  obtain ⟨h1, k⟩ := k
  refine Ev_iald hq_67 (show decode prog_4_method_5_code 6 = .ok (.iaload, 1) by decide +kernel) (VB.lt ho (by omega)) (ho.2.2 3 (by decide)).2.1 (VB.inr ho (j := 3) (n := 4) (by decide) rfl h1) ?_
  refine Ev_aload_n hq_67 (show decode prog_4_method_5_code 7 = .ok (.aload_n 0, 1) by decide +kernel) rfl ?_
  refine Ev_getR hq_67 (show decode prog_4_method_5_code 8 = .ok (.getfield 11, 3) by decide +kernel) rfl (SGn hS (by decide)) (SGk hS rfl) (by decide) rfl (SGr hS rfl) ?_
  refine Ev_iload hq_67 (show decode prog_4_method_5_code 11 = .ok (.iload 4, 2) by decide +kernel) rfl ?_
  obtain ⟨h2, k⟩ := k
  have r3 := SGrow hS (a := 26) (b := 27) (n := 30) (Or.inl ⟨rfl, rfl, rfl⟩) h2.2
  refine Ev_aald hq_67 (show decode prog_4_method_5_code 13 = .ok (.aaload, 1) by decide +kernel) (SGn hS (by decide)) (Or.inr (SGk hS rfl)) (SGi hS rfl h2) r3.1 ?_
  refine Ev_iload_n hq_67 (show decode prog_4_method_5_code 14 = .ok (.iload_n 3, 1) by decide +kernel) rfl ?_
  obtain ⟨h4, k⟩ := k
  refine Ev_iald hq_67 (show decode prog_4_method_5_code 15 = .ok (.iaload, 1) by decide +kernel) r3.2.1 r3.2.2.1 (by rw [r3.2.2.2]; exact h4) ?_
  refine Ev_isub hq_67 (show decode prog_4_method_5_code 16 = .ok (.isub, 1) by decide +kernel) ?_
  obtain ⟨y5, ey5⟩ : ∃ y5 : Int32, y5 = ((I (o + (3 + 1)) x4.toNatClampNeg) - (I (27 + x4.toNatClampNeg) x3.toNatClampNeg)) := ⟨_, rfl⟩
  have k := k y5 ey5
  rw [← ey5]
  refine Ev_istore (lo2 := [.ref 25, .ref o, .ref w, .int x3, .int x4, .int x5, .int y5, zU, zU]) hq_67 (show decode prog_4_method_5_code 17 = .ok (.istore 6, 2) by decide +kernel) (z_le rfl) rfl ?_
  refine Ev_aload_n hq_67 (show decode prog_4_method_5_code 19 = .ok (.aload_n 1, 1) by decide +kernel) rfl ?_
  refine Ev_getR hq_67 (show decode prog_4_method_5_code 20 = .ok (.getfield 75, 3) by decide +kernel) rfl (VB.lt ho (by omega)) ho.2.1 (by decide) rfl (ho.2.2 3 (by decide)).1 ?_
  refine Ev_iload hq_67 (show decode prog_4_method_5_code 23 = .ok (.iload 4, 2) by decide +kernel) rfl ?_
  obtain ⟨h6, k⟩ := k
  refine Ev_iald hq_67 (show decode prog_4_method_5_code 25 = .ok (.iaload, 1) by decide +kernel) (VB.lt ho (by omega)) (ho.2.2 3 (by decide)).2.1 (VB.inr ho (j := 3) (n := 4) (by decide) rfl h6) ?_
  refine Ev_aload_n hq_67 (show decode prog_4_method_5_code 26 = .ok (.aload_n 0, 1) by decide +kernel) rfl ?_
  refine Ev_getR hq_67 (show decode prog_4_method_5_code 27 = .ok (.getfield 11, 3) by decide +kernel) rfl (SGn hS (by decide)) (SGk hS rfl) (by decide) rfl (SGr hS rfl) ?_
  refine Ev_iload hq_67 (show decode prog_4_method_5_code 30 = .ok (.iload 4, 2) by decide +kernel) rfl ?_
  obtain ⟨h7, k⟩ := k
  have r8 := SGrow hS (a := 26) (b := 27) (n := 30) (Or.inl ⟨rfl, rfl, rfl⟩) h7.2
  refine Ev_aald hq_67 (show decode prog_4_method_5_code 32 = .ok (.aaload, 1) by decide +kernel) (SGn hS (by decide)) (Or.inr (SGk hS rfl)) (SGi hS rfl h7) r8.1 ?_
  refine Ev_iconst (v := 0) hq_67 (show decode prog_4_method_5_code 33 = .ok (.iconst 0, 1) by decide +kernel) (by decide) ?_
  refine Ev_iload_n hq_67 (show decode prog_4_method_5_code 34 = .ok (.iload_n 3, 1) by decide +kernel) rfl ?_
  refine Ev_iconst (v := 1) hq_67 (show decode prog_4_method_5_code 35 = .ok (.iconst 1, 1) by decide +kernel) (by decide) ?_
  refine Ev_isub hq_67 (show decode prog_4_method_5_code 36 = .ok (.isub, 1) by decide +kernel) ?_
  refine Ev_max hq_67 (show decode prog_4_method_5_code 37 = .ok (.invokestatic 58, 3) by decide +kernel) rfl (z_le rfl) ?_
  obtain ⟨h9, k⟩ := k
  refine Ev_iald hq_67 (show decode prog_4_method_5_code 40 = .ok (.iaload, 1) by decide +kernel) r8.2.1 r8.2.2.1 (by rw [r8.2.2.2]; exact h9) ?_
  refine Ev_isub hq_67 (show decode prog_4_method_5_code 41 = .ok (.isub, 1) by decide +kernel) ?_
  obtain ⟨y10, ey10⟩ : ∃ y10 : Int32, y10 = ((I (o + (3 + 1)) x4.toNatClampNeg) - (I (27 + x4.toNatClampNeg) (if 0 < (x3 - 1) then (x3 - 1) else 0).toNatClampNeg)) := ⟨_, rfl⟩
  have k := k y10 ey10
  rw [← ey10]
  refine Ev_istore (lo2 := [.ref 25, .ref o, .ref w, .int x3, .int x4, .int x5, .int y5, .int y10, zU]) hq_67 (show decode prog_4_method_5_code 42 = .ok (.istore 7, 2) by decide +kernel) (z_le rfl) rfl ?_
  refine Ev_aload_n hq_67 (show decode prog_4_method_5_code 44 = .ok (.aload_n 2, 1) by decide +kernel) rfl ?_
  refine Ev_iload hq_67 (show decode prog_4_method_5_code 45 = .ok (.iload 6, 2) by decide +kernel) rfl ?_
  refine Ev_iload hq_67 (show decode prog_4_method_5_code 47 = .ok (.iload 7, 2) by decide +kernel) rfl ?_
  refine Ev_aload_n hq_67 (show decode prog_4_method_5_code 49 = .ok (.aload_n 0, 1) by decide +kernel) rfl ?_
  refine Ev_getR hq_67 (show decode prog_4_method_5_code 50 = .ok (.getfield 16, 3) by decide +kernel) rfl (SGn hS (by decide)) (SGk hS rfl) (by decide) rfl (SGr hS rfl) ?_
  refine Ev_iload hq_67 (show decode prog_4_method_5_code 53 = .ok (.iload 4, 2) by decide +kernel) rfl ?_
  obtain ⟨h11, k⟩ := k
  have r12 := SGrow hS (a := 31) (b := 32) (n := 31) (Or.inr (Or.inl ⟨rfl, rfl, rfl⟩)) h11.2
  refine Ev_aald hq_67 (show decode prog_4_method_5_code 55 = .ok (.aaload, 1) by decide +kernel) (SGn hS (by decide)) (Or.inr (SGk hS rfl)) (SGi hS rfl h11) r12.1 ?_
  refine Ev_iload_n hq_67 (show decode prog_4_method_5_code 56 = .ok (.iload_n 3, 1) by decide +kernel) rfl ?_
  obtain ⟨h13, k⟩ := k
  refine Ev_iald hq_67 (show decode prog_4_method_5_code 57 = .ok (.iaload, 1) by decide +kernel) r12.2.1 r12.2.2.1 (by rw [r12.2.2.2]; exact h13) ?_
  refine Ev_iload_n hq_67 (show decode prog_4_method_5_code 58 = .ok (.iload_n 3, 1) by decide +kernel) rfl ?_
  refine Ev_aload_n hq_67 (show decode prog_4_method_5_code 59 = .ok (.aload_n 1, 1) by decide +kernel) rfl ?_
  refine Ev_getR hq_67 (show decode prog_4_method_5_code 60 = .ok (.getfield 55, 3) by decide +kernel) rfl (VB.lt ho (by omega)) ho.2.1 (by decide) rfl (ho.2.2 2 (by decide)).1 ?_
  refine Ev_iload hq_67 (show decode prog_4_method_5_code 63 = .ok (.iload 4, 2) by decide +kernel) rfl ?_
  obtain ⟨h14, k⟩ := k
  refine Ev_iald hq_67 (show decode prog_4_method_5_code 65 = .ok (.iaload, 1) by decide +kernel) (VB.lt ho (by omega)) (ho.2.2 2 (by decide)).2.1 (VB.inr ho (j := 2) (n := 4) (by decide) rfl h14) ?_
  refine Ev_aload_n hq_67 (show decode prog_4_method_5_code 66 = .ok (.aload_n 1, 1) by decide +kernel) rfl ?_
  refine Ev_getR hq_67 (show decode prog_4_method_5_code 67 = .ok (.getfield 64, 3) by decide +kernel) rfl (VB.lt ho (by omega)) ho.2.1 (by decide) rfl (ho.2.2 1 (by decide)).1 ?_
  refine Ev_iload hq_67 (show decode prog_4_method_5_code 70 = .ok (.iload 4, 2) by decide +kernel) rfl ?_
  obtain ⟨h15, k⟩ := k
  refine Ev_iald hq_67 (show decode prog_4_method_5_code 72 = .ok (.iaload, 1) by decide +kernel) (VB.lt ho (by omega)) (ho.2.2 1 (by decide)).2.1 (VB.inr ho (j := 1) (n := 4) (by decide) rfl h15) ?_
  obtain ⟨I16, h17, k⟩ := k
  refine Ev_virt (as := [.int y5, .int y10, .int (I (32 + x4.toNatClampNeg) x3.toNatClampNeg), .int x3, .int (I (o + (2 + 1)) x4.toNatClampNeg), .int (I (o + (1 + 1)) x4.toNatClampNeg)]) hq_67 (show decode prog_4_method_5_code 73 = .ok (.invokevirtual 78, 3) by decide +kernel) rfl hq_49 rfl (z_le rfl) ⟨(VB.lt hw (by omega)), hw.2.1, by decide⟩ h17 ?_
  refine Ev_aload_n hq_67 (show decode prog_4_method_5_code 76 = .ok (.aload_n 0, 1) by decide +kernel) rfl ?_
  refine Ev_getR hq_67 (show decode prog_4_method_5_code 77 = .ok (.getfield 19, 3) by decide +kernel) rfl (SGn hS (by decide)) (SGk hS rfl) (by decide) rfl (SGr hS rfl) ?_
  refine Ev_iload hq_67 (show decode prog_4_method_5_code 80 = .ok (.iload 4, 2) by decide +kernel) rfl ?_
  refine Ev_dup2 hq_67 (show decode prog_4_method_5_code 82 = .ok (.dup2, 1) by decide +kernel) ⟨rfl, rfl⟩ ?_
  obtain ⟨h18, k⟩ := k
  refine Ev_iald hq_67 (show decode prog_4_method_5_code 83 = .ok (.iaload, 1) by decide +kernel) (SGn hS (by decide)) (SGk hS rfl) (SGi hS rfl h18) ?_
  refine Ev_aload_n hq_67 (show decode prog_4_method_5_code 84 = .ok (.aload_n 2, 1) by decide +kernel) rfl ?_
  refine Ev_iconst (v := 1) hq_67 (show decode prog_4_method_5_code 85 = .ok (.iconst 1, 1) by decide +kernel) (by decide) ?_
  obtain ⟨r21, I19, h20, k⟩ := k
  refine Ev_virt (as := [.int 1]) hq_67 (show decode prog_4_method_5_code 86 = .ok (.invokevirtual 84, 3) by decide +kernel) rfl hq_50 rfl (z_le rfl) ⟨(VB.lt hw (by omega)), hw.2.1, by decide⟩ h20 ?_
  refine Ev_iadd hq_67 (show decode prog_4_method_5_code 89 = .ok (.iadd, 1) by decide +kernel) ?_
  obtain ⟨h22, k⟩ := k
  refine Ev_iast hq_67 (show decode prog_4_method_5_code 90 = .ok (.iastore, 1) by decide +kernel) (SGn hS (by decide)) (SGk hS rfl) (SGi hS rfl h22) ?_
  obtain ⟨I23, eI23⟩ : ∃ I23 : zI, I23 = z_up I19 36 x4.toNatClampNeg ((I16 36 x4.toNatClampNeg) + r21) := ⟨_, rfl⟩
  have k := k I23 eI23
  rw [← eI23]
  refine Ev_aload_n hq_67 (show decode prog_4_method_5_code 91 = .ok (.aload_n 2, 1) by decide +kernel) rfl ?_
  refine Ev_iconst (v := 2) hq_67 (show decode prog_4_method_5_code 92 = .ok (.iconst 2, 1) by decide +kernel) (by decide) ?_
  obtain ⟨r26, I24, h25, k⟩ := k
  refine Ev_virt (as := [.int 2]) hq_67 (show decode prog_4_method_5_code 93 = .ok (.invokevirtual 84, 3) by decide +kernel) rfl hq_50 rfl (z_le rfl) ⟨(VB.lt hw (by omega)), hw.2.1, by decide⟩ h25 ?_
  refine Ev_iconst (v := 1) hq_67 (show decode prog_4_method_5_code 96 = .ok (.iconst 1, 1) by decide +kernel) (by decide) ?_
  refine Ev_icmp_ne (tgt := 113) hq_67 (show decode prog_4_method_5_code 97 = .ok (.if_icmp .ne 16, 3) by decide +kernel) (by decide) (fun c27 => ?_) (fun c27 => ?_)
  · have k := k.1 c27
    refine Ev_iload hq_67 (show decode prog_4_method_5_code 113 = .ok (.iload 6, 2) by decide +kernel) rfl ?_
    refine Ev_ineg hq_67 (show decode prog_4_method_5_code 115 = .ok (.ineg, 1) by decide +kernel) ?_
    refine Ev_aload_n hq_67 (show decode prog_4_method_5_code 116 = .ok (.aload_n 1, 1) by decide +kernel) rfl ?_
    refine Ev_getR hq_67 (show decode prog_4_method_5_code 117 = .ok (.getfield 61, 3) by decide +kernel) rfl (VB.lt ho (by omega)) ho.2.1 (by decide) rfl (ho.2.2 0 (by decide)).1 ?_
    refine Ev_iload hq_67 (show decode prog_4_method_5_code 120 = .ok (.iload 4, 2) by decide +kernel) rfl ?_
    obtain ⟨h28, k⟩ := k
    refine Ev_iald hq_67 (show decode prog_4_method_5_code 122 = .ok (.iaload, 1) by decide +kernel) (VB.lt ho (by omega)) (ho.2.2 0 (by decide)).2.1 (VB.inr ho (j := 0) (n := 4) (by decide) rfl h28) ?_
    refine Ev_aload_n hq_67 (show decode prog_4_method_5_code 123 = .ok (.aload_n 1, 1) by decide +kernel) rfl ?_
    refine Ev_getR hq_67 (show decode prog_4_method_5_code 124 = .ok (.getfield 64, 3) by decide +kernel) rfl (VB.lt ho (by omega)) ho.2.1 (by decide) rfl (ho.2.2 1 (by decide)).1 ?_
    refine Ev_iload hq_67 (show decode prog_4_method_5_code 127 = .ok (.iload 4, 2) by decide +kernel) rfl ?_
    obtain ⟨h29, k⟩ := k
    refine Ev_iald hq_67 (show decode prog_4_method_5_code 129 = .ok (.iaload, 1) by decide +kernel) (VB.lt ho (by omega)) (ho.2.2 1 (by decide)).2.1 (VB.inr ho (j := 1) (n := 4) (by decide) rfl h29) ?_
    refine Ev_stat (as := [.int (I24 (o + (0 + 1)) x4.toNatClampNeg), .int (I24 (o + (1 + 1)) x4.toNatClampNeg)]) hq_67 (show decode prog_4_method_5_code 130 = .ok (.invokestatic 88, 3) by decide +kernel) rfl (Or.inr rfl) hq_60 rfl (z_le rfl) (c_T_scaldsFrom (I24 (o + (0 + 1)) x4.toNatClampNeg) (I24 (o + (1 + 1)) x4.toNatClampNeg)) ?_
    refine Ev_icmp_lt (tgt := 147) hq_67 (show decode prog_4_method_5_code 133 = .ok (.if_icmp .lt 14, 3) by decide +kernel) (by decide) (fun c30 => ?_) (fun c30 => ?_)
    · have k := k.1 c30
      refine Ev_iload hq_67 (show decode prog_4_method_5_code 147 = .ok (.iload 5, 2) by decide +kernel) rfl ?_
      refine Ev_if_eq (tgt := 153) hq_67 (show decode prog_4_method_5_code 149 = .ok (.ifCond .eq 4, 3) by decide +kernel) (by decide) (fun c31 => ?_) (fun c31 => ?_)
      · have k := k.1 c31
        refine Ev_aload_n hq_67 (show decode prog_4_method_5_code 153 = .ok (.aload_n 2, 1) by decide +kernel) rfl ?_
        refine Ev_iconst (v := 0) hq_67 (show decode prog_4_method_5_code 154 = .ok (.iconst 0, 1) by decide +kernel) (by decide) ?_
        obtain ⟨r34, I32, h33, k⟩ := k
        refine Ev_virt (as := [.int 0]) hq_67 (show decode prog_4_method_5_code 155 = .ok (.invokevirtual 84, 3) by decide +kernel) rfl hq_50 rfl (z_le rfl) ⟨(VB.lt hw (by omega)), hw.2.1, by decide⟩ h33 ?_
        refine Ev_aload_n hq_67 (show decode prog_4_method_5_code 158 = .ok (.aload_n 1, 1) by decide +kernel) rfl ?_
        refine Ev_getR hq_67 (show decode prog_4_method_5_code 159 = .ok (.getfield 91, 3) by decide +kernel) rfl (VB.lt ho (by omega)) ho.2.1 (by decide) rfl (ho.2.2 5 (by decide)).1 ?_
        refine Ev_iload hq_67 (show decode prog_4_method_5_code 162 = .ok (.iload 4, 2) by decide +kernel) rfl ?_
        obtain ⟨h35, k⟩ := k
        refine Ev_iald hq_67 (show decode prog_4_method_5_code 164 = .ok (.iaload, 1) by decide +kernel) (VB.lt ho (by omega)) (ho.2.2 5 (by decide)).2.1 (VB.inr ho (j := 5) (n := 4) (by decide) rfl h35) ?_
        refine Ev_imul hq_67 (show decode prog_4_method_5_code 165 = .ok (.imul, 1) by decide +kernel) ?_
        refine Ev_bipush (v := 8) hq_67 (show decode prog_4_method_5_code 166 = .ok (.bipush 8, 2) by decide +kernel) (by decide) ?_
        refine Ev_idiv hq_67 (show decode prog_4_method_5_code 168 = .ok (.idiv, 1) by decide +kernel) (by decide) ?_
        obtain ⟨y36, ey36⟩ : ∃ y36 : Int32, y36 = ((r34 * (I32 (o + (5 + 1)) x4.toNatClampNeg)) / 8) := ⟨_, rfl⟩
        have k := k y36 ey36
        rw [← ey36]
        refine Ev_istore (lo2 := [.ref 25, .ref o, .ref w, .int x3, .int x4, .int x5, .int y5, .int y10, .int y36]) hq_67 (show decode prog_4_method_5_code 169 = .ok (.istore 8, 2) by decide +kernel) (z_le rfl) rfl ?_
        refine Ev_aload_n hq_67 (show decode prog_4_method_5_code 171 = .ok (.aload_n 0, 1) by decide +kernel) rfl ?_
        refine Ev_getR hq_67 (show decode prog_4_method_5_code 172 = .ok (.getfield 16, 3) by decide +kernel) rfl (SGn hS (by decide)) (SGk hS rfl) (by decide) rfl (SGr hS rfl) ?_
        refine Ev_iload hq_67 (show decode prog_4_method_5_code 175 = .ok (.iload 4, 2) by decide +kernel) rfl ?_
        obtain ⟨h37, k⟩ := k
        have r38 := SGrow hS (a := 31) (b := 32) (n := 31) (Or.inr (Or.inl ⟨rfl, rfl, rfl⟩)) h37.2
        refine Ev_aald hq_67 (show decode prog_4_method_5_code 177 = .ok (.aaload, 1) by decide +kernel) (SGn hS (by decide)) (Or.inr (SGk hS rfl)) (SGi hS rfl h37) r38.1 ?_
        refine Ev_iload_n hq_67 (show decode prog_4_method_5_code 178 = .ok (.iload_n 3, 1) by decide +kernel) rfl ?_
        refine Ev_iconst (v := 1) hq_67 (show decode prog_4_method_5_code 179 = .ok (.iconst 1, 1) by decide +kernel) (by decide) ?_
        refine Ev_iadd hq_67 (show decode prog_4_method_5_code 180 = .ok (.iadd, 1) by decide +kernel) ?_
        refine Ev_aload_n hq_67 (show decode prog_4_method_5_code 181 = .ok (.aload_n 0, 1) by decide +kernel) rfl ?_
        refine Ev_getR hq_67 (show decode prog_4_method_5_code 182 = .ok (.getfield 16, 3) by decide +kernel) rfl (SGn hS (by decide)) (SGk hS rfl) (by decide) rfl (SGr hS rfl) ?_
        refine Ev_iload hq_67 (show decode prog_4_method_5_code 185 = .ok (.iload 4, 2) by decide +kernel) rfl ?_
        obtain ⟨h39, k⟩ := k
        have r40 := SGrow hS (a := 31) (b := 32) (n := 31) (Or.inr (Or.inl ⟨rfl, rfl, rfl⟩)) h39.2
        refine Ev_aald hq_67 (show decode prog_4_method_5_code 187 = .ok (.aaload, 1) by decide +kernel) (SGn hS (by decide)) (Or.inr (SGk hS rfl)) (SGi hS rfl h39) r40.1 ?_
        refine Ev_iload_n hq_67 (show decode prog_4_method_5_code 188 = .ok (.iload_n 3, 1) by decide +kernel) rfl ?_
        obtain ⟨h41, k⟩ := k
        refine Ev_iald hq_67 (show decode prog_4_method_5_code 189 = .ok (.iaload, 1) by decide +kernel) r40.2.1 r40.2.2.1 (by rw [r40.2.2.2]; exact h41) ?_
        refine Ev_aload_n hq_67 (show decode prog_4_method_5_code 190 = .ok (.aload_n 1, 1) by decide +kernel) rfl ?_
        refine Ev_getR hq_67 (show decode prog_4_method_5_code 191 = .ok (.getfield 61, 3) by decide +kernel) rfl (VB.lt ho (by omega)) ho.2.1 (by decide) rfl (ho.2.2 0 (by decide)).1 ?_
        refine Ev_iload hq_67 (show decode prog_4_method_5_code 194 = .ok (.iload 4, 2) by decide +kernel) rfl ?_
        obtain ⟨h42, k⟩ := k
        refine Ev_iald hq_67 (show decode prog_4_method_5_code 196 = .ok (.iaload, 1) by decide +kernel) (VB.lt ho (by omega)) (ho.2.2 0 (by decide)).2.1 (VB.inr ho (j := 0) (n := 4) (by decide) rfl h42) ?_
        refine Ev_aload_n hq_67 (show decode prog_4_method_5_code 197 = .ok (.aload_n 1, 1) by decide +kernel) rfl ?_
        refine Ev_getR hq_67 (show decode prog_4_method_5_code 198 = .ok (.getfield 64, 3) by decide +kernel) rfl (VB.lt ho (by omega)) ho.2.1 (by decide) rfl (ho.2.2 1 (by decide)).1 ?_
        refine Ev_iload hq_67 (show decode prog_4_method_5_code 201 = .ok (.iload 4, 2) by decide +kernel) rfl ?_
        obtain ⟨h43, k⟩ := k
        refine Ev_iald hq_67 (show decode prog_4_method_5_code 203 = .ok (.iaload, 1) by decide +kernel) (VB.lt ho (by omega)) (ho.2.2 1 (by decide)).2.1 (VB.inr ho (j := 1) (n := 4) (by decide) rfl h43) ?_
        refine Ev_iload hq_67 (show decode prog_4_method_5_code 204 = .ok (.iload 8, 2) by decide +kernel) rfl ?_
        obtain ⟨r46, I44, h45, k⟩ := k
        refine Ev_stat (as := [.int (I32 (o + (0 + 1)) x4.toNatClampNeg), .int (I32 (o + (1 + 1)) x4.toNatClampNeg), .int y36]) hq_67 (show decode prog_4_method_5_code 206 = .ok (.invokestatic 94, 3) by decide +kernel) rfl (Or.inr rfl) hq_68 rfl (z_le rfl) h45 ?_
        refine Ev_iadd hq_67 (show decode prog_4_method_5_code 209 = .ok (.iadd, 1) by decide +kernel) ?_
        refine Ev_iconst (v := 0) hq_67 (show decode prog_4_method_5_code 210 = .ok (.iconst 0, 1) by decide +kernel) (by decide) ?_
        refine Ev_sipush (v := 999) hq_67 (show decode prog_4_method_5_code 211 = .ok (.sipush 999, 3) by decide +kernel) (by decide) ?_
        refine Ev_stat (as := [.int ((I32 (32 + x4.toNatClampNeg) x3.toNatClampNeg) + r46), .int 0, .int 999]) hq_67 (show decode prog_4_method_5_code 214 = .ok (.invokestatic 98, 3) by decide +kernel) rfl (Or.inr rfl) hq_13 rfl (z_le rfl) (c_T_bounded ((I32 (32 + x4.toNatClampNeg) x3.toNatClampNeg) + r46) 0 999) ?_
        obtain ⟨h47, k⟩ := k
        refine Ev_iast hq_67 (show decode prog_4_method_5_code 217 = .ok (.iastore, 1) by decide +kernel) r38.2.1 r38.2.2.1 (by rw [r38.2.2.2]; exact h47) ?_
        obtain ⟨I48, eI48⟩ : ∃ I48 : zI, I48 = z_up I44 (32 + x4.toNatClampNeg) (x3 + 1).toNatClampNeg (f_T_bounded ((I32 (32 + x4.toNatClampNeg) x3.toNatClampNeg) + r46) 0 999) := ⟨_, rfl⟩
        have k := k I48 eI48
        rw [← eI48]
        exact Ev_vret hq_67 (show decode prog_4_method_5_code 218 = .ok (.return_, 1) by decide +kernel) k
      · have k := k.2 c31
        exact Ev_vret hq_67 (show decode prog_4_method_5_code 152 = .ok (.return_, 1) by decide +kernel) k
    · have k := k.2 c30
      refine Ev_aload_n hq_67 (show decode prog_4_method_5_code 136 = .ok (.aload_n 0, 1) by decide +kernel) rfl ?_
      refine Ev_getR hq_67 (show decode prog_4_method_5_code 137 = .ok (.getfield 26, 3) by decide +kernel) rfl (SGn hS (by decide)) (SGk hS rfl) (by decide) rfl (SGr hS rfl) ?_
      refine Ev_iload hq_67 (show decode prog_4_method_5_code 140 = .ok (.iload 4, 2) by decide +kernel) rfl ?_
      refine Ev_dup2 hq_67 (show decode prog_4_method_5_code 142 = .ok (.dup2, 1) by decide +kernel) ⟨rfl, rfl⟩ ?_
      obtain ⟨h49, k⟩ := k
      refine Ev_iald hq_67 (show decode prog_4_method_5_code 143 = .ok (.iaload, 1) by decide +kernel) (SGn hS (by decide)) (SGk hS rfl) (SGi hS rfl h49) ?_
      refine Ev_iconst (v := 1) hq_67 (show decode prog_4_method_5_code 144 = .ok (.iconst 1, 1) by decide +kernel) (by decide) ?_
      refine Ev_iadd hq_67 (show decode prog_4_method_5_code 145 = .ok (.iadd, 1) by decide +kernel) ?_
      obtain ⟨h50, k⟩ := k
      refine Ev_iast hq_67 (show decode prog_4_method_5_code 146 = .ok (.iastore, 1) by decide +kernel) (SGn hS (by decide)) (SGk hS rfl) (SGi hS rfl h50) ?_
      obtain ⟨I51, eI51⟩ : ∃ I51 : zI, I51 = z_up I24 38 x4.toNatClampNeg ((I24 38 x4.toNatClampNeg) + 1) := ⟨_, rfl⟩
      have k := k I51 eI51
      rw [← eI51]
      refine Ev_iload hq_67 (show decode prog_4_method_5_code 147 = .ok (.iload 5, 2) by decide +kernel) rfl ?_
      refine Ev_if_eq (tgt := 153) hq_67 (show decode prog_4_method_5_code 149 = .ok (.ifCond .eq 4, 3) by decide +kernel) (by decide) (fun c52 => ?_) (fun c52 => ?_)
      · have k := k.1 c52
        refine Ev_aload_n hq_67 (show decode prog_4_method_5_code 153 = .ok (.aload_n 2, 1) by decide +kernel) rfl ?_
        refine Ev_iconst (v := 0) hq_67 (show decode prog_4_method_5_code 154 = .ok (.iconst 0, 1) by decide +kernel) (by decide) ?_
        obtain ⟨r55, I53, h54, k⟩ := k
        refine Ev_virt (as := [.int 0]) hq_67 (show decode prog_4_method_5_code 155 = .ok (.invokevirtual 84, 3) by decide +kernel) rfl hq_50 rfl (z_le rfl) ⟨(VB.lt hw (by omega)), hw.2.1, by decide⟩ h54 ?_
        refine Ev_aload_n hq_67 (show decode prog_4_method_5_code 158 = .ok (.aload_n 1, 1) by decide +kernel) rfl ?_
        refine Ev_getR hq_67 (show decode prog_4_method_5_code 159 = .ok (.getfield 91, 3) by decide +kernel) rfl (VB.lt ho (by omega)) ho.2.1 (by decide) rfl (ho.2.2 5 (by decide)).1 ?_
        refine Ev_iload hq_67 (show decode prog_4_method_5_code 162 = .ok (.iload 4, 2) by decide +kernel) rfl ?_
        obtain ⟨h56, k⟩ := k
        refine Ev_iald hq_67 (show decode prog_4_method_5_code 164 = .ok (.iaload, 1) by decide +kernel) (VB.lt ho (by omega)) (ho.2.2 5 (by decide)).2.1 (VB.inr ho (j := 5) (n := 4) (by decide) rfl h56) ?_
        refine Ev_imul hq_67 (show decode prog_4_method_5_code 165 = .ok (.imul, 1) by decide +kernel) ?_
        refine Ev_bipush (v := 8) hq_67 (show decode prog_4_method_5_code 166 = .ok (.bipush 8, 2) by decide +kernel) (by decide) ?_
        refine Ev_idiv hq_67 (show decode prog_4_method_5_code 168 = .ok (.idiv, 1) by decide +kernel) (by decide) ?_
        obtain ⟨y57, ey57⟩ : ∃ y57 : Int32, y57 = ((r55 * (I53 (o + (5 + 1)) x4.toNatClampNeg)) / 8) := ⟨_, rfl⟩
        have k := k y57 ey57
        rw [← ey57]
        refine Ev_istore (lo2 := [.ref 25, .ref o, .ref w, .int x3, .int x4, .int x5, .int y5, .int y10, .int y57]) hq_67 (show decode prog_4_method_5_code 169 = .ok (.istore 8, 2) by decide +kernel) (z_le rfl) rfl ?_
        refine Ev_aload_n hq_67 (show decode prog_4_method_5_code 171 = .ok (.aload_n 0, 1) by decide +kernel) rfl ?_
        refine Ev_getR hq_67 (show decode prog_4_method_5_code 172 = .ok (.getfield 16, 3) by decide +kernel) rfl (SGn hS (by decide)) (SGk hS rfl) (by decide) rfl (SGr hS rfl) ?_
        refine Ev_iload hq_67 (show decode prog_4_method_5_code 175 = .ok (.iload 4, 2) by decide +kernel) rfl ?_
        obtain ⟨h58, k⟩ := k
        have r59 := SGrow hS (a := 31) (b := 32) (n := 31) (Or.inr (Or.inl ⟨rfl, rfl, rfl⟩)) h58.2
        refine Ev_aald hq_67 (show decode prog_4_method_5_code 177 = .ok (.aaload, 1) by decide +kernel) (SGn hS (by decide)) (Or.inr (SGk hS rfl)) (SGi hS rfl h58) r59.1 ?_
        refine Ev_iload_n hq_67 (show decode prog_4_method_5_code 178 = .ok (.iload_n 3, 1) by decide +kernel) rfl ?_
        refine Ev_iconst (v := 1) hq_67 (show decode prog_4_method_5_code 179 = .ok (.iconst 1, 1) by decide +kernel) (by decide) ?_
        refine Ev_iadd hq_67 (show decode prog_4_method_5_code 180 = .ok (.iadd, 1) by decide +kernel) ?_
        refine Ev_aload_n hq_67 (show decode prog_4_method_5_code 181 = .ok (.aload_n 0, 1) by decide +kernel) rfl ?_
        refine Ev_getR hq_67 (show decode prog_4_method_5_code 182 = .ok (.getfield 16, 3) by decide +kernel) rfl (SGn hS (by decide)) (SGk hS rfl) (by decide) rfl (SGr hS rfl) ?_
        refine Ev_iload hq_67 (show decode prog_4_method_5_code 185 = .ok (.iload 4, 2) by decide +kernel) rfl ?_
        obtain ⟨h60, k⟩ := k
        have r61 := SGrow hS (a := 31) (b := 32) (n := 31) (Or.inr (Or.inl ⟨rfl, rfl, rfl⟩)) h60.2
        refine Ev_aald hq_67 (show decode prog_4_method_5_code 187 = .ok (.aaload, 1) by decide +kernel) (SGn hS (by decide)) (Or.inr (SGk hS rfl)) (SGi hS rfl h60) r61.1 ?_
        refine Ev_iload_n hq_67 (show decode prog_4_method_5_code 188 = .ok (.iload_n 3, 1) by decide +kernel) rfl ?_
        obtain ⟨h62, k⟩ := k
        refine Ev_iald hq_67 (show decode prog_4_method_5_code 189 = .ok (.iaload, 1) by decide +kernel) r61.2.1 r61.2.2.1 (by rw [r61.2.2.2]; exact h62) ?_
        refine Ev_aload_n hq_67 (show decode prog_4_method_5_code 190 = .ok (.aload_n 1, 1) by decide +kernel) rfl ?_
        refine Ev_getR hq_67 (show decode prog_4_method_5_code 191 = .ok (.getfield 61, 3) by decide +kernel) rfl (VB.lt ho (by omega)) ho.2.1 (by decide) rfl (ho.2.2 0 (by decide)).1 ?_
        refine Ev_iload hq_67 (show decode prog_4_method_5_code 194 = .ok (.iload 4, 2) by decide +kernel) rfl ?_
        obtain ⟨h63, k⟩ := k
        refine Ev_iald hq_67 (show decode prog_4_method_5_code 196 = .ok (.iaload, 1) by decide +kernel) (VB.lt ho (by omega)) (ho.2.2 0 (by decide)).2.1 (VB.inr ho (j := 0) (n := 4) (by decide) rfl h63) ?_
        refine Ev_aload_n hq_67 (show decode prog_4_method_5_code 197 = .ok (.aload_n 1, 1) by decide +kernel) rfl ?_
        refine Ev_getR hq_67 (show decode prog_4_method_5_code 198 = .ok (.getfield 64, 3) by decide +kernel) rfl (VB.lt ho (by omega)) ho.2.1 (by decide) rfl (ho.2.2 1 (by decide)).1 ?_
        refine Ev_iload hq_67 (show decode prog_4_method_5_code 201 = .ok (.iload 4, 2) by decide +kernel) rfl ?_
        obtain ⟨h64, k⟩ := k
        refine Ev_iald hq_67 (show decode prog_4_method_5_code 203 = .ok (.iaload, 1) by decide +kernel) (VB.lt ho (by omega)) (ho.2.2 1 (by decide)).2.1 (VB.inr ho (j := 1) (n := 4) (by decide) rfl h64) ?_
        refine Ev_iload hq_67 (show decode prog_4_method_5_code 204 = .ok (.iload 8, 2) by decide +kernel) rfl ?_
        obtain ⟨r67, I65, h66, k⟩ := k
        refine Ev_stat (as := [.int (I53 (o + (0 + 1)) x4.toNatClampNeg), .int (I53 (o + (1 + 1)) x4.toNatClampNeg), .int y57]) hq_67 (show decode prog_4_method_5_code 206 = .ok (.invokestatic 94, 3) by decide +kernel) rfl (Or.inr rfl) hq_68 rfl (z_le rfl) h66 ?_
        refine Ev_iadd hq_67 (show decode prog_4_method_5_code 209 = .ok (.iadd, 1) by decide +kernel) ?_
        refine Ev_iconst (v := 0) hq_67 (show decode prog_4_method_5_code 210 = .ok (.iconst 0, 1) by decide +kernel) (by decide) ?_
        refine Ev_sipush (v := 999) hq_67 (show decode prog_4_method_5_code 211 = .ok (.sipush 999, 3) by decide +kernel) (by decide) ?_
        refine Ev_stat (as := [.int ((I53 (32 + x4.toNatClampNeg) x3.toNatClampNeg) + r67), .int 0, .int 999]) hq_67 (show decode prog_4_method_5_code 214 = .ok (.invokestatic 98, 3) by decide +kernel) rfl (Or.inr rfl) hq_13 rfl (z_le rfl) (c_T_bounded ((I53 (32 + x4.toNatClampNeg) x3.toNatClampNeg) + r67) 0 999) ?_
        obtain ⟨h68, k⟩ := k
        refine Ev_iast hq_67 (show decode prog_4_method_5_code 217 = .ok (.iastore, 1) by decide +kernel) r59.2.1 r59.2.2.1 (by rw [r59.2.2.2]; exact h68) ?_
        obtain ⟨I69, eI69⟩ : ∃ I69 : zI, I69 = z_up I65 (32 + x4.toNatClampNeg) (x3 + 1).toNatClampNeg (f_T_bounded ((I53 (32 + x4.toNatClampNeg) x3.toNatClampNeg) + r67) 0 999) := ⟨_, rfl⟩
        have k := k I69 eI69
        rw [← eI69]
        exact Ev_vret hq_67 (show decode prog_4_method_5_code 218 = .ok (.return_, 1) by decide +kernel) k
      · have k := k.2 c52
        exact Ev_vret hq_67 (show decode prog_4_method_5_code 152 = .ok (.return_, 1) by decide +kernel) k
  · have k := k.2 (Classical.not_not.mp c27)
    refine Ev_aload_n hq_67 (show decode prog_4_method_5_code 100 = .ok (.aload_n 0, 1) by decide +kernel) rfl ?_
    refine Ev_getR hq_67 (show decode prog_4_method_5_code 101 = .ok (.getfield 23, 3) by decide +kernel) rfl (SGn hS (by decide)) (SGk hS rfl) (by decide) rfl (SGr hS rfl) ?_
    refine Ev_iload hq_67 (show decode prog_4_method_5_code 104 = .ok (.iload 4, 2) by decide +kernel) rfl ?_
    refine Ev_dup2 hq_67 (show decode prog_4_method_5_code 106 = .ok (.dup2, 1) by decide +kernel) ⟨rfl, rfl⟩ ?_
    obtain ⟨h70, k⟩ := k
    refine Ev_iald hq_67 (show decode prog_4_method_5_code 107 = .ok (.iaload, 1) by decide +kernel) (SGn hS (by decide)) (SGk hS rfl) (SGi hS rfl h70) ?_
    refine Ev_iconst (v := 1) hq_67 (show decode prog_4_method_5_code 108 = .ok (.iconst 1, 1) by decide +kernel) (by decide) ?_
    refine Ev_iload_n hq_67 (show decode prog_4_method_5_code 109 = .ok (.iload_n 3, 1) by decide +kernel) rfl ?_
    refine Ev_ishl hq_67 (show decode prog_4_method_5_code 110 = .ok (.ishl, 1) by decide +kernel) ?_
    refine Ev_ior hq_67 (show decode prog_4_method_5_code 111 = .ok (.ior, 1) by decide +kernel) ?_
    obtain ⟨h71, k⟩ := k
    refine Ev_iast hq_67 (show decode prog_4_method_5_code 112 = .ok (.iastore, 1) by decide +kernel) (SGn hS (by decide)) (SGk hS rfl) (SGi hS rfl h71) ?_
    obtain ⟨I72, eI72⟩ : ∃ I72 : zI, I72 = z_up I24 37 x4.toNatClampNeg ((I24 37 x4.toNatClampNeg) ||| (1 <<< (x3 &&& 31))) := ⟨_, rfl⟩
    have k := k I72 eI72
    rw [← eI72]
    refine Ev_iload hq_67 (show decode prog_4_method_5_code 113 = .ok (.iload 6, 2) by decide +kernel) rfl ?_
    refine Ev_ineg hq_67 (show decode prog_4_method_5_code 115 = .ok (.ineg, 1) by decide +kernel) ?_
    refine Ev_aload_n hq_67 (show decode prog_4_method_5_code 116 = .ok (.aload_n 1, 1) by decide +kernel) rfl ?_
    refine Ev_getR hq_67 (show decode prog_4_method_5_code 117 = .ok (.getfield 61, 3) by decide +kernel) rfl (VB.lt ho (by omega)) ho.2.1 (by decide) rfl (ho.2.2 0 (by decide)).1 ?_
    refine Ev_iload hq_67 (show decode prog_4_method_5_code 120 = .ok (.iload 4, 2) by decide +kernel) rfl ?_
    obtain ⟨h73, k⟩ := k
    refine Ev_iald hq_67 (show decode prog_4_method_5_code 122 = .ok (.iaload, 1) by decide +kernel) (VB.lt ho (by omega)) (ho.2.2 0 (by decide)).2.1 (VB.inr ho (j := 0) (n := 4) (by decide) rfl h73) ?_
    refine Ev_aload_n hq_67 (show decode prog_4_method_5_code 123 = .ok (.aload_n 1, 1) by decide +kernel) rfl ?_
    refine Ev_getR hq_67 (show decode prog_4_method_5_code 124 = .ok (.getfield 64, 3) by decide +kernel) rfl (VB.lt ho (by omega)) ho.2.1 (by decide) rfl (ho.2.2 1 (by decide)).1 ?_
    refine Ev_iload hq_67 (show decode prog_4_method_5_code 127 = .ok (.iload 4, 2) by decide +kernel) rfl ?_
    obtain ⟨h74, k⟩ := k
    refine Ev_iald hq_67 (show decode prog_4_method_5_code 129 = .ok (.iaload, 1) by decide +kernel) (VB.lt ho (by omega)) (ho.2.2 1 (by decide)).2.1 (VB.inr ho (j := 1) (n := 4) (by decide) rfl h74) ?_
    refine Ev_stat (as := [.int (I72 (o + (0 + 1)) x4.toNatClampNeg), .int (I72 (o + (1 + 1)) x4.toNatClampNeg)]) hq_67 (show decode prog_4_method_5_code 130 = .ok (.invokestatic 88, 3) by decide +kernel) rfl (Or.inr rfl) hq_60 rfl (z_le rfl) (c_T_scaldsFrom (I72 (o + (0 + 1)) x4.toNatClampNeg) (I72 (o + (1 + 1)) x4.toNatClampNeg)) ?_
    refine Ev_icmp_lt (tgt := 147) hq_67 (show decode prog_4_method_5_code 133 = .ok (.if_icmp .lt 14, 3) by decide +kernel) (by decide) (fun c75 => ?_) (fun c75 => ?_)
    · have k := k.1 c75
      refine Ev_iload hq_67 (show decode prog_4_method_5_code 147 = .ok (.iload 5, 2) by decide +kernel) rfl ?_
      refine Ev_if_eq (tgt := 153) hq_67 (show decode prog_4_method_5_code 149 = .ok (.ifCond .eq 4, 3) by decide +kernel) (by decide) (fun c76 => ?_) (fun c76 => ?_)
      · have k := k.1 c76
        refine Ev_aload_n hq_67 (show decode prog_4_method_5_code 153 = .ok (.aload_n 2, 1) by decide +kernel) rfl ?_
        refine Ev_iconst (v := 0) hq_67 (show decode prog_4_method_5_code 154 = .ok (.iconst 0, 1) by decide +kernel) (by decide) ?_
        obtain ⟨r79, I77, h78, k⟩ := k
        refine Ev_virt (as := [.int 0]) hq_67 (show decode prog_4_method_5_code 155 = .ok (.invokevirtual 84, 3) by decide +kernel) rfl hq_50 rfl (z_le rfl) ⟨(VB.lt hw (by omega)), hw.2.1, by decide⟩ h78 ?_
        refine Ev_aload_n hq_67 (show decode prog_4_method_5_code 158 = .ok (.aload_n 1, 1) by decide +kernel) rfl ?_
        refine Ev_getR hq_67 (show decode prog_4_method_5_code 159 = .ok (.getfield 91, 3) by decide +kernel) rfl (VB.lt ho (by omega)) ho.2.1 (by decide) rfl (ho.2.2 5 (by decide)).1 ?_
        refine Ev_iload hq_67 (show decode prog_4_method_5_code 162 = .ok (.iload 4, 2) by decide +kernel) rfl ?_
        obtain ⟨h80, k⟩ := k
        refine Ev_iald hq_67 (show decode prog_4_method_5_code 164 = .ok (.iaload, 1) by decide +kernel) (VB.lt ho (by omega)) (ho.2.2 5 (by decide)).2.1 (VB.inr ho (j := 5) (n := 4) (by decide) rfl h80) ?_
        refine Ev_imul hq_67 (show decode prog_4_method_5_code 165 = .ok (.imul, 1) by decide +kernel) ?_
        refine Ev_bipush (v := 8) hq_67 (show decode prog_4_method_5_code 166 = .ok (.bipush 8, 2) by decide +kernel) (by decide) ?_
        refine Ev_idiv hq_67 (show decode prog_4_method_5_code 168 = .ok (.idiv, 1) by decide +kernel) (by decide) ?_
        obtain ⟨y81, ey81⟩ : ∃ y81 : Int32, y81 = ((r79 * (I77 (o + (5 + 1)) x4.toNatClampNeg)) / 8) := ⟨_, rfl⟩
        have k := k y81 ey81
        rw [← ey81]
        refine Ev_istore (lo2 := [.ref 25, .ref o, .ref w, .int x3, .int x4, .int x5, .int y5, .int y10, .int y81]) hq_67 (show decode prog_4_method_5_code 169 = .ok (.istore 8, 2) by decide +kernel) (z_le rfl) rfl ?_
        refine Ev_aload_n hq_67 (show decode prog_4_method_5_code 171 = .ok (.aload_n 0, 1) by decide +kernel) rfl ?_
        refine Ev_getR hq_67 (show decode prog_4_method_5_code 172 = .ok (.getfield 16, 3) by decide +kernel) rfl (SGn hS (by decide)) (SGk hS rfl) (by decide) rfl (SGr hS rfl) ?_
        refine Ev_iload hq_67 (show decode prog_4_method_5_code 175 = .ok (.iload 4, 2) by decide +kernel) rfl ?_
        obtain ⟨h82, k⟩ := k
        have r83 := SGrow hS (a := 31) (b := 32) (n := 31) (Or.inr (Or.inl ⟨rfl, rfl, rfl⟩)) h82.2
        refine Ev_aald hq_67 (show decode prog_4_method_5_code 177 = .ok (.aaload, 1) by decide +kernel) (SGn hS (by decide)) (Or.inr (SGk hS rfl)) (SGi hS rfl h82) r83.1 ?_
        refine Ev_iload_n hq_67 (show decode prog_4_method_5_code 178 = .ok (.iload_n 3, 1) by decide +kernel) rfl ?_
        refine Ev_iconst (v := 1) hq_67 (show decode prog_4_method_5_code 179 = .ok (.iconst 1, 1) by decide +kernel) (by decide) ?_
        refine Ev_iadd hq_67 (show decode prog_4_method_5_code 180 = .ok (.iadd, 1) by decide +kernel) ?_
        refine Ev_aload_n hq_67 (show decode prog_4_method_5_code 181 = .ok (.aload_n 0, 1) by decide +kernel) rfl ?_
        refine Ev_getR hq_67 (show decode prog_4_method_5_code 182 = .ok (.getfield 16, 3) by decide +kernel) rfl (SGn hS (by decide)) (SGk hS rfl) (by decide) rfl (SGr hS rfl) ?_
        refine Ev_iload hq_67 (show decode prog_4_method_5_code 185 = .ok (.iload 4, 2) by decide +kernel) rfl ?_
        obtain ⟨h84, k⟩ := k
        have r85 := SGrow hS (a := 31) (b := 32) (n := 31) (Or.inr (Or.inl ⟨rfl, rfl, rfl⟩)) h84.2
        refine Ev_aald hq_67 (show decode prog_4_method_5_code 187 = .ok (.aaload, 1) by decide +kernel) (SGn hS (by decide)) (Or.inr (SGk hS rfl)) (SGi hS rfl h84) r85.1 ?_
        refine Ev_iload_n hq_67 (show decode prog_4_method_5_code 188 = .ok (.iload_n 3, 1) by decide +kernel) rfl ?_
        obtain ⟨h86, k⟩ := k
        refine Ev_iald hq_67 (show decode prog_4_method_5_code 189 = .ok (.iaload, 1) by decide +kernel) r85.2.1 r85.2.2.1 (by rw [r85.2.2.2]; exact h86) ?_
        refine Ev_aload_n hq_67 (show decode prog_4_method_5_code 190 = .ok (.aload_n 1, 1) by decide +kernel) rfl ?_
        refine Ev_getR hq_67 (show decode prog_4_method_5_code 191 = .ok (.getfield 61, 3) by decide +kernel) rfl (VB.lt ho (by omega)) ho.2.1 (by decide) rfl (ho.2.2 0 (by decide)).1 ?_
        refine Ev_iload hq_67 (show decode prog_4_method_5_code 194 = .ok (.iload 4, 2) by decide +kernel) rfl ?_
        obtain ⟨h87, k⟩ := k
        refine Ev_iald hq_67 (show decode prog_4_method_5_code 196 = .ok (.iaload, 1) by decide +kernel) (VB.lt ho (by omega)) (ho.2.2 0 (by decide)).2.1 (VB.inr ho (j := 0) (n := 4) (by decide) rfl h87) ?_
        refine Ev_aload_n hq_67 (show decode prog_4_method_5_code 197 = .ok (.aload_n 1, 1) by decide +kernel) rfl ?_
        refine Ev_getR hq_67 (show decode prog_4_method_5_code 198 = .ok (.getfield 64, 3) by decide +kernel) rfl (VB.lt ho (by omega)) ho.2.1 (by decide) rfl (ho.2.2 1 (by decide)).1 ?_
        refine Ev_iload hq_67 (show decode prog_4_method_5_code 201 = .ok (.iload 4, 2) by decide +kernel) rfl ?_
        obtain ⟨h88, k⟩ := k
        refine Ev_iald hq_67 (show decode prog_4_method_5_code 203 = .ok (.iaload, 1) by decide +kernel) (VB.lt ho (by omega)) (ho.2.2 1 (by decide)).2.1 (VB.inr ho (j := 1) (n := 4) (by decide) rfl h88) ?_
        refine Ev_iload hq_67 (show decode prog_4_method_5_code 204 = .ok (.iload 8, 2) by decide +kernel) rfl ?_
        obtain ⟨r91, I89, h90, k⟩ := k
        refine Ev_stat (as := [.int (I77 (o + (0 + 1)) x4.toNatClampNeg), .int (I77 (o + (1 + 1)) x4.toNatClampNeg), .int y81]) hq_67 (show decode prog_4_method_5_code 206 = .ok (.invokestatic 94, 3) by decide +kernel) rfl (Or.inr rfl) hq_68 rfl (z_le rfl) h90 ?_
        refine Ev_iadd hq_67 (show decode prog_4_method_5_code 209 = .ok (.iadd, 1) by decide +kernel) ?_
        refine Ev_iconst (v := 0) hq_67 (show decode prog_4_method_5_code 210 = .ok (.iconst 0, 1) by decide +kernel) (by decide) ?_
        refine Ev_sipush (v := 999) hq_67 (show decode prog_4_method_5_code 211 = .ok (.sipush 999, 3) by decide +kernel) (by decide) ?_
        refine Ev_stat (as := [.int ((I77 (32 + x4.toNatClampNeg) x3.toNatClampNeg) + r91), .int 0, .int 999]) hq_67 (show decode prog_4_method_5_code 214 = .ok (.invokestatic 98, 3) by decide +kernel) rfl (Or.inr rfl) hq_13 rfl (z_le rfl) (c_T_bounded ((I77 (32 + x4.toNatClampNeg) x3.toNatClampNeg) + r91) 0 999) ?_
        obtain ⟨h92, k⟩ := k
        refine Ev_iast hq_67 (show decode prog_4_method_5_code 217 = .ok (.iastore, 1) by decide +kernel) r83.2.1 r83.2.2.1 (by rw [r83.2.2.2]; exact h92) ?_
        obtain ⟨I93, eI93⟩ : ∃ I93 : zI, I93 = z_up I89 (32 + x4.toNatClampNeg) (x3 + 1).toNatClampNeg (f_T_bounded ((I77 (32 + x4.toNatClampNeg) x3.toNatClampNeg) + r91) 0 999) := ⟨_, rfl⟩
        have k := k I93 eI93
        rw [← eI93]
        exact Ev_vret hq_67 (show decode prog_4_method_5_code 218 = .ok (.return_, 1) by decide +kernel) k
      · have k := k.2 c76
        exact Ev_vret hq_67 (show decode prog_4_method_5_code 152 = .ok (.return_, 1) by decide +kernel) k
    · have k := k.2 c75
      refine Ev_aload_n hq_67 (show decode prog_4_method_5_code 136 = .ok (.aload_n 0, 1) by decide +kernel) rfl ?_
      refine Ev_getR hq_67 (show decode prog_4_method_5_code 137 = .ok (.getfield 26, 3) by decide +kernel) rfl (SGn hS (by decide)) (SGk hS rfl) (by decide) rfl (SGr hS rfl) ?_
      refine Ev_iload hq_67 (show decode prog_4_method_5_code 140 = .ok (.iload 4, 2) by decide +kernel) rfl ?_
      refine Ev_dup2 hq_67 (show decode prog_4_method_5_code 142 = .ok (.dup2, 1) by decide +kernel) ⟨rfl, rfl⟩ ?_
      obtain ⟨h94, k⟩ := k
      refine Ev_iald hq_67 (show decode prog_4_method_5_code 143 = .ok (.iaload, 1) by decide +kernel) (SGn hS (by decide)) (SGk hS rfl) (SGi hS rfl h94) ?_
      refine Ev_iconst (v := 1) hq_67 (show decode prog_4_method_5_code 144 = .ok (.iconst 1, 1) by decide +kernel) (by decide) ?_
      refine Ev_iadd hq_67 (show decode prog_4_method_5_code 145 = .ok (.iadd, 1) by decide +kernel) ?_
      obtain ⟨h95, k⟩ := k
      refine Ev_iast hq_67 (show decode prog_4_method_5_code 146 = .ok (.iastore, 1) by decide +kernel) (SGn hS (by decide)) (SGk hS rfl) (SGi hS rfl h95) ?_
      obtain ⟨I96, eI96⟩ : ∃ I96 : zI, I96 = z_up I72 38 x4.toNatClampNeg ((I72 38 x4.toNatClampNeg) + 1) := ⟨_, rfl⟩
      have k := k I96 eI96
      rw [← eI96]
      refine Ev_iload hq_67 (show decode prog_4_method_5_code 147 = .ok (.iload 5, 2) by decide +kernel) rfl ?_
      refine Ev_if_eq (tgt := 153) hq_67 (show decode prog_4_method_5_code 149 = .ok (.ifCond .eq 4, 3) by decide +kernel) (by decide) (fun c97 => ?_) (fun c97 => ?_)
      · have k := k.1 c97
        refine Ev_aload_n hq_67 (show decode prog_4_method_5_code 153 = .ok (.aload_n 2, 1) by decide +kernel) rfl ?_
        refine Ev_iconst (v := 0) hq_67 (show decode prog_4_method_5_code 154 = .ok (.iconst 0, 1) by decide +kernel) (by decide) ?_
        obtain ⟨r100, I98, h99, k⟩ := k
        refine Ev_virt (as := [.int 0]) hq_67 (show decode prog_4_method_5_code 155 = .ok (.invokevirtual 84, 3) by decide +kernel) rfl hq_50 rfl (z_le rfl) ⟨(VB.lt hw (by omega)), hw.2.1, by decide⟩ h99 ?_
        refine Ev_aload_n hq_67 (show decode prog_4_method_5_code 158 = .ok (.aload_n 1, 1) by decide +kernel) rfl ?_
        refine Ev_getR hq_67 (show decode prog_4_method_5_code 159 = .ok (.getfield 91, 3) by decide +kernel) rfl (VB.lt ho (by omega)) ho.2.1 (by decide) rfl (ho.2.2 5 (by decide)).1 ?_
        refine Ev_iload hq_67 (show decode prog_4_method_5_code 162 = .ok (.iload 4, 2) by decide +kernel) rfl ?_
        obtain ⟨h101, k⟩ := k
        refine Ev_iald hq_67 (show decode prog_4_method_5_code 164 = .ok (.iaload, 1) by decide +kernel) (VB.lt ho (by omega)) (ho.2.2 5 (by decide)).2.1 (VB.inr ho (j := 5) (n := 4) (by decide) rfl h101) ?_
        refine Ev_imul hq_67 (show decode prog_4_method_5_code 165 = .ok (.imul, 1) by decide +kernel) ?_
        refine Ev_bipush (v := 8) hq_67 (show decode prog_4_method_5_code 166 = .ok (.bipush 8, 2) by decide +kernel) (by decide) ?_
        refine Ev_idiv hq_67 (show decode prog_4_method_5_code 168 = .ok (.idiv, 1) by decide +kernel) (by decide) ?_
        obtain ⟨y102, ey102⟩ : ∃ y102 : Int32, y102 = ((r100 * (I98 (o + (5 + 1)) x4.toNatClampNeg)) / 8) := ⟨_, rfl⟩
        have k := k y102 ey102
        rw [← ey102]
        refine Ev_istore (lo2 := [.ref 25, .ref o, .ref w, .int x3, .int x4, .int x5, .int y5, .int y10, .int y102]) hq_67 (show decode prog_4_method_5_code 169 = .ok (.istore 8, 2) by decide +kernel) (z_le rfl) rfl ?_
        refine Ev_aload_n hq_67 (show decode prog_4_method_5_code 171 = .ok (.aload_n 0, 1) by decide +kernel) rfl ?_
        refine Ev_getR hq_67 (show decode prog_4_method_5_code 172 = .ok (.getfield 16, 3) by decide +kernel) rfl (SGn hS (by decide)) (SGk hS rfl) (by decide) rfl (SGr hS rfl) ?_
        refine Ev_iload hq_67 (show decode prog_4_method_5_code 175 = .ok (.iload 4, 2) by decide +kernel) rfl ?_
        obtain ⟨h103, k⟩ := k
        have r104 := SGrow hS (a := 31) (b := 32) (n := 31) (Or.inr (Or.inl ⟨rfl, rfl, rfl⟩)) h103.2
        refine Ev_aald hq_67 (show decode prog_4_method_5_code 177 = .ok (.aaload, 1) by decide +kernel) (SGn hS (by decide)) (Or.inr (SGk hS rfl)) (SGi hS rfl h103) r104.1 ?_
        refine Ev_iload_n hq_67 (show decode prog_4_method_5_code 178 = .ok (.iload_n 3, 1) by decide +kernel) rfl ?_
        refine Ev_iconst (v := 1) hq_67 (show decode prog_4_method_5_code 179 = .ok (.iconst 1, 1) by decide +kernel) (by decide) ?_
        refine Ev_iadd hq_67 (show decode prog_4_method_5_code 180 = .ok (.iadd, 1) by decide +kernel) ?_
        refine Ev_aload_n hq_67 (show decode prog_4_method_5_code 181 = .ok (.aload_n 0, 1) by decide +kernel) rfl ?_
        refine Ev_getR hq_67 (show decode prog_4_method_5_code 182 = .ok (.getfield 16, 3) by decide +kernel) rfl (SGn hS (by decide)) (SGk hS rfl) (by decide) rfl (SGr hS rfl) ?_
        refine Ev_iload hq_67 (show decode prog_4_method_5_code 185 = .ok (.iload 4, 2) by decide +kernel) rfl ?_
        obtain ⟨h105, k⟩ := k
        have r106 := SGrow hS (a := 31) (b := 32) (n := 31) (Or.inr (Or.inl ⟨rfl, rfl, rfl⟩)) h105.2
        refine Ev_aald hq_67 (show decode prog_4_method_5_code 187 = .ok (.aaload, 1) by decide +kernel) (SGn hS (by decide)) (Or.inr (SGk hS rfl)) (SGi hS rfl h105) r106.1 ?_
        refine Ev_iload_n hq_67 (show decode prog_4_method_5_code 188 = .ok (.iload_n 3, 1) by decide +kernel) rfl ?_
        obtain ⟨h107, k⟩ := k
        refine Ev_iald hq_67 (show decode prog_4_method_5_code 189 = .ok (.iaload, 1) by decide +kernel) r106.2.1 r106.2.2.1 (by rw [r106.2.2.2]; exact h107) ?_
        refine Ev_aload_n hq_67 (show decode prog_4_method_5_code 190 = .ok (.aload_n 1, 1) by decide +kernel) rfl ?_
        refine Ev_getR hq_67 (show decode prog_4_method_5_code 191 = .ok (.getfield 61, 3) by decide +kernel) rfl (VB.lt ho (by omega)) ho.2.1 (by decide) rfl (ho.2.2 0 (by decide)).1 ?_
        refine Ev_iload hq_67 (show decode prog_4_method_5_code 194 = .ok (.iload 4, 2) by decide +kernel) rfl ?_
        obtain ⟨h108, k⟩ := k
        refine Ev_iald hq_67 (show decode prog_4_method_5_code 196 = .ok (.iaload, 1) by decide +kernel) (VB.lt ho (by omega)) (ho.2.2 0 (by decide)).2.1 (VB.inr ho (j := 0) (n := 4) (by decide) rfl h108) ?_
        refine Ev_aload_n hq_67 (show decode prog_4_method_5_code 197 = .ok (.aload_n 1, 1) by decide +kernel) rfl ?_
        refine Ev_getR hq_67 (show decode prog_4_method_5_code 198 = .ok (.getfield 64, 3) by decide +kernel) rfl (VB.lt ho (by omega)) ho.2.1 (by decide) rfl (ho.2.2 1 (by decide)).1 ?_
        refine Ev_iload hq_67 (show decode prog_4_method_5_code 201 = .ok (.iload 4, 2) by decide +kernel) rfl ?_
        obtain ⟨h109, k⟩ := k
        refine Ev_iald hq_67 (show decode prog_4_method_5_code 203 = .ok (.iaload, 1) by decide +kernel) (VB.lt ho (by omega)) (ho.2.2 1 (by decide)).2.1 (VB.inr ho (j := 1) (n := 4) (by decide) rfl h109) ?_
        refine Ev_iload hq_67 (show decode prog_4_method_5_code 204 = .ok (.iload 8, 2) by decide +kernel) rfl ?_
        obtain ⟨r112, I110, h111, k⟩ := k
        refine Ev_stat (as := [.int (I98 (o + (0 + 1)) x4.toNatClampNeg), .int (I98 (o + (1 + 1)) x4.toNatClampNeg), .int y102]) hq_67 (show decode prog_4_method_5_code 206 = .ok (.invokestatic 94, 3) by decide +kernel) rfl (Or.inr rfl) hq_68 rfl (z_le rfl) h111 ?_
        refine Ev_iadd hq_67 (show decode prog_4_method_5_code 209 = .ok (.iadd, 1) by decide +kernel) ?_
        refine Ev_iconst (v := 0) hq_67 (show decode prog_4_method_5_code 210 = .ok (.iconst 0, 1) by decide +kernel) (by decide) ?_
        refine Ev_sipush (v := 999) hq_67 (show decode prog_4_method_5_code 211 = .ok (.sipush 999, 3) by decide +kernel) (by decide) ?_
        refine Ev_stat (as := [.int ((I98 (32 + x4.toNatClampNeg) x3.toNatClampNeg) + r112), .int 0, .int 999]) hq_67 (show decode prog_4_method_5_code 214 = .ok (.invokestatic 98, 3) by decide +kernel) rfl (Or.inr rfl) hq_13 rfl (z_le rfl) (c_T_bounded ((I98 (32 + x4.toNatClampNeg) x3.toNatClampNeg) + r112) 0 999) ?_
        obtain ⟨h113, k⟩ := k
        refine Ev_iast hq_67 (show decode prog_4_method_5_code 217 = .ok (.iastore, 1) by decide +kernel) r104.2.1 r104.2.2.1 (by rw [r104.2.2.2]; exact h113) ?_
        obtain ⟨I114, eI114⟩ : ∃ I114 : zI, I114 = z_up I110 (32 + x4.toNatClampNeg) (x3 + 1).toNatClampNeg (f_T_bounded ((I98 (32 + x4.toNatClampNeg) x3.toNatClampNeg) + r112) 0 999) := ⟨_, rfl⟩
        have k := k I114 eI114
        rw [← eI114]
        exact Ev_vret hq_67 (show decode prog_4_method_5_code 218 = .ok (.return_, 1) by decide +kernel) k
      · have k := k.2 c97
        exact Ev_vret hq_67 (show decode prog_4_method_5_code 152 = .ok (.return_, 1) by decide +kernel) k
set_option maxRecDepth 20000 in
theorem wp_M_run {X : Nat × (Nat → Int32)} {d : Nat} {G : zG} {I : zI} {res : Option Value × zG × zI} (o : Nat) (w : Nat) (x3 : Int32) (x4 : Int32) 
    (k : Ev X d 63 3 [.ref 25, .ref o, .ref w, .int x3, .int x4, .int 0, zU, zU] [] G I res) :
    Ev X d 63 0 [.ref 25, .ref o, .ref w, .int x3, .int x4, zU, zU, zU] [] G I res := by
  refine Ev_iconst (v := 0) hq_63 (show decode prog_4_method_2_code 0 = .ok (.iconst 0, 1) by decide +kernel) (by decide) ?_
  refine Ev_istore (lo2 := [.ref 25, .ref o, .ref w, .int x3, .int x4, .int 0, zU, zU]) hq_63 (show decode prog_4_method_2_code 1 = .ok (.istore 5, 2) by decide +kernel) (z_le rfl) rfl ?_
  exact k
set_option maxRecDepth 20000 in
theorem wp_M_run_3 {X : Nat × (Nat → Int32)} {d : Nat} {G : zG} {I : zI} {res : Option Value × zG × zI} (o : Nat) (w : Nat) (x3 : Int32) (x4 : Int32) (x5 : Int32) (hS : SG G) (ho : HH G o) 
    (k : ((I o 7) ≤ x5 → ∀ y2 : Int32, y2 = (if 30 < x3 then 30 else x3) → Ev X (d + 1) 63 69 [.ref 25, .ref o, .ref w, .int x3, .int x4, .int y2, .int 0, zU] [] G I res) ∧ (¬ (I o 7) ≤ x5 → z_inr x5 4 ∧ (z_inr x5 4 ∧ ((∀ I6 : zI, I6 = z_up I (32 + x5.toNatClampNeg) (0 : Int32).toNatClampNeg (I (o + (4 + 1)) x5.toNatClampNeg) → z_inr x5 4 ∧ (∀ I8 : zI, I8 = z_up I6 36 x5.toNatClampNeg 0 → z_inr x5 4 ∧ (∀ I10 : zI, I10 = z_up I8 37 x5.toNatClampNeg 0 → z_inr x5 4 ∧ (∀ I12 : zI, I12 = z_up I10 38 x5.toNatClampNeg 0 → ∀ y13 : Int32, y13 = x5 + 1 → Ev X (d + 1) 63 3 [.ref 25, .ref o, .ref w, .int x3, .int x4, .int y13, zU, zU] [] G I12 res)))))))) :
    Ev X (d + 1) 63 3 [.ref 25, .ref o, .ref w, .int x3, .int x4, .int x5, zU, zU] [] G I res := by
  refine Ev_iload hq_63 (show decode prog_4_method_2_code 3 = .ok (.iload 5, 2) by decide +kernel) rfl ?_
  refine Ev_aload_n hq_63 (show decode prog_4_method_2_code 5 = .ok (.aload_n 1, 1) by decide +kernel) rfl ?_
  refine Ev_getI hq_63 (show decode prog_4_method_2_code 6 = .ok (.getfield 29, 3) by decide +kernel) rfl (VB.lt ho (by omega)) ho.2.1 (by decide) rfl ?_
  refine Ev_icmp_ge (tgt := 58) hq_63 (show decode prog_4_method_2_code 9 = .ok (.if_icmp .ge 49, 3) by decide +kernel) (by decide) (fun c1 => ?_) (fun c1 => ?_)
  · have k := k.1 c1
    refine Ev_iload_n hq_63 (show decode prog_4_method_2_code 58 = .ok (.iload_n 3, 1) by decide +kernel) rfl ?_
    refine Ev_bipush (v := 30) hq_63 (show decode prog_4_method_2_code 59 = .ok (.bipush 30, 2) by decide +kernel) (by decide) ?_
    refine Ev_min hq_63 (show decode prog_4_method_2_code 61 = .ok (.invokestatic 38, 3) by decide +kernel) rfl (z_le rfl) ?_
    obtain ⟨y2, ey2⟩ : ∃ y2 : Int32, y2 = (if 30 < x3 then 30 else x3) := ⟨_, rfl⟩
    have k := k y2 ey2
    rw [← ey2]
    refine Ev_istore (lo2 := [.ref 25, .ref o, .ref w, .int x3, .int x4, .int y2, zU, zU]) hq_63 (show decode prog_4_method_2_code 64 = .ok (.istore 5, 2) by decide +kernel) (z_le rfl) rfl ?_
    refine Ev_iconst (v := 0) hq_63 (show decode prog_4_method_2_code 66 = .ok (.iconst 0, 1) by decide +kernel) (by decide) ?_
    refine Ev_istore (lo2 := [.ref 25, .ref o, .ref w, .int x3, .int x4, .int y2, .int 0, zU]) hq_63 (show decode prog_4_method_2_code 67 = .ok (.istore 6, 2) by decide +kernel) (z_le rfl) rfl ?_
    exact k
  · have k := k.2 c1
    refine Ev_aload_n hq_63 (show decode prog_4_method_2_code 12 = .ok (.aload_n 0, 1) by decide +kernel) rfl ?_
    refine Ev_getR hq_63 (show decode prog_4_method_2_code 13 = .ok (.getfield 16, 3) by decide +kernel) rfl (SGn hS (by decide)) (SGk hS rfl) (by decide) rfl (SGr hS rfl) ?_
    refine Ev_iload hq_63 (show decode prog_4_method_2_code 16 = .ok (.iload 5, 2) by decide +kernel) rfl ?_
    obtain ⟨h3, k⟩ := k
    have r4 := SGrow hS (a := 31) (b := 32) (n := 31) (Or.inr (Or.inl ⟨rfl, rfl, rfl⟩)) h3.2
    refine Ev_aald hq_63 (show decode prog_4_method_2_code 18 = .ok (.aaload, 1) by decide +kernel) (SGn hS (by decide)) (Or.inr (SGk hS rfl)) (SGi hS rfl h3) r4.1 ?_
    refine Ev_iconst (v := 0) hq_63 (show decode prog_4_method_2_code 19 = .ok (.iconst 0, 1) by decide +kernel) (by decide) ?_
    refine Ev_aload_n hq_63 (show decode prog_4_method_2_code 20 = .ok (.aload_n 1, 1) by decide +kernel) rfl ?_
    refine Ev_getR hq_63 (show decode prog_4_method_2_code 21 = .ok (.getfield 35, 3) by decide +kernel) rfl (VB.lt ho (by omega)) ho.2.1 (by decide) rfl (ho.2.2 4 (by decide)).1 ?_
    refine Ev_iload hq_63 (show decode prog_4_method_2_code 24 = .ok (.iload 5, 2) by decide +kernel) rfl ?_
    obtain ⟨h5, k⟩ := k
    refine Ev_iald hq_63 (show decode prog_4_method_2_code 26 = .ok (.iaload, 1) by decide +kernel) (VB.lt ho (by omega)) (ho.2.2 4 (by decide)).2.1 (VB.inr ho (j := 4) (n := 4) (by decide) rfl h5) ?_
    refine Ev_iast hq_63 (show decode prog_4_method_2_code 27 = .ok (.iastore, 1) by decide +kernel) r4.2.1 r4.2.2.1 (by rw [r4.2.2.2]; exact (by decide)) ?_
    obtain ⟨I6, eI6⟩ : ∃ I6 : zI, I6 = z_up I (32 + x5.toNatClampNeg) (0 : Int32).toNatClampNeg (I (o + (4 + 1)) x5.toNatClampNeg) := ⟨_, rfl⟩
    have k := k I6 eI6
    rw [← eI6]
    refine Ev_aload_n hq_63 (show decode prog_4_method_2_code 28 = .ok (.aload_n 0, 1) by decide +kernel) rfl ?_
    refine Ev_getR hq_63 (show decode prog_4_method_2_code 29 = .ok (.getfield 19, 3) by decide +kernel) rfl (SGn hS (by decide)) (SGk hS rfl) (by decide) rfl (SGr hS rfl) ?_
    refine Ev_iload hq_63 (show decode prog_4_method_2_code 32 = .ok (.iload 5, 2) by decide +kernel) rfl ?_
    refine Ev_iconst (v := 0) hq_63 (show decode prog_4_method_2_code 34 = .ok (.iconst 0, 1) by decide +kernel) (by decide) ?_
    obtain ⟨h7, k⟩ := k
    refine Ev_iast hq_63 (show decode prog_4_method_2_code 35 = .ok (.iastore, 1) by decide +kernel) (SGn hS (by decide)) (SGk hS rfl) (SGi hS rfl h7) ?_
    obtain ⟨I8, eI8⟩ : ∃ I8 : zI, I8 = z_up I6 36 x5.toNatClampNeg 0 := ⟨_, rfl⟩
    have k := k I8 eI8
    rw [← eI8]
    refine Ev_aload_n hq_63 (show decode prog_4_method_2_code 36 = .ok (.aload_n 0, 1) by decide +kernel) rfl ?_
    refine Ev_getR hq_63 (show decode prog_4_method_2_code 37 = .ok (.getfield 23, 3) by decide +kernel) rfl (SGn hS (by decide)) (SGk hS rfl) (by decide) rfl (SGr hS rfl) ?_
    refine Ev_iload hq_63 (show decode prog_4_method_2_code 40 = .ok (.iload 5, 2) by decide +kernel) rfl ?_
    refine Ev_iconst (v := 0) hq_63 (show decode prog_4_method_2_code 42 = .ok (.iconst 0, 1) by decide +kernel) (by decide) ?_
    obtain ⟨h9, k⟩ := k
    refine Ev_iast hq_63 (show decode prog_4_method_2_code 43 = .ok (.iastore, 1) by decide +kernel) (SGn hS (by decide)) (SGk hS rfl) (SGi hS rfl h9) ?_
    obtain ⟨I10, eI10⟩ : ∃ I10 : zI, I10 = z_up I8 37 x5.toNatClampNeg 0 := ⟨_, rfl⟩
    have k := k I10 eI10
    rw [← eI10]
    refine Ev_aload_n hq_63 (show decode prog_4_method_2_code 44 = .ok (.aload_n 0, 1) by decide +kernel) rfl ?_
    refine Ev_getR hq_63 (show decode prog_4_method_2_code 45 = .ok (.getfield 26, 3) by decide +kernel) rfl (SGn hS (by decide)) (SGk hS rfl) (by decide) rfl (SGr hS rfl) ?_
    refine Ev_iload hq_63 (show decode prog_4_method_2_code 48 = .ok (.iload 5, 2) by decide +kernel) rfl ?_
    refine Ev_iconst (v := 0) hq_63 (show decode prog_4_method_2_code 50 = .ok (.iconst 0, 1) by decide +kernel) (by decide) ?_
    obtain ⟨h11, k⟩ := k
    refine Ev_iast hq_63 (show decode prog_4_method_2_code 51 = .ok (.iastore, 1) by decide +kernel) (SGn hS (by decide)) (SGk hS rfl) (SGi hS rfl h11) ?_
    obtain ⟨I12, eI12⟩ : ∃ I12 : zI, I12 = z_up I10 38 x5.toNatClampNeg 0 := ⟨_, rfl⟩
    have k := k I12 eI12
    rw [← eI12]
    obtain ⟨y13, ey13⟩ : ∃ y13 : Int32, y13 = x5 + 1 := ⟨_, rfl⟩
    have k := k y13 ey13
    refine Ev_iinc (v := y13) (lo2 := [.ref 25, .ref o, .ref w, .int x3, .int x4, .int y13, zU, zU]) hq_63 (show decode prog_4_method_2_code 52 = .ok (.iinc 5 1, 3) by decide +kernel) rfl (by rw [ey13]; rfl) rfl ?_
    refine Ev_goto (tgt := 3) hq_63 (show decode prog_4_method_2_code 55 = .ok (.goto (-52), 3) by decide +kernel) (by decide) ?_
    exact k
set_option maxRecDepth 20000 in
theorem wp_M_run_69 {X : Nat × (Nat → Int32)} {d : Nat} {G : zG} {I : zI} {res : Option Value × zG × zI} (o : Nat) (w : Nat) (x3 : Int32) (x4 : Int32) (x5 : Int32) (x6 : Int32) (v7 : Value) (cv7 : v7.category = 1) 
    (k : (x5 ≤ x6 → res = (none, G, I)) ∧ (¬ x5 ≤ x6 → Ev X d 63 79 [.ref 25, .ref o, .ref w, .int x3, .int x4, .int x5, .int x6, .int 0] [] G I res)) :
    Ev X d 63 69 [.ref 25, .ref o, .ref w, .int x3, .int x4, .int x5, .int x6, v7] [] G I res := by
  refine Ev_iload hq_63 (show decode prog_4_method_2_code 69 = .ok (.iload 6, 2) by decide +kernel) rfl ?_
  refine Ev_iload hq_63 (show decode prog_4_method_2_code 71 = .ok (.iload 5, 2) by decide +kernel) rfl ?_
  refine Ev_icmp_ge (tgt := 182) hq_63 (show decode prog_4_method_2_code 73 = .ok (.if_icmp .ge 109, 3) by decide +kernel) (by decide) (fun c1 => ?_) (fun c1 => ?_)
  · have k := k.1 c1
    exact Ev_vret hq_63 (show decode prog_4_method_2_code 182 = .ok (.return_, 1) by decide +kernel) k
  · have k := k.2 c1
    refine Ev_iconst (v := 0) hq_63 (show decode prog_4_method_2_code 76 = .ok (.iconst 0, 1) by decide +kernel) (by decide) ?_
    refine Ev_istore (lo2 := [.ref 25, .ref o, .ref w, .int x3, .int x4, .int x5, .int x6, .int 0]) hq_63 (show decode prog_4_method_2_code 77 = .ok (.istore 7, 2) by decide +kernel) (z_le rfl) rfl ?_
    exact k
set_option maxRecDepth 20000 in
theorem wp_M_run_79 {X : Nat × (Nat → Int32)} {d : Nat} {G : zG} {I : zI} {res : Option Value × zG × zI} (o : Nat) (w : Nat) (x3 : Int32) (x4 : Int32) (x5 : Int32) (x6 : Int32) (x7 : Int32) (hS : SG G) (ho : HH G o) 
    (k : ((I o 7) ≤ x7 → Ev X (d + 1) 63 106 [.ref 25, .ref o, .ref w, .int x3, .int x4, .int x5, .int x6, .int 0] [] G I res) ∧ (¬ (I o 7) ≤ x7 → ∃ (I2 : zI), Cv X d 64 [.ref 25, .ref o, .int x6, .int x7] G I (none, G, I2) ∧ (∀ y4 : Int32, y4 = x7 + 1 → Ev X (d + 1) 63 79 [.ref 25, .ref o, .ref w, .int x3, .int x4, .int x5, .int x6, .int y4] [] G I2 res))) :
    Ev X (d + 1) 63 79 [.ref 25, .ref o, .ref w, .int x3, .int x4, .int x5, .int x6, .int x7] [] G I res := by
  refine Ev_iload hq_63 (show decode prog_4_method_2_code 79 = .ok (.iload 7, 2) by decide +kernel) rfl ?_
  refine Ev_aload_n hq_63 (show decode prog_4_method_2_code 81 = .ok (.aload_n 1, 1) by decide +kernel) rfl ?_
  refine Ev_getI hq_63 (show decode prog_4_method_2_code 82 = .ok (.getfield 29, 3) by decide +kernel) rfl (VB.lt ho (by omega)) ho.2.1 (by decide) rfl ?_
  refine Ev_icmp_ge (tgt := 103) hq_63 (show decode prog_4_method_2_code 85 = .ok (.if_icmp .ge 18, 3) by decide +kernel) (by decide) (fun c1 => ?_) (fun c1 => ?_)
  · have k := k.1 c1
    refine Ev_iconst (v := 0) hq_63 (show decode prog_4_method_2_code 103 = .ok (.iconst 0, 1) by decide +kernel) (by decide) ?_
    refine Ev_istore (lo2 := [.ref 25, .ref o, .ref w, .int x3, .int x4, .int x5, .int x6, .int 0]) hq_63 (show decode prog_4_method_2_code 104 = .ok (.istore 7, 2) by decide +kernel) (z_le rfl) rfl ?_
    exact k
  · have k := k.2 c1
    refine Ev_aload_n hq_63 (show decode prog_4_method_2_code 88 = .ok (.aload_n 0, 1) by decide +kernel) rfl ?_
    refine Ev_aload_n hq_63 (show decode prog_4_method_2_code 89 = .ok (.aload_n 1, 1) by decide +kernel) rfl ?_
    refine Ev_iload hq_63 (show decode prog_4_method_2_code 90 = .ok (.iload 6, 2) by decide +kernel) rfl ?_
    refine Ev_iload hq_63 (show decode prog_4_method_2_code 92 = .ok (.iload 7, 2) by decide +kernel) rfl ?_
    obtain ⟨I2, h3, k⟩ := k
    refine Ev_virt (as := [.ref o, .int x6, .int x7]) hq_63 (show decode prog_4_method_2_code 94 = .ok (.invokevirtual 44, 3) by decide +kernel) rfl hq_64 rfl (z_le rfl) ⟨(SGn hS (by decide)), (SGk hS rfl), by decide⟩ h3 ?_
    obtain ⟨y4, ey4⟩ : ∃ y4 : Int32, y4 = x7 + 1 := ⟨_, rfl⟩
    have k := k y4 ey4
    refine Ev_iinc (v := y4) (lo2 := [.ref 25, .ref o, .ref w, .int x3, .int x4, .int x5, .int x6, .int y4]) hq_63 (show decode prog_4_method_2_code 97 = .ok (.iinc 7 1, 3) by decide +kernel) rfl (by rw [ey4]; rfl) rfl ?_
    refine Ev_goto (tgt := 79) hq_63 (show decode prog_4_method_2_code 100 = .ok (.goto (-21), 3) by decide +kernel) (by decide) ?_
    exact k
set_option maxRecDepth 20000 in
theorem wp_M_run_106 {X : Nat × (Nat → Int32)} {d : Nat} {G : zG} {I : zI} {res : Option Value × zG × zI} (o : Nat) (w : Nat) (x3 : Int32) (x4 : Int32) (x5 : Int32) (x6 : Int32) (x7 : Int32) (hS : SG G) (ho : HH G o) 
    (k : ((I o 7) ≤ x7 → ∀ y2 : Int32, y2 = x6 + 1 → Ev X (d + 1) 63 69 [.ref 25, .ref o, .ref w, .int x3, .int x4, .int x5, .int y2, .int x7] [] G I res) ∧ (¬ (I o 7) ≤ x7 → z_inr x7 4 ∧ (z_inr x7 4 ∧ (z_inr x6 31 ∧ (z_inr (x6 + 1) 31 ∧ (∀ I9 : zI, I9 = z_up I (32 + x7.toNatClampNeg) (x6 + 1).toNatClampNeg (I (32 + x7.toNatClampNeg) x6.toNatClampNeg) → z_inr x7 4 ∧ ((¬ (I9 (o + (6 + 1)) x7.toNatClampNeg) = 1 → ∀ y12 : Int32, y12 = x7 + 1 → Ev X (d + 1) 63 106 [.ref 25, .ref o, .ref w, .int x3, .int x4, .int x5, .int x6, .int y12] [] G I9 res) ∧ ((I9 (o + (6 + 1)) x7.toNatClampNeg) = 1 → (¬ x7 = x4 → ∃ (I14 : zI), Cv X d 67 [.ref 25, .ref o, .ref w, .int x6, .int x7, .int 0] G I9 (none, G, I14) ∧ (∀ y16 : Int32, y16 = x7 + 1 → Ev X (d + 1) 63 106 [.ref 25, .ref o, .ref w, .int x3, .int x4, .int x5, .int x6, .int y16] [] G I14 res)) ∧ (x7 = x4 → ∃ (I17 : zI), Cv X d 67 [.ref 25, .ref o, .ref w, .int x6, .int x7, .int 1] G I9 (none, G, I17) ∧ (∀ y19 : Int32, y19 = x7 + 1 → Ev X (d + 1) 63 106 [.ref 25, .ref o, .ref w, .int x3, .int x4, .int x5, .int x6, .int y19] [] G I17 res)))))))))) :
    Ev X (d + 1) 63 106 [.ref 25, .ref o, .ref w, .int x3, .int x4, .int x5, .int x6, .int x7] [] G I res := by
  refine Ev_iload hq_63 (show decode prog_4_method_2_code 106 = .ok (.iload 7, 2) by decide +kernel) rfl ?_
  refine Ev_aload_n hq_63 (show decode prog_4_method_2_code 108 = .ok (.aload_n 1, 1) by decide +kernel) rfl ?_
  refine Ev_getI hq_63 (show decode prog_4_method_2_code 109 = .ok (.getfield 29, 3) by decide +kernel) rfl (VB.lt ho (by omega)) ho.2.1 (by decide) rfl ?_
  refine Ev_icmp_ge (tgt := 176) hq_63 (show decode prog_4_method_2_code 112 = .ok (.if_icmp .ge 64, 3) by decide +kernel) (by decide) (fun c1 => ?_) (fun c1 => ?_)
  · have k := k.1 c1
    obtain ⟨y2, ey2⟩ : ∃ y2 : Int32, y2 = x6 + 1 := ⟨_, rfl⟩
    have k := k y2 ey2
    refine Ev_iinc (v := y2) (lo2 := [.ref 25, .ref o, .ref w, .int x3, .int x4, .int x5, .int y2, .int x7]) hq_63 (show decode prog_4_method_2_code 176 = .ok (.iinc 6 1, 3) by decide +kernel) rfl (by rw [ey2]; rfl) rfl ?_
    refine Ev_goto (tgt := 69) hq_63 (show decode prog_4_method_2_code 179 = .ok (.goto (-110), 3) by decide +kernel) (by decide) ?_
    exact k
  · have k := k.2 c1
    refine Ev_aload_n hq_63 (show decode prog_4_method_2_code 115 = .ok (.aload_n 0, 1) by decide +kernel) rfl ?_
    refine Ev_getR hq_63 (show decode prog_4_method_2_code 116 = .ok (.getfield 16, 3) by decide +kernel) rfl (SGn hS (by decide)) (SGk hS rfl) (by decide) rfl (SGr hS rfl) ?_
    refine Ev_iload hq_63 (show decode prog_4_method_2_code 119 = .ok (.iload 7, 2) by decide +kernel) rfl ?_
    obtain ⟨h3, k⟩ := k
    have r4 := SGrow hS (a := 31) (b := 32) (n := 31) (Or.inr (Or.inl ⟨rfl, rfl, rfl⟩)) h3.2
    refine Ev_aald hq_63 (show decode prog_4_method_2_code 121 = .ok (.aaload, 1) by decide +kernel) (SGn hS (by decide)) (Or.inr (SGk hS rfl)) (SGi hS rfl h3) r4.1 ?_
    refine Ev_iload hq_63 (show decode prog_4_method_2_code 122 = .ok (.iload 6, 2) by decide +kernel) rfl ?_
    refine Ev_iconst (v := 1) hq_63 (show decode prog_4_method_2_code 124 = .ok (.iconst 1, 1) by decide +kernel) (by decide) ?_
    refine Ev_iadd hq_63 (show decode prog_4_method_2_code 125 = .ok (.iadd, 1) by decide +kernel) ?_
    refine Ev_aload_n hq_63 (show decode prog_4_method_2_code 126 = .ok (.aload_n 0, 1) by decide +kernel) rfl ?_
    refine Ev_getR hq_63 (show decode prog_4_method_2_code 127 = .ok (.getfield 16, 3) by decide +kernel) rfl (SGn hS (by decide)) (SGk hS rfl) (by decide) rfl (SGr hS rfl) ?_
    refine Ev_iload hq_63 (show decode prog_4_method_2_code 130 = .ok (.iload 7, 2) by decide +kernel) rfl ?_
    obtain ⟨h5, k⟩ := k
    have r6 := SGrow hS (a := 31) (b := 32) (n := 31) (Or.inr (Or.inl ⟨rfl, rfl, rfl⟩)) h5.2
    refine Ev_aald hq_63 (show decode prog_4_method_2_code 132 = .ok (.aaload, 1) by decide +kernel) (SGn hS (by decide)) (Or.inr (SGk hS rfl)) (SGi hS rfl h5) r6.1 ?_
    refine Ev_iload hq_63 (show decode prog_4_method_2_code 133 = .ok (.iload 6, 2) by decide +kernel) rfl ?_
    obtain ⟨h7, k⟩ := k
    refine Ev_iald hq_63 (show decode prog_4_method_2_code 135 = .ok (.iaload, 1) by decide +kernel) r6.2.1 r6.2.2.1 (by rw [r6.2.2.2]; exact h7) ?_
    obtain ⟨h8, k⟩ := k
    refine Ev_iast hq_63 (show decode prog_4_method_2_code 136 = .ok (.iastore, 1) by decide +kernel) r4.2.1 r4.2.2.1 (by rw [r4.2.2.2]; exact h8) ?_
    obtain ⟨I9, eI9⟩ : ∃ I9 : zI, I9 = z_up I (32 + x7.toNatClampNeg) (x6 + 1).toNatClampNeg (I (32 + x7.toNatClampNeg) x6.toNatClampNeg) := ⟨_, rfl⟩
    have k := k I9 eI9
    rw [← eI9]
    refine Ev_aload_n hq_63 (show decode prog_4_method_2_code 137 = .ok (.aload_n 1, 1) by decide +kernel) rfl ?_
    refine Ev_getR hq_63 (show decode prog_4_method_2_code 138 = .ok (.getfield 48, 3) by decide +kernel) rfl (VB.lt ho (by omega)) ho.2.1 (by decide) rfl (ho.2.2 6 (by decide)).1 ?_
    refine Ev_iload hq_63 (show decode prog_4_method_2_code 141 = .ok (.iload 7, 2) by decide +kernel) rfl ?_
    obtain ⟨h10, k⟩ := k
    refine Ev_iald hq_63 (show decode prog_4_method_2_code 143 = .ok (.iaload, 1) by decide +kernel) (VB.lt ho (by omega)) (ho.2.2 6 (by decide)).2.1 (VB.inr ho (j := 6) (n := 4) (by decide) rfl h10) ?_
    refine Ev_iconst (v := 1) hq_63 (show decode prog_4_method_2_code 144 = .ok (.iconst 1, 1) by decide +kernel) (by decide) ?_
    refine Ev_icmp_ne (tgt := 170) hq_63 (show decode prog_4_method_2_code 145 = .ok (.if_icmp .ne 25, 3) by decide +kernel) (by decide) (fun c11 => ?_) (fun c11 => ?_)
    · have k := k.1 c11
      obtain ⟨y12, ey12⟩ : ∃ y12 : Int32, y12 = x7 + 1 := ⟨_, rfl⟩
      have k := k y12 ey12
      refine Ev_iinc (v := y12) (lo2 := [.ref 25, .ref o, .ref w, .int x3, .int x4, .int x5, .int x6, .int y12]) hq_63 (show decode prog_4_method_2_code 170 = .ok (.iinc 7 1, 3) by decide +kernel) rfl (by rw [ey12]; rfl) rfl ?_
      refine Ev_goto (tgt := 106) hq_63 (show decode prog_4_method_2_code 173 = .ok (.goto (-67), 3) by decide +kernel) (by decide) ?_
      exact k
    · have k := k.2 (Classical.not_not.mp c11)
      refine Ev_aload_n hq_63 (show decode prog_4_method_2_code 148 = .ok (.aload_n 0, 1) by decide +kernel) rfl ?_
      refine Ev_aload_n hq_63 (show decode prog_4_method_2_code 149 = .ok (.aload_n 1, 1) by decide +kernel) rfl ?_
      refine Ev_aload_n hq_63 (show decode prog_4_method_2_code 150 = .ok (.aload_n 2, 1) by decide +kernel) rfl ?_
      refine Ev_iload hq_63 (show decode prog_4_method_2_code 151 = .ok (.iload 6, 2) by decide +kernel) rfl ?_
      refine Ev_iload hq_63 (show decode prog_4_method_2_code 153 = .ok (.iload 7, 2) by decide +kernel) rfl ?_
      refine Ev_iload hq_63 (show decode prog_4_method_2_code 155 = .ok (.iload 7, 2) by decide +kernel) rfl ?_
      refine Ev_iload hq_63 (show decode prog_4_method_2_code 157 = .ok (.iload 4, 2) by decide +kernel) rfl ?_
      refine Ev_icmp_ne (tgt := 166) hq_63 (show decode prog_4_method_2_code 159 = .ok (.if_icmp .ne 7, 3) by decide +kernel) (by decide) (fun c13 => ?_) (fun c13 => ?_)
      · have k := k.1 c13
        refine Ev_iconst (v := 0) hq_63 (show decode prog_4_method_2_code 166 = .ok (.iconst 0, 1) by decide +kernel) (by decide) ?_
        obtain ⟨I14, h15, k⟩ := k
        refine Ev_virt (as := [.ref o, .ref w, .int x6, .int x7, .int 0]) hq_63 (show decode prog_4_method_2_code 167 = .ok (.invokevirtual 51, 3) by decide +kernel) rfl hq_67 rfl (z_le rfl) ⟨(SGn hS (by decide)), (SGk hS rfl), by decide⟩ h15 ?_
        obtain ⟨y16, ey16⟩ : ∃ y16 : Int32, y16 = x7 + 1 := ⟨_, rfl⟩
        have k := k y16 ey16
        refine Ev_iinc (v := y16) (lo2 := [.ref 25, .ref o, .ref w, .int x3, .int x4, .int x5, .int x6, .int y16]) hq_63 (show decode prog_4_method_2_code 170 = .ok (.iinc 7 1, 3) by decide +kernel) rfl (by rw [ey16]; rfl) rfl ?_
        refine Ev_goto (tgt := 106) hq_63 (show decode prog_4_method_2_code 173 = .ok (.goto (-67), 3) by decide +kernel) (by decide) ?_
        exact k
      · have k := k.2 (Classical.not_not.mp c13)
        refine Ev_iconst (v := 1) hq_63 (show decode prog_4_method_2_code 162 = .ok (.iconst 1, 1) by decide +kernel) (by decide) ?_
        refine Ev_goto (tgt := 167) hq_63 (show decode prog_4_method_2_code 163 = .ok (.goto 4, 3) by decide +kernel) (by decide) ?_
        obtain ⟨I17, h18, k⟩ := k
        refine Ev_virt (as := [.ref o, .ref w, .int x6, .int x7, .int 1]) hq_63 (show decode prog_4_method_2_code 167 = .ok (.invokevirtual 51, 3) by decide +kernel) rfl hq_67 rfl (z_le rfl) ⟨(SGn hS (by decide)), (SGk hS rfl), by decide⟩ h18 ?_
        obtain ⟨y19, ey19⟩ : ∃ y19 : Int32, y19 = x7 + 1 := ⟨_, rfl⟩
        have k := k y19 ey19
        refine Ev_iinc (v := y19) (lo2 := [.ref 25, .ref o, .ref w, .int x3, .int x4, .int x5, .int x6, .int y19]) hq_63 (show decode prog_4_method_2_code 170 = .ok (.iinc 7 1, 3) by decide +kernel) rfl (by rw [ey19]; rfl) rfl ?_
        refine Ev_goto (tgt := 106) hq_63 (show decode prog_4_method_2_code 173 = .ok (.goto (-67), 3) by decide +kernel) (by decide) ?_
        exact k
set_option maxRecDepth 20000 in
theorem wp_T_live {X : Nat × (Nat → Int32)} {d : Nat} {G : zG} {I : zI} {res : Option Value × zG × zI} (o : Nat) (hS : SG G) 
    (k : ∃ (w3 : Nat) (I1 : zI), Cv X d 48 [.ref 0, .ref o] G I (some (.ref w3), G, I1) ∧ (∃ (I4 : zI), Cv X d 63 [.ref 25, .ref o, .ref w3, .int 30, .int (-1)] G I1 (none, G, I4) ∧ (res = (none, G, I4)))) :
    Ev X (d + 1) 62 0 [.ref 0, .ref o] [] G I res := by
  refine Ev_aload_n hq_62 (show decode prog_1_method_23_code 0 = .ok (.aload_n 0, 1) by decide +kernel) rfl ?_
  refine Ev_getR hq_62 (show decode prog_1_method_23_code 1 = .ok (.getfield 29, 3) by decide +kernel) rfl (SGn hS (by decide)) (SGk hS rfl) (by decide) rfl (SGr hS rfl) ?_
  refine Ev_aload_n hq_62 (show decode prog_1_method_23_code 4 = .ok (.aload_n 1, 1) by decide +kernel) rfl ?_
  refine Ev_aload_n hq_62 (show decode prog_1_method_23_code 5 = .ok (.aload_n 0, 1) by decide +kernel) rfl ?_
  refine Ev_aload_n hq_62 (show decode prog_1_method_23_code 6 = .ok (.aload_n 1, 1) by decide +kernel) rfl ?_
  obtain ⟨w3, I1, h2, k⟩ := k
  refine Ev_virt (as := [.ref o]) hq_62 (show decode prog_1_method_23_code 7 = .ok (.invokevirtual 130, 3) by decide +kernel) rfl hq_48 rfl (z_le rfl) ⟨(SGn hS (by decide)), (SGk hS rfl), by decide⟩ h2 ?_
  refine Ev_bipush (v := 30) hq_62 (show decode prog_1_method_23_code 10 = .ok (.bipush 30, 2) by decide +kernel) (by decide) ?_
  refine Ev_iconst (v := (-1)) hq_62 (show decode prog_1_method_23_code 12 = .ok (.iconst (-1), 1) by decide +kernel) (by decide) ?_
  obtain ⟨I4, h5, k⟩ := k
  refine Ev_virt (as := [.ref o, .ref w3, .int 30, .int (-1)]) hq_62 (show decode prog_1_method_23_code 13 = .ok (.invokevirtual 181, 3) by decide +kernel) rfl hq_63 rfl (z_le rfl) ⟨(SGn hS (by decide)), (SGk hS rfl), by decide⟩ h5 ?_
  exact Ev_vret hq_62 (show decode prog_1_method_23_code 16 = .ok (.return_, 1) by decide +kernel) k
set_option maxRecDepth 20000 in
theorem wp_T_at {X : Nat × (Nat → Int32)} {d : Nat} {G : zG} {I : zI} {res : Option Value × zG × zI} (x1 : Int32) (x2 : Int32) (x3 : Int32) (hd : 1 ≤ d) (hS : SG G) 
    (k : (¬ (f_T_isShower I x1) = 0 → ((f_T_isBeat x2) = 0 → res = (some (.int (-200000)), G, I)) ∧ (¬ (f_T_isBeat x2) = 0 → (¬ (f_T_within x3 0 2) = 0 → ∃ (I4 : zI), Cv X d 62 [.ref 0, .ref 1] G I (none, G, I4) ∧ ((x3 = 0 → z_inr x1 4 ∧ (z_inr x2 30 ∧ (res = (some (.int (I4 (27 + x1.toNatClampNeg) x2.toNatClampNeg)), G, I4)))) ∧ (¬ x3 = 0 → (x3 = 1 → z_inr x1 4 ∧ (z_inr (x2 + 1) 31 ∧ (res = (some (.int (I4 (32 + x1.toNatClampNeg) (x2 + 1).toNatClampNeg)), G, I4)))) ∧ (¬ x3 = 1 → z_inr x1 4 ∧ (z_inr x1 4 ∧ (z_inr x2 30 ∧ (res = (some (.int ((I4 5 x1.toNatClampNeg) - (I4 (27 + x1.toNatClampNeg) x2.toNatClampNeg))), G, I4)))))))) ∧ ((f_T_within x3 0 2) = 0 → res = (some (.int (-200000)), G, I)))) ∧ ((f_T_isShower I x1) = 0 → res = (some (.int (-100000)), G, I))) :
    Ev X (d + 1) 61 0 [.ref 0, .int x1, .int x2, .int x3] [] G I res := by
  refine Ev_aload_n hq_61 (show decode prog_1_method_25_code 0 = .ok (.aload_n 0, 1) by decide +kernel) rfl ?_
  refine Ev_iload_n hq_61 (show decode prog_1_method_25_code 1 = .ok (.iload_n 1, 1) by decide +kernel) rfl ?_
  refine Ev_virt (as := [.int x1]) hq_61 (show decode prog_1_method_25_code 2 = .ok (.invokevirtual 120, 3) by decide +kernel) rfl hq_45 rfl (z_le rfl) ⟨(SGn hS (by decide)), (SGk hS rfl), by decide⟩ (c_T_isShower (by omega) hS x1) ?_
  refine Ev_if_ne (tgt := 11) hq_61 (show decode prog_1_method_25_code 5 = .ok (.ifCond .ne 6, 3) by decide +kernel) (by decide) (fun c1 => ?_) (fun c1 => ?_)
  · have k := k.1 c1
    refine Ev_iload_n hq_61 (show decode prog_1_method_25_code 11 = .ok (.iload_n 2, 1) by decide +kernel) rfl ?_
    refine Ev_stat (as := [.int x2]) hq_61 (show decode prog_1_method_25_code 12 = .ok (.invokestatic 127, 3) by decide +kernel) rfl (Or.inl rfl) hq_47 rfl (z_le rfl) (c_T_isBeat (by omega) x2) ?_
    refine Ev_if_eq (tgt := 27) hq_61 (show decode prog_1_method_25_code 15 = .ok (.ifCond .eq 12, 3) by decide +kernel) (by decide) (fun c2 => ?_) (fun c2 => ?_)
    · have k := k.1 c2
      refine Ev_ldc (v := (-200000)) hq_61 (show decode prog_1_method_25_code 27 = .ok (.ldc 186, 2) by decide +kernel) rfl ?_
      exact Ev_iret hq_61 (show decode prog_1_method_25_code 29 = .ok (.ireturn, 1) by decide +kernel) rfl k
    · have k := k.2 c2
      refine Ev_iload_n hq_61 (show decode prog_1_method_25_code 18 = .ok (.iload_n 3, 1) by decide +kernel) rfl ?_
      refine Ev_iconst (v := 0) hq_61 (show decode prog_1_method_25_code 19 = .ok (.iconst 0, 1) by decide +kernel) (by decide) ?_
      refine Ev_iconst (v := 2) hq_61 (show decode prog_1_method_25_code 20 = .ok (.iconst 2, 1) by decide +kernel) (by decide) ?_
      refine Ev_stat (as := [.int x3, .int 0, .int 2]) hq_61 (show decode prog_1_method_25_code 21 = .ok (.invokestatic 108, 3) by decide +kernel) rfl (Or.inl rfl) hq_32 rfl (z_le rfl) (c_T_within x3 0 2) ?_
      refine Ev_if_ne (tgt := 30) hq_61 (show decode prog_1_method_25_code 24 = .ok (.ifCond .ne 6, 3) by decide +kernel) (by decide) (fun c3 => ?_) (fun c3 => ?_)
      · have k := k.1 c3
        refine Ev_aload_n hq_61 (show decode prog_1_method_25_code 30 = .ok (.aload_n 0, 1) by decide +kernel) rfl ?_
        refine Ev_aload_n hq_61 (show decode prog_1_method_25_code 31 = .ok (.aload_n 0, 1) by decide +kernel) rfl ?_
        refine Ev_getR hq_61 (show decode prog_1_method_25_code 32 = .ok (.getfield 10, 3) by decide +kernel) rfl (SGn hS (by decide)) (SGk hS rfl) (by decide) rfl (SGr hS rfl) ?_
        obtain ⟨I4, h5, k⟩ := k
        refine Ev_virt (as := [.ref 1]) hq_61 (show decode prog_1_method_25_code 35 = .ok (.invokevirtual 187, 3) by decide +kernel) rfl hq_62 rfl (z_le rfl) ⟨(SGn hS (by decide)), (SGk hS rfl), by decide⟩ h5 ?_
        refine Ev_iload_n hq_61 (show decode prog_1_method_25_code 38 = .ok (.iload_n 3, 1) by decide +kernel) rfl ?_
        by_cases c6 : x3 = 0
        · have k := k.1 c6
          refine Ev_lookup (off := 25) (tgt := 64) hq_61 (show decode prog_1_method_25_code 39 = .ok (.lookupswitch 51 #[(0, 25), (1, 37)], 25) by decide +kernel) (by decide) (by rw [c6]; decide) (by decide) ?_
          refine Ev_aload_n hq_61 (show decode prog_1_method_25_code 64 = .ok (.aload_n 0, 1) by decide +kernel) rfl ?_
          refine Ev_getR hq_61 (show decode prog_1_method_25_code 65 = .ok (.getfield 29, 3) by decide +kernel) rfl (SGn hS (by decide)) (SGk hS rfl) (by decide) rfl (SGr hS rfl) ?_
          refine Ev_getR hq_61 (show decode prog_1_method_25_code 68 = .ok (.getfield 191, 3) by decide +kernel) rfl (SGn hS (by decide)) (SGk hS rfl) (by decide) rfl (SGr hS rfl) ?_
          refine Ev_iload_n hq_61 (show decode prog_1_method_25_code 71 = .ok (.iload_n 1, 1) by decide +kernel) rfl ?_
          obtain ⟨h7, k⟩ := k
          have r8 := SGrow hS (a := 26) (b := 27) (n := 30) (Or.inl ⟨rfl, rfl, rfl⟩) h7.2
          refine Ev_aald hq_61 (show decode prog_1_method_25_code 72 = .ok (.aaload, 1) by decide +kernel) (SGn hS (by decide)) (Or.inr (SGk hS rfl)) (SGi hS rfl h7) r8.1 ?_
          refine Ev_iload_n hq_61 (show decode prog_1_method_25_code 73 = .ok (.iload_n 2, 1) by decide +kernel) rfl ?_
          obtain ⟨h9, k⟩ := k
          refine Ev_iald hq_61 (show decode prog_1_method_25_code 74 = .ok (.iaload, 1) by decide +kernel) r8.2.1 r8.2.2.1 (by rw [r8.2.2.2]; exact h9) ?_
          exact Ev_iret hq_61 (show decode prog_1_method_25_code 75 = .ok (.ireturn, 1) by decide +kernel) rfl k
        have k := k.2 c6
        by_cases c10 : x3 = 1
        · have k := k.1 c10
          refine Ev_lookup (off := 37) (tgt := 76) hq_61 (show decode prog_1_method_25_code 39 = .ok (.lookupswitch 51 #[(0, 25), (1, 37)], 25) by decide +kernel) (by decide) (by rw [c10]; decide) (by decide) ?_
          refine Ev_aload_n hq_61 (show decode prog_1_method_25_code 76 = .ok (.aload_n 0, 1) by decide +kernel) rfl ?_
          refine Ev_getR hq_61 (show decode prog_1_method_25_code 77 = .ok (.getfield 29, 3) by decide +kernel) rfl (SGn hS (by decide)) (SGk hS rfl) (by decide) rfl (SGr hS rfl) ?_
          refine Ev_getR hq_61 (show decode prog_1_method_25_code 80 = .ok (.getfield 194, 3) by decide +kernel) rfl (SGn hS (by decide)) (SGk hS rfl) (by decide) rfl (SGr hS rfl) ?_
          refine Ev_iload_n hq_61 (show decode prog_1_method_25_code 83 = .ok (.iload_n 1, 1) by decide +kernel) rfl ?_
          obtain ⟨h11, k⟩ := k
          have r12 := SGrow hS (a := 31) (b := 32) (n := 31) (Or.inr (Or.inl ⟨rfl, rfl, rfl⟩)) h11.2
          refine Ev_aald hq_61 (show decode prog_1_method_25_code 84 = .ok (.aaload, 1) by decide +kernel) (SGn hS (by decide)) (Or.inr (SGk hS rfl)) (SGi hS rfl h11) r12.1 ?_
          refine Ev_iload_n hq_61 (show decode prog_1_method_25_code 85 = .ok (.iload_n 2, 1) by decide +kernel) rfl ?_
          refine Ev_iconst (v := 1) hq_61 (show decode prog_1_method_25_code 86 = .ok (.iconst 1, 1) by decide +kernel) (by decide) ?_
          refine Ev_iadd hq_61 (show decode prog_1_method_25_code 87 = .ok (.iadd, 1) by decide +kernel) ?_
          obtain ⟨h13, k⟩ := k
          refine Ev_iald hq_61 (show decode prog_1_method_25_code 88 = .ok (.iaload, 1) by decide +kernel) r12.2.1 r12.2.2.1 (by rw [r12.2.2.2]; exact h13) ?_
          exact Ev_iret hq_61 (show decode prog_1_method_25_code 89 = .ok (.ireturn, 1) by decide +kernel) rfl k
        have k := k.2 c10
        have ec6 : (x3).toInt ≠ 0 := z_ne (k := 0) c6
        have ec10 : (x3).toInt ≠ 1 := z_ne (k := 1) c10
        refine Ev_lookup (off := 51) (tgt := 90) hq_61 (show decode prog_1_method_25_code 39 = .ok (.lookupswitch 51 #[(0, 25), (1, 37)], 25) by decide +kernel) (by decide) (by simp [Op.lookupswitch.offset, List.find?, ec6, ec10, Ne.symm ec6, Ne.symm ec10]) (by decide) ?_
        refine Ev_aload_n hq_61 (show decode prog_1_method_25_code 90 = .ok (.aload_n 0, 1) by decide +kernel) rfl ?_
        refine Ev_getR hq_61 (show decode prog_1_method_25_code 91 = .ok (.getfield 10, 3) by decide +kernel) rfl (SGn hS (by decide)) (SGk hS rfl) (by decide) rfl (SGr hS rfl) ?_
        refine Ev_getR hq_61 (show decode prog_1_method_25_code 94 = .ok (.getfield 197, 3) by decide +kernel) rfl (SGn hS (by decide)) (SGk hS rfl) (by decide) rfl (SGr hS rfl) ?_
        refine Ev_iload_n hq_61 (show decode prog_1_method_25_code 97 = .ok (.iload_n 1, 1) by decide +kernel) rfl ?_
        obtain ⟨h14, k⟩ := k
        refine Ev_iald hq_61 (show decode prog_1_method_25_code 98 = .ok (.iaload, 1) by decide +kernel) (SGn hS (by decide)) (SGk hS rfl) (SGi hS rfl h14) ?_
        refine Ev_aload_n hq_61 (show decode prog_1_method_25_code 99 = .ok (.aload_n 0, 1) by decide +kernel) rfl ?_
        refine Ev_getR hq_61 (show decode prog_1_method_25_code 100 = .ok (.getfield 29, 3) by decide +kernel) rfl (SGn hS (by decide)) (SGk hS rfl) (by decide) rfl (SGr hS rfl) ?_
        refine Ev_getR hq_61 (show decode prog_1_method_25_code 103 = .ok (.getfield 191, 3) by decide +kernel) rfl (SGn hS (by decide)) (SGk hS rfl) (by decide) rfl (SGr hS rfl) ?_
        refine Ev_iload_n hq_61 (show decode prog_1_method_25_code 106 = .ok (.iload_n 1, 1) by decide +kernel) rfl ?_
        obtain ⟨h15, k⟩ := k
        have r16 := SGrow hS (a := 26) (b := 27) (n := 30) (Or.inl ⟨rfl, rfl, rfl⟩) h15.2
        refine Ev_aald hq_61 (show decode prog_1_method_25_code 107 = .ok (.aaload, 1) by decide +kernel) (SGn hS (by decide)) (Or.inr (SGk hS rfl)) (SGi hS rfl h15) r16.1 ?_
        refine Ev_iload_n hq_61 (show decode prog_1_method_25_code 108 = .ok (.iload_n 2, 1) by decide +kernel) rfl ?_
        obtain ⟨h17, k⟩ := k
        refine Ev_iald hq_61 (show decode prog_1_method_25_code 109 = .ok (.iaload, 1) by decide +kernel) r16.2.1 r16.2.2.1 (by rw [r16.2.2.2]; exact h17) ?_
        refine Ev_isub hq_61 (show decode prog_1_method_25_code 110 = .ok (.isub, 1) by decide +kernel) ?_
        exact Ev_iret hq_61 (show decode prog_1_method_25_code 111 = .ok (.ireturn, 1) by decide +kernel) rfl k
      · have k := k.2 (Classical.not_not.mp c3)
        refine Ev_ldc (v := (-200000)) hq_61 (show decode prog_1_method_25_code 27 = .ok (.ldc 186, 2) by decide +kernel) rfl ?_
        exact Ev_iret hq_61 (show decode prog_1_method_25_code 29 = .ok (.ireturn, 1) by decide +kernel) rfl k
  · have k := k.2 (Classical.not_not.mp c1)
    refine Ev_ldc (v := (-100000)) hq_61 (show decode prog_1_method_25_code 8 = .ok (.ldc 185, 2) by decide +kernel) rfl ?_
    exact Ev_iret hq_61 (show decode prog_1_method_25_code 10 = .ok (.ireturn, 1) by decide +kernel) rfl k
set_option maxRecDepth 20000 in
theorem wp_M_mostFelt {X : Nat × (Nat → Int32)} {d : Nat} {G : zG} {I : zI} {res : Option Value × zG × zI} (x1 : Int32) (x2 : Int32) 
    (k : ∀ y1 : Int32, y1 = (if 0 < x2 then x2 else 0) → Ev X (d + 1) 70 9 [.ref 25, .int x1, .int x2, .int 0, .int y1] [] G I res) :
    Ev X (d + 1) 70 0 [.ref 25, .int x1, .int x2, zU, zU] [] G I res := by
  refine Ev_iconst (v := 0) hq_70 (show decode prog_4_method_6_code 0 = .ok (.iconst 0, 1) by decide +kernel) (by decide) ?_
  refine Ev_istore_n (lo2 := [.ref 25, .int x1, .int x2, .int 0, zU]) hq_70 (show decode prog_4_method_6_code 1 = .ok (.istore_n 3, 1) by decide +kernel) (z_le rfl) rfl ?_
  refine Ev_iconst (v := 0) hq_70 (show decode prog_4_method_6_code 2 = .ok (.iconst 0, 1) by decide +kernel) (by decide) ?_
  refine Ev_iload_n hq_70 (show decode prog_4_method_6_code 3 = .ok (.iload_n 2, 1) by decide +kernel) rfl ?_
  refine Ev_max hq_70 (show decode prog_4_method_6_code 4 = .ok (.invokestatic 58, 3) by decide +kernel) rfl (z_le rfl) ?_
  obtain ⟨y1, ey1⟩ : ∃ y1 : Int32, y1 = (if 0 < x2 then x2 else 0) := ⟨_, rfl⟩
  have k := k y1 ey1
  rw [← ey1]
  refine Ev_istore (lo2 := [.ref 25, .int x1, .int x2, .int 0, .int y1]) hq_70 (show decode prog_4_method_6_code 7 = .ok (.istore 4, 2) by decide +kernel) (z_le rfl) rfl ?_
  exact k
set_option maxRecDepth 20000 in
theorem wp_M_mostFelt_9 {X : Nat × (Nat → Int32)} {d : Nat} {G : zG} {I : zI} {res : Option Value × zG × zI} (x1 : Int32) (x2 : Int32) (x3 : Int32) (x4 : Int32) (hS : SG G) 
    (k : (30 ≤ x4 → res = (some (.int x3), G, I)) ∧ (¬ 30 ≤ x4 → z_inr x1 4 ∧ (z_inr x4 30 ∧ (∀ y5 : Int32, y5 = (if x3 < (I (27 + x1.toNatClampNeg) x4.toNatClampNeg) then (I (27 + x1.toNatClampNeg) x4.toNatClampNeg) else x3) → ∀ y6 : Int32, y6 = x4 + 1 → Ev X (d + 1) 70 9 [.ref 25, .int x1, .int x2, .int y5, .int y6] [] G I res)))) :
    Ev X (d + 1) 70 9 [.ref 25, .int x1, .int x2, .int x3, .int x4] [] G I res := by
  refine Ev_iload hq_70 (show decode prog_4_method_6_code 9 = .ok (.iload 4, 2) by decide +kernel) rfl ?_
  refine Ev_bipush (v := 30) hq_70 (show decode prog_4_method_6_code 11 = .ok (.bipush 30, 2) by decide +kernel) (by decide) ?_
  refine Ev_icmp_ge (tgt := 36) hq_70 (show decode prog_4_method_6_code 13 = .ok (.if_icmp .ge 23, 3) by decide +kernel) (by decide) (fun c1 => ?_) (fun c1 => ?_)
  · have k := k.1 c1
    refine Ev_iload_n hq_70 (show decode prog_4_method_6_code 36 = .ok (.iload_n 3, 1) by decide +kernel) rfl ?_
    exact Ev_iret hq_70 (show decode prog_4_method_6_code 37 = .ok (.ireturn, 1) by decide +kernel) rfl k
  · have k := k.2 c1
    refine Ev_iload_n hq_70 (show decode prog_4_method_6_code 16 = .ok (.iload_n 3, 1) by decide +kernel) rfl ?_
    refine Ev_aload_n hq_70 (show decode prog_4_method_6_code 17 = .ok (.aload_n 0, 1) by decide +kernel) rfl ?_
    refine Ev_getR hq_70 (show decode prog_4_method_6_code 18 = .ok (.getfield 11, 3) by decide +kernel) rfl (SGn hS (by decide)) (SGk hS rfl) (by decide) rfl (SGr hS rfl) ?_
    refine Ev_iload_n hq_70 (show decode prog_4_method_6_code 21 = .ok (.iload_n 1, 1) by decide +kernel) rfl ?_
    obtain ⟨h2, k⟩ := k
    have r3 := SGrow hS (a := 26) (b := 27) (n := 30) (Or.inl ⟨rfl, rfl, rfl⟩) h2.2
    refine Ev_aald hq_70 (show decode prog_4_method_6_code 22 = .ok (.aaload, 1) by decide +kernel) (SGn hS (by decide)) (Or.inr (SGk hS rfl)) (SGi hS rfl h2) r3.1 ?_
    refine Ev_iload hq_70 (show decode prog_4_method_6_code 23 = .ok (.iload 4, 2) by decide +kernel) rfl ?_
    obtain ⟨h4, k⟩ := k
    refine Ev_iald hq_70 (show decode prog_4_method_6_code 25 = .ok (.iaload, 1) by decide +kernel) r3.2.1 r3.2.2.1 (by rw [r3.2.2.2]; exact h4) ?_
    refine Ev_max hq_70 (show decode prog_4_method_6_code 26 = .ok (.invokestatic 58, 3) by decide +kernel) rfl (z_le rfl) ?_
    obtain ⟨y5, ey5⟩ : ∃ y5 : Int32, y5 = (if x3 < (I (27 + x1.toNatClampNeg) x4.toNatClampNeg) then (I (27 + x1.toNatClampNeg) x4.toNatClampNeg) else x3) := ⟨_, rfl⟩
    have k := k y5 ey5
    rw [← ey5]
    refine Ev_istore_n (lo2 := [.ref 25, .int x1, .int x2, .int y5, .int x4]) hq_70 (show decode prog_4_method_6_code 29 = .ok (.istore_n 3, 1) by decide +kernel) (z_le rfl) rfl ?_
    obtain ⟨y6, ey6⟩ : ∃ y6 : Int32, y6 = x4 + 1 := ⟨_, rfl⟩
    have k := k y6 ey6
    refine Ev_iinc (v := y6) (lo2 := [.ref 25, .int x1, .int x2, .int y5, .int y6]) hq_70 (show decode prog_4_method_6_code 30 = .ok (.iinc 4 1, 3) by decide +kernel) rfl (by rw [ey6]; rfl) rfl ?_
    refine Ev_goto (tgt := 9) hq_70 (show decode prog_4_method_6_code 33 = .ok (.goto (-24), 3) by decide +kernel) (by decide) ?_
    exact k
set_option maxRecDepth 20000 in
theorem wp_T_day {X : Nat × (Nat → Int32)} {d : Nat} {G : zG} {I : zI} {res : Option Value × zG × zI} (x1 : Int32) (x2 : Int32) (hd : 1 ≤ d) (hS : SG G) 
    (k : (¬ (f_T_isShower I x1) = 0 → (¬ (f_T_within x2 0 3) = 0 → ∃ (I3 : zI), Cv X d 62 [.ref 0, .ref 1] G I (none, G, I3) ∧ ((x2 = 0 → z_inr x1 4 ∧ (res = (some (.int (I3 36 x1.toNatClampNeg)), G, I3))) ∧ (¬ x2 = 0 → (x2 = 1 → z_inr x1 4 ∧ (res = (some (.int (I3 37 x1.toNatClampNeg)), G, I3))) ∧ (¬ x2 = 1 → (x2 = 2 → z_inr x1 4 ∧ (res = (some (.int (I3 38 x1.toNatClampNeg)), G, I3))) ∧ (¬ x2 = 2 → ∃ (r13 : Int32) (I11 : zI), Cv X d 70 [.ref 25, .int x1, .int 0] G I3 (some (.int r13), G, I11) ∧ (res = (some (.int r13), G, I11))))))) ∧ ((f_T_within x2 0 3) = 0 → res = (some (.int (-7)), G, I))) ∧ ((f_T_isShower I x1) = 0 → res = (some (.int (-5)), G, I))) :
    Ev X (d + 1) 69 0 [.ref 0, .int x1, .int x2] [] G I res := by
  refine Ev_aload_n hq_69 (show decode prog_1_method_26_code 0 = .ok (.aload_n 0, 1) by decide +kernel) rfl ?_
  refine Ev_iload_n hq_69 (show decode prog_1_method_26_code 1 = .ok (.iload_n 1, 1) by decide +kernel) rfl ?_
  refine Ev_virt (as := [.int x1]) hq_69 (show decode prog_1_method_26_code 2 = .ok (.invokevirtual 120, 3) by decide +kernel) rfl hq_45 rfl (z_le rfl) ⟨(SGn hS (by decide)), (SGk hS rfl), by decide⟩ (c_T_isShower (by omega) hS x1) ?_
  refine Ev_if_ne (tgt := 11) hq_69 (show decode prog_1_method_26_code 5 = .ok (.ifCond .ne 6, 3) by decide +kernel) (by decide) (fun c1 => ?_) (fun c1 => ?_)
  · have k := k.1 c1
    refine Ev_iload_n hq_69 (show decode prog_1_method_26_code 11 = .ok (.iload_n 2, 1) by decide +kernel) rfl ?_
    refine Ev_iconst (v := 0) hq_69 (show decode prog_1_method_26_code 12 = .ok (.iconst 0, 1) by decide +kernel) (by decide) ?_
    refine Ev_iconst (v := 3) hq_69 (show decode prog_1_method_26_code 13 = .ok (.iconst 3, 1) by decide +kernel) (by decide) ?_
    refine Ev_stat (as := [.int x2, .int 0, .int 3]) hq_69 (show decode prog_1_method_26_code 14 = .ok (.invokestatic 108, 3) by decide +kernel) rfl (Or.inl rfl) hq_32 rfl (z_le rfl) (c_T_within x2 0 3) ?_
    refine Ev_if_ne (tgt := 23) hq_69 (show decode prog_1_method_26_code 17 = .ok (.ifCond .ne 6, 3) by decide +kernel) (by decide) (fun c2 => ?_) (fun c2 => ?_)
    · have k := k.1 c2
      refine Ev_aload_n hq_69 (show decode prog_1_method_26_code 23 = .ok (.aload_n 0, 1) by decide +kernel) rfl ?_
      refine Ev_aload_n hq_69 (show decode prog_1_method_26_code 24 = .ok (.aload_n 0, 1) by decide +kernel) rfl ?_
      refine Ev_getR hq_69 (show decode prog_1_method_26_code 25 = .ok (.getfield 10, 3) by decide +kernel) rfl (SGn hS (by decide)) (SGk hS rfl) (by decide) rfl (SGr hS rfl) ?_
      obtain ⟨I3, h4, k⟩ := k
      refine Ev_virt (as := [.ref 1]) hq_69 (show decode prog_1_method_26_code 28 = .ok (.invokevirtual 187, 3) by decide +kernel) rfl hq_62 rfl (z_le rfl) ⟨(SGn hS (by decide)), (SGk hS rfl), by decide⟩ h4 ?_
      refine Ev_iload_n hq_69 (show decode prog_1_method_26_code 31 = .ok (.iload_n 2, 1) by decide +kernel) rfl ?_
      by_cases c5 : x2 = 0
      · have k := k.1 c5
        refine Ev_tableIn (off := 28) (tgt := 60) hq_69 (show decode prog_1_method_26_code 32 = .ok (.tableswitch 58 0 2 #[28, 38, 48], 28) by decide +kernel) (by rw [c5]; decide) (by rw [c5]; decide) (by rw [c5]; decide) (by decide) ?_
        refine Ev_aload_n hq_69 (show decode prog_1_method_26_code 60 = .ok (.aload_n 0, 1) by decide +kernel) rfl ?_
        refine Ev_getR hq_69 (show decode prog_1_method_26_code 61 = .ok (.getfield 29, 3) by decide +kernel) rfl (SGn hS (by decide)) (SGk hS rfl) (by decide) rfl (SGr hS rfl) ?_
        refine Ev_getR hq_69 (show decode prog_1_method_26_code 64 = .ok (.getfield 200, 3) by decide +kernel) rfl (SGn hS (by decide)) (SGk hS rfl) (by decide) rfl (SGr hS rfl) ?_
        refine Ev_iload_n hq_69 (show decode prog_1_method_26_code 67 = .ok (.iload_n 1, 1) by decide +kernel) rfl ?_
        obtain ⟨h6, k⟩ := k
        refine Ev_iald hq_69 (show decode prog_1_method_26_code 68 = .ok (.iaload, 1) by decide +kernel) (SGn hS (by decide)) (SGk hS rfl) (SGi hS rfl h6) ?_
        exact Ev_iret hq_69 (show decode prog_1_method_26_code 69 = .ok (.ireturn, 1) by decide +kernel) rfl k
      have k := k.2 c5
      by_cases c7 : x2 = 1
      · have k := k.1 c7
        refine Ev_tableIn (off := 38) (tgt := 70) hq_69 (show decode prog_1_method_26_code 32 = .ok (.tableswitch 58 0 2 #[28, 38, 48], 28) by decide +kernel) (by rw [c7]; decide) (by rw [c7]; decide) (by rw [c7]; decide) (by decide) ?_
        refine Ev_aload_n hq_69 (show decode prog_1_method_26_code 70 = .ok (.aload_n 0, 1) by decide +kernel) rfl ?_
        refine Ev_getR hq_69 (show decode prog_1_method_26_code 71 = .ok (.getfield 29, 3) by decide +kernel) rfl (SGn hS (by decide)) (SGk hS rfl) (by decide) rfl (SGr hS rfl) ?_
        refine Ev_getR hq_69 (show decode prog_1_method_26_code 74 = .ok (.getfield 203, 3) by decide +kernel) rfl (SGn hS (by decide)) (SGk hS rfl) (by decide) rfl (SGr hS rfl) ?_
        refine Ev_iload_n hq_69 (show decode prog_1_method_26_code 77 = .ok (.iload_n 1, 1) by decide +kernel) rfl ?_
        obtain ⟨h8, k⟩ := k
        refine Ev_iald hq_69 (show decode prog_1_method_26_code 78 = .ok (.iaload, 1) by decide +kernel) (SGn hS (by decide)) (SGk hS rfl) (SGi hS rfl h8) ?_
        exact Ev_iret hq_69 (show decode prog_1_method_26_code 79 = .ok (.ireturn, 1) by decide +kernel) rfl k
      have k := k.2 c7
      by_cases c9 : x2 = 2
      · have k := k.1 c9
        refine Ev_tableIn (off := 48) (tgt := 80) hq_69 (show decode prog_1_method_26_code 32 = .ok (.tableswitch 58 0 2 #[28, 38, 48], 28) by decide +kernel) (by rw [c9]; decide) (by rw [c9]; decide) (by rw [c9]; decide) (by decide) ?_
        refine Ev_aload_n hq_69 (show decode prog_1_method_26_code 80 = .ok (.aload_n 0, 1) by decide +kernel) rfl ?_
        refine Ev_getR hq_69 (show decode prog_1_method_26_code 81 = .ok (.getfield 29, 3) by decide +kernel) rfl (SGn hS (by decide)) (SGk hS rfl) (by decide) rfl (SGr hS rfl) ?_
        refine Ev_getR hq_69 (show decode prog_1_method_26_code 84 = .ok (.getfield 206, 3) by decide +kernel) rfl (SGn hS (by decide)) (SGk hS rfl) (by decide) rfl (SGr hS rfl) ?_
        refine Ev_iload_n hq_69 (show decode prog_1_method_26_code 87 = .ok (.iload_n 1, 1) by decide +kernel) rfl ?_
        obtain ⟨h10, k⟩ := k
        refine Ev_iald hq_69 (show decode prog_1_method_26_code 88 = .ok (.iaload, 1) by decide +kernel) (SGn hS (by decide)) (SGk hS rfl) (SGi hS rfl h10) ?_
        exact Ev_iret hq_69 (show decode prog_1_method_26_code 89 = .ok (.ireturn, 1) by decide +kernel) rfl k
      have k := k.2 c9
      have ec5 : (x2).toInt ≠ 0 := z_ne (k := 0) c5
      have ec7 : (x2).toInt ≠ 1 := z_ne (k := 1) c7
      have ec9 : (x2).toInt ≠ 2 := z_ne (k := 2) c9
      refine Ev_tableOut (tgt := 90) hq_69 (show decode prog_1_method_26_code 32 = .ok (.tableswitch 58 0 2 #[28, 38, 48], 28) by decide +kernel) (by omega) (by decide) ?_
      refine Ev_aload_n hq_69 (show decode prog_1_method_26_code 90 = .ok (.aload_n 0, 1) by decide +kernel) rfl ?_
      refine Ev_getR hq_69 (show decode prog_1_method_26_code 91 = .ok (.getfield 29, 3) by decide +kernel) rfl (SGn hS (by decide)) (SGk hS rfl) (by decide) rfl (SGr hS rfl) ?_
      refine Ev_iload_n hq_69 (show decode prog_1_method_26_code 94 = .ok (.iload_n 1, 1) by decide +kernel) rfl ?_
      refine Ev_iconst (v := 0) hq_69 (show decode prog_1_method_26_code 95 = .ok (.iconst 0, 1) by decide +kernel) (by decide) ?_
      obtain ⟨r13, I11, h12, k⟩ := k
      refine Ev_virt (as := [.int x1, .int 0]) hq_69 (show decode prog_1_method_26_code 96 = .ok (.invokevirtual 209, 3) by decide +kernel) rfl hq_70 rfl (z_le rfl) ⟨(SGn hS (by decide)), (SGk hS rfl), by decide⟩ h12 ?_
      exact Ev_iret hq_69 (show decode prog_1_method_26_code 99 = .ok (.ireturn, 1) by decide +kernel) rfl k
    · have k := k.2 (Classical.not_not.mp c2)
      refine Ev_bipush (v := (-7)) hq_69 (show decode prog_1_method_26_code 20 = .ok (.bipush (-7), 2) by decide +kernel) (by decide) ?_
      exact Ev_iret hq_69 (show decode prog_1_method_26_code 22 = .ok (.ireturn, 1) by decide +kernel) rfl k
  · have k := k.2 (Classical.not_not.mp c1)
    refine Ev_bipush (v := (-5)) hq_69 (show decode prog_1_method_26_code 8 = .ok (.bipush (-5), 2) by decide +kernel) (by decide) ?_
    exact Ev_iret hq_69 (show decode prog_1_method_26_code 10 = .ok (.ireturn, 1) by decide +kernel) rfl k
set_option maxRecDepth 20000 in
theorem wp_M_restsFrom {X : Nat × (Nat → Int32)} {d : Nat} {G : zG} {I : zI} {res : Option Value × zG × zI} (x1 : Int32) (x2 : Int32) (x3 : Int32) 
    (k : Ev X d 72 8 [.ref 25, .int x1, .int x2, .int x3, .int 30, .int 29] [] G I res) :
    Ev X d 72 0 [.ref 25, .int x1, .int x2, .int x3, zU, zU] [] G I res := by
  refine Ev_bipush (v := 30) hq_72 (show decode prog_4_method_8_code 0 = .ok (.bipush 30, 2) by decide +kernel) (by decide) ?_
  refine Ev_istore (lo2 := [.ref 25, .int x1, .int x2, .int x3, .int 30, zU]) hq_72 (show decode prog_4_method_8_code 2 = .ok (.istore 4, 2) by decide +kernel) (z_le rfl) rfl ?_
  refine Ev_bipush (v := 29) hq_72 (show decode prog_4_method_8_code 4 = .ok (.bipush 29, 2) by decide +kernel) (by decide) ?_
  refine Ev_istore (lo2 := [.ref 25, .int x1, .int x2, .int x3, .int 30, .int 29]) hq_72 (show decode prog_4_method_8_code 6 = .ok (.istore 5, 2) by decide +kernel) (z_le rfl) rfl ?_
  exact k
set_option maxRecDepth 20000 in
theorem wp_M_restsFrom_8 {X : Nat × (Nat → Int32)} {d : Nat} {G : zG} {I : zI} {res : Option Value × zG × zI} (x1 : Int32) (x2 : Int32) (x3 : Int32) (x4 : Int32) (x5 : Int32) (hS : SG G) 
    (k : (x5 < 0 → (30 ≤ x4 → res = (some (.int (-1)), G, I)) ∧ (¬ 30 ≤ x4 → res = (some (.int x4), G, I))) ∧ (¬ x5 < 0 → z_inr x1 4 ∧ (z_inr x5 30 ∧ ((x3 < (if 0 ≤ (x2 - (I (27 + x1.toNatClampNeg) x5.toNatClampNeg)) then (x2 - (I (27 + x1.toNatClampNeg) x5.toNatClampNeg)) else 0 - (x2 - (I (27 + x1.toNatClampNeg) x5.toNatClampNeg))) → (30 ≤ x4 → res = (some (.int (-1)), G, I)) ∧ (¬ 30 ≤ x4 → res = (some (.int x4), G, I))) ∧ (¬ x3 < (if 0 ≤ (x2 - (I (27 + x1.toNatClampNeg) x5.toNatClampNeg)) then (x2 - (I (27 + x1.toNatClampNeg) x5.toNatClampNeg)) else 0 - (x2 - (I (27 + x1.toNatClampNeg) x5.toNatClampNeg))) → ∀ y8 : Int32, y8 = x5 + (-1) → Ev X (d + 1) 72 8 [.ref 25, .int x1, .int x2, .int x3, .int x5, .int y8] [] G I res))))) :
    Ev X (d + 1) 72 8 [.ref 25, .int x1, .int x2, .int x3, .int x4, .int x5] [] G I res := by
  refine Ev_iload hq_72 (show decode prog_4_method_8_code 8 = .ok (.iload 5, 2) by decide +kernel) rfl ?_
  refine Ev_if_lt (tgt := 41) hq_72 (show decode prog_4_method_8_code 10 = .ok (.ifCond .lt 31, 3) by decide +kernel) (by decide) (fun c1 => ?_) (fun c1 => ?_)
  · have k := k.1 c1
    refine Ev_iload hq_72 (show decode prog_4_method_8_code 41 = .ok (.iload 4, 2) by decide +kernel) rfl ?_
    refine Ev_bipush (v := 30) hq_72 (show decode prog_4_method_8_code 43 = .ok (.bipush 30, 2) by decide +kernel) (by decide) ?_
    refine Ev_icmp_ge (tgt := 53) hq_72 (show decode prog_4_method_8_code 45 = .ok (.if_icmp .ge 8, 3) by decide +kernel) (by decide) (fun c2 => ?_) (fun c2 => ?_)
    · have k := k.1 c2
      refine Ev_iconst (v := (-1)) hq_72 (show decode prog_4_method_8_code 53 = .ok (.iconst (-1), 1) by decide +kernel) (by decide) ?_
      exact Ev_iret hq_72 (show decode prog_4_method_8_code 54 = .ok (.ireturn, 1) by decide +kernel) rfl k
    · have k := k.2 c2
      refine Ev_iload hq_72 (show decode prog_4_method_8_code 48 = .ok (.iload 4, 2) by decide +kernel) rfl ?_
      refine Ev_goto (tgt := 54) hq_72 (show decode prog_4_method_8_code 50 = .ok (.goto 4, 3) by decide +kernel) (by decide) ?_
      exact Ev_iret hq_72 (show decode prog_4_method_8_code 54 = .ok (.ireturn, 1) by decide +kernel) rfl k
  · have k := k.2 c1
    refine Ev_iload_n hq_72 (show decode prog_4_method_8_code 13 = .ok (.iload_n 2, 1) by decide +kernel) rfl ?_
    refine Ev_aload_n hq_72 (show decode prog_4_method_8_code 14 = .ok (.aload_n 0, 1) by decide +kernel) rfl ?_
    refine Ev_getR hq_72 (show decode prog_4_method_8_code 15 = .ok (.getfield 11, 3) by decide +kernel) rfl (SGn hS (by decide)) (SGk hS rfl) (by decide) rfl (SGr hS rfl) ?_
    refine Ev_iload_n hq_72 (show decode prog_4_method_8_code 18 = .ok (.iload_n 1, 1) by decide +kernel) rfl ?_
    obtain ⟨h3, k⟩ := k
    have r4 := SGrow hS (a := 26) (b := 27) (n := 30) (Or.inl ⟨rfl, rfl, rfl⟩) h3.2
    refine Ev_aald hq_72 (show decode prog_4_method_8_code 19 = .ok (.aaload, 1) by decide +kernel) (SGn hS (by decide)) (Or.inr (SGk hS rfl)) (SGi hS rfl h3) r4.1 ?_
    refine Ev_iload hq_72 (show decode prog_4_method_8_code 20 = .ok (.iload 5, 2) by decide +kernel) rfl ?_
    obtain ⟨h5, k⟩ := k
    refine Ev_iald hq_72 (show decode prog_4_method_8_code 22 = .ok (.iaload, 1) by decide +kernel) r4.2.1 r4.2.2.1 (by rw [r4.2.2.2]; exact h5) ?_
    refine Ev_isub hq_72 (show decode prog_4_method_8_code 23 = .ok (.isub, 1) by decide +kernel) ?_
    refine Ev_abs hq_72 (show decode prog_4_method_8_code 24 = .ok (.invokestatic 101, 3) by decide +kernel) rfl (z_le rfl) ?_
    refine Ev_iload_n hq_72 (show decode prog_4_method_8_code 27 = .ok (.iload_n 3, 1) by decide +kernel) rfl ?_
    refine Ev_icmp_gt (tgt := 41) hq_72 (show decode prog_4_method_8_code 28 = .ok (.if_icmp .gt 13, 3) by decide +kernel) (by decide) (fun c6 => ?_) (fun c6 => ?_)
    · have k := k.1 c6
      refine Ev_iload hq_72 (show decode prog_4_method_8_code 41 = .ok (.iload 4, 2) by decide +kernel) rfl ?_
      refine Ev_bipush (v := 30) hq_72 (show decode prog_4_method_8_code 43 = .ok (.bipush 30, 2) by decide +kernel) (by decide) ?_
      refine Ev_icmp_ge (tgt := 53) hq_72 (show decode prog_4_method_8_code 45 = .ok (.if_icmp .ge 8, 3) by decide +kernel) (by decide) (fun c7 => ?_) (fun c7 => ?_)
      · have k := k.1 c7
        refine Ev_iconst (v := (-1)) hq_72 (show decode prog_4_method_8_code 53 = .ok (.iconst (-1), 1) by decide +kernel) (by decide) ?_
        exact Ev_iret hq_72 (show decode prog_4_method_8_code 54 = .ok (.ireturn, 1) by decide +kernel) rfl k
      · have k := k.2 c7
        refine Ev_iload hq_72 (show decode prog_4_method_8_code 48 = .ok (.iload 4, 2) by decide +kernel) rfl ?_
        refine Ev_goto (tgt := 54) hq_72 (show decode prog_4_method_8_code 50 = .ok (.goto 4, 3) by decide +kernel) (by decide) ?_
        exact Ev_iret hq_72 (show decode prog_4_method_8_code 54 = .ok (.ireturn, 1) by decide +kernel) rfl k
    · have k := k.2 c6
      refine Ev_iload hq_72 (show decode prog_4_method_8_code 31 = .ok (.iload 5, 2) by decide +kernel) rfl ?_
      refine Ev_istore (lo2 := [.ref 25, .int x1, .int x2, .int x3, .int x5, .int x5]) hq_72 (show decode prog_4_method_8_code 33 = .ok (.istore 4, 2) by decide +kernel) (z_le rfl) rfl ?_
      obtain ⟨y8, ey8⟩ : ∃ y8 : Int32, y8 = x5 + (-1) := ⟨_, rfl⟩
      have k := k y8 ey8
      refine Ev_iinc (v := y8) (lo2 := [.ref 25, .int x1, .int x2, .int x3, .int x5, .int y8]) hq_72 (show decode prog_4_method_8_code 35 = .ok (.iinc 5 (-1), 3) by decide +kernel) rfl (by rw [ey8]; rfl) rfl ?_
      refine Ev_goto (tgt := 8) hq_72 (show decode prog_4_method_8_code 38 = .ok (.goto (-30), 3) by decide +kernel) (by decide) ?_
      exact k
set_option maxRecDepth 20000 in
theorem wp_T_rests {X : Nat × (Nat → Int32)} {d : Nat} {G : zG} {I : zI} {res : Option Value × zG × zI} (x1 : Int32) (x2 : Int32) (hd : 1 ≤ d) (hS : SG G) 
    (k : (¬ (f_T_isShower I x1) = 0 → (¬ (f_T_isWarm x2) = 0 → ∃ (I3 : zI), Cv X d 62 [.ref 0, .ref 1] G I (none, G, I3) ∧ (z_inr x1 4 ∧ (∃ (r8 : Int32) (I6 : zI), Cv X d 72 [.ref 25, .int x1, .int (I3 5 x1.toNatClampNeg), .int x2] G I3 (some (.int r8), G, I6) ∧ (res = (some (.int r8), G, I6))))) ∧ ((f_T_isWarm x2) = 0 → res = (some (.int (-7)), G, I))) ∧ ((f_T_isShower I x1) = 0 → res = (some (.int (-5)), G, I))) :
    Ev X (d + 1) 71 0 [.ref 0, .int x1, .int x2] [] G I res := by
  refine Ev_aload_n hq_71 (show decode prog_1_method_27_code 0 = .ok (.aload_n 0, 1) by decide +kernel) rfl ?_
  refine Ev_iload_n hq_71 (show decode prog_1_method_27_code 1 = .ok (.iload_n 1, 1) by decide +kernel) rfl ?_
  refine Ev_virt (as := [.int x1]) hq_71 (show decode prog_1_method_27_code 2 = .ok (.invokevirtual 120, 3) by decide +kernel) rfl hq_45 rfl (z_le rfl) ⟨(SGn hS (by decide)), (SGk hS rfl), by decide⟩ (c_T_isShower (by omega) hS x1) ?_
  refine Ev_if_ne (tgt := 11) hq_71 (show decode prog_1_method_27_code 5 = .ok (.ifCond .ne 6, 3) by decide +kernel) (by decide) (fun c1 => ?_) (fun c1 => ?_)
  · have k := k.1 c1
    refine Ev_iload_n hq_71 (show decode prog_1_method_27_code 11 = .ok (.iload_n 2, 1) by decide +kernel) rfl ?_
    refine Ev_stat (as := [.int x2]) hq_71 (show decode prog_1_method_27_code 12 = .ok (.invokestatic 124, 3) by decide +kernel) rfl (Or.inl rfl) hq_46 rfl (z_le rfl) (c_T_isWarm (by omega) x2) ?_
    refine Ev_if_ne (tgt := 21) hq_71 (show decode prog_1_method_27_code 15 = .ok (.ifCond .ne 6, 3) by decide +kernel) (by decide) (fun c2 => ?_) (fun c2 => ?_)
    · have k := k.1 c2
      refine Ev_aload_n hq_71 (show decode prog_1_method_27_code 21 = .ok (.aload_n 0, 1) by decide +kernel) rfl ?_
      refine Ev_aload_n hq_71 (show decode prog_1_method_27_code 22 = .ok (.aload_n 0, 1) by decide +kernel) rfl ?_
      refine Ev_getR hq_71 (show decode prog_1_method_27_code 23 = .ok (.getfield 10, 3) by decide +kernel) rfl (SGn hS (by decide)) (SGk hS rfl) (by decide) rfl (SGr hS rfl) ?_
      obtain ⟨I3, h4, k⟩ := k
      refine Ev_virt (as := [.ref 1]) hq_71 (show decode prog_1_method_27_code 26 = .ok (.invokevirtual 187, 3) by decide +kernel) rfl hq_62 rfl (z_le rfl) ⟨(SGn hS (by decide)), (SGk hS rfl), by decide⟩ h4 ?_
      refine Ev_aload_n hq_71 (show decode prog_1_method_27_code 29 = .ok (.aload_n 0, 1) by decide +kernel) rfl ?_
      refine Ev_getR hq_71 (show decode prog_1_method_27_code 30 = .ok (.getfield 29, 3) by decide +kernel) rfl (SGn hS (by decide)) (SGk hS rfl) (by decide) rfl (SGr hS rfl) ?_
      refine Ev_iload_n hq_71 (show decode prog_1_method_27_code 33 = .ok (.iload_n 1, 1) by decide +kernel) rfl ?_
      refine Ev_aload_n hq_71 (show decode prog_1_method_27_code 34 = .ok (.aload_n 0, 1) by decide +kernel) rfl ?_
      refine Ev_getR hq_71 (show decode prog_1_method_27_code 35 = .ok (.getfield 10, 3) by decide +kernel) rfl (SGn hS (by decide)) (SGk hS rfl) (by decide) rfl (SGr hS rfl) ?_
      refine Ev_getR hq_71 (show decode prog_1_method_27_code 38 = .ok (.getfield 197, 3) by decide +kernel) rfl (SGn hS (by decide)) (SGk hS rfl) (by decide) rfl (SGr hS rfl) ?_
      refine Ev_iload_n hq_71 (show decode prog_1_method_27_code 41 = .ok (.iload_n 1, 1) by decide +kernel) rfl ?_
      obtain ⟨h5, k⟩ := k
      refine Ev_iald hq_71 (show decode prog_1_method_27_code 42 = .ok (.iaload, 1) by decide +kernel) (SGn hS (by decide)) (SGk hS rfl) (SGi hS rfl h5) ?_
      refine Ev_iload_n hq_71 (show decode prog_1_method_27_code 43 = .ok (.iload_n 2, 1) by decide +kernel) rfl ?_
      obtain ⟨r8, I6, h7, k⟩ := k
      refine Ev_virt (as := [.int x1, .int (I3 5 x1.toNatClampNeg), .int x2]) hq_71 (show decode prog_1_method_27_code 44 = .ok (.invokevirtual 212, 3) by decide +kernel) rfl hq_72 rfl (z_le rfl) ⟨(SGn hS (by decide)), (SGk hS rfl), by decide⟩ h7 ?_
      exact Ev_iret hq_71 (show decode prog_1_method_27_code 47 = .ok (.ireturn, 1) by decide +kernel) rfl k
    · have k := k.2 (Classical.not_not.mp c2)
      refine Ev_bipush (v := (-7)) hq_71 (show decode prog_1_method_27_code 18 = .ok (.bipush (-7), 2) by decide +kernel) (by decide) ?_
      exact Ev_iret hq_71 (show decode prog_1_method_27_code 20 = .ok (.ireturn, 1) by decide +kernel) rfl k
  · have k := k.2 (Classical.not_not.mp c1)
    refine Ev_bipush (v := (-5)) hq_71 (show decode prog_1_method_27_code 8 = .ok (.bipush (-5), 2) by decide +kernel) (by decide) ?_
    exact Ev_iret hq_71 (show decode prog_1_method_27_code 10 = .ok (.ireturn, 1) by decide +kernel) rfl k
set_option maxRecDepth 20000 in
theorem wp_M_leastFelt {X : Nat × (Nat → Int32)} {d : Nat} {G : zG} {I : zI} {res : Option Value × zG × zI} (x1 : Int32) (x2 : Int32) 
    (k : ∀ y1 : Int32, y1 = (if 0 < x2 then x2 else 0) → Ev X (d + 1) 74 11 [.ref 25, .int x1, .int x2, .int 999, .int y1] [] G I res) :
    Ev X (d + 1) 74 0 [.ref 25, .int x1, .int x2, zU, zU] [] G I res := by
  refine Ev_sipush (v := 999) hq_74 (show decode prog_4_method_7_code 0 = .ok (.sipush 999, 3) by decide +kernel) (by decide) ?_
  refine Ev_istore_n (lo2 := [.ref 25, .int x1, .int x2, .int 999, zU]) hq_74 (show decode prog_4_method_7_code 3 = .ok (.istore_n 3, 1) by decide +kernel) (z_le rfl) rfl ?_
  refine Ev_iconst (v := 0) hq_74 (show decode prog_4_method_7_code 4 = .ok (.iconst 0, 1) by decide +kernel) (by decide) ?_
  refine Ev_iload_n hq_74 (show decode prog_4_method_7_code 5 = .ok (.iload_n 2, 1) by decide +kernel) rfl ?_
  refine Ev_max hq_74 (show decode prog_4_method_7_code 6 = .ok (.invokestatic 58, 3) by decide +kernel) rfl (z_le rfl) ?_
  obtain ⟨y1, ey1⟩ : ∃ y1 : Int32, y1 = (if 0 < x2 then x2 else 0) := ⟨_, rfl⟩
  have k := k y1 ey1
  rw [← ey1]
  refine Ev_istore (lo2 := [.ref 25, .int x1, .int x2, .int 999, .int y1]) hq_74 (show decode prog_4_method_7_code 9 = .ok (.istore 4, 2) by decide +kernel) (z_le rfl) rfl ?_
  exact k
set_option maxRecDepth 20000 in
theorem wp_M_leastFelt_11 {X : Nat × (Nat → Int32)} {d : Nat} {G : zG} {I : zI} {res : Option Value × zG × zI} (x1 : Int32) (x2 : Int32) (x3 : Int32) (x4 : Int32) (hS : SG G) 
    (k : (30 ≤ x4 → res = (some (.int x3), G, I)) ∧ (¬ 30 ≤ x4 → z_inr x1 4 ∧ (z_inr x4 30 ∧ (∀ y5 : Int32, y5 = (if (I (27 + x1.toNatClampNeg) x4.toNatClampNeg) < x3 then (I (27 + x1.toNatClampNeg) x4.toNatClampNeg) else x3) → ∀ y6 : Int32, y6 = x4 + 1 → Ev X (d + 1) 74 11 [.ref 25, .int x1, .int x2, .int y5, .int y6] [] G I res)))) :
    Ev X (d + 1) 74 11 [.ref 25, .int x1, .int x2, .int x3, .int x4] [] G I res := by
  refine Ev_iload hq_74 (show decode prog_4_method_7_code 11 = .ok (.iload 4, 2) by decide +kernel) rfl ?_
  refine Ev_bipush (v := 30) hq_74 (show decode prog_4_method_7_code 13 = .ok (.bipush 30, 2) by decide +kernel) (by decide) ?_
  refine Ev_icmp_ge (tgt := 38) hq_74 (show decode prog_4_method_7_code 15 = .ok (.if_icmp .ge 23, 3) by decide +kernel) (by decide) (fun c1 => ?_) (fun c1 => ?_)
  · have k := k.1 c1
    refine Ev_iload_n hq_74 (show decode prog_4_method_7_code 38 = .ok (.iload_n 3, 1) by decide +kernel) rfl ?_
    exact Ev_iret hq_74 (show decode prog_4_method_7_code 39 = .ok (.ireturn, 1) by decide +kernel) rfl k
  · have k := k.2 c1
    refine Ev_iload_n hq_74 (show decode prog_4_method_7_code 18 = .ok (.iload_n 3, 1) by decide +kernel) rfl ?_
    refine Ev_aload_n hq_74 (show decode prog_4_method_7_code 19 = .ok (.aload_n 0, 1) by decide +kernel) rfl ?_
    refine Ev_getR hq_74 (show decode prog_4_method_7_code 20 = .ok (.getfield 11, 3) by decide +kernel) rfl (SGn hS (by decide)) (SGk hS rfl) (by decide) rfl (SGr hS rfl) ?_
    refine Ev_iload_n hq_74 (show decode prog_4_method_7_code 23 = .ok (.iload_n 1, 1) by decide +kernel) rfl ?_
    obtain ⟨h2, k⟩ := k
    have r3 := SGrow hS (a := 26) (b := 27) (n := 30) (Or.inl ⟨rfl, rfl, rfl⟩) h2.2
    refine Ev_aald hq_74 (show decode prog_4_method_7_code 24 = .ok (.aaload, 1) by decide +kernel) (SGn hS (by decide)) (Or.inr (SGk hS rfl)) (SGi hS rfl h2) r3.1 ?_
    refine Ev_iload hq_74 (show decode prog_4_method_7_code 25 = .ok (.iload 4, 2) by decide +kernel) rfl ?_
    obtain ⟨h4, k⟩ := k
    refine Ev_iald hq_74 (show decode prog_4_method_7_code 27 = .ok (.iaload, 1) by decide +kernel) r3.2.1 r3.2.2.1 (by rw [r3.2.2.2]; exact h4) ?_
    refine Ev_min hq_74 (show decode prog_4_method_7_code 28 = .ok (.invokestatic 38, 3) by decide +kernel) rfl (z_le rfl) ?_
    obtain ⟨y5, ey5⟩ : ∃ y5 : Int32, y5 = (if (I (27 + x1.toNatClampNeg) x4.toNatClampNeg) < x3 then (I (27 + x1.toNatClampNeg) x4.toNatClampNeg) else x3) := ⟨_, rfl⟩
    have k := k y5 ey5
    rw [← ey5]
    refine Ev_istore_n (lo2 := [.ref 25, .int x1, .int x2, .int y5, .int x4]) hq_74 (show decode prog_4_method_7_code 31 = .ok (.istore_n 3, 1) by decide +kernel) (z_le rfl) rfl ?_
    obtain ⟨y6, ey6⟩ : ∃ y6 : Int32, y6 = x4 + 1 := ⟨_, rfl⟩
    have k := k y6 ey6
    refine Ev_iinc (v := y6) (lo2 := [.ref 25, .int x1, .int x2, .int y5, .int y6]) hq_74 (show decode prog_4_method_7_code 32 = .ok (.iinc 4 1, 3) by decide +kernel) rfl (by rw [ey6]; rfl) rfl ?_
    refine Ev_goto (tgt := 11) hq_74 (show decode prog_4_method_7_code 35 = .ok (.goto (-24), 3) by decide +kernel) (by decide) ?_
    exact k
set_option maxRecDepth 20000 in
theorem wp_T_sways {X : Nat × (Nat → Int32)} {d : Nat} {G : zG} {I : zI} {res : Option Value × zG × zI} (x1 : Int32) (hd : 1 ≤ d) (hS : SG G) 
    (k : (¬ (f_T_isShower I x1) = 0 → ∃ (I2 : zI), Cv X d 62 [.ref 0, .ref 1] G I (none, G, I2) ∧ (∃ (r6 : Int32) (I4 : zI), Cv X d 70 [.ref 25, .int x1, .int 20] G I2 (some (.int r6), G, I4) ∧ (∃ (r9 : Int32) (I7 : zI), Cv X d 74 [.ref 25, .int x1, .int 20] G I4 (some (.int r9), G, I7) ∧ (res = (some (.int (r6 - r9)), G, I7))))) ∧ ((f_T_isShower I x1) = 0 → res = (some (.int (-5)), G, I))) :
    Ev X (d + 1) 73 0 [.ref 0, .int x1] [] G I res := by
  refine Ev_aload_n hq_73 (show decode prog_1_method_28_code 0 = .ok (.aload_n 0, 1) by decide +kernel) rfl ?_
  refine Ev_iload_n hq_73 (show decode prog_1_method_28_code 1 = .ok (.iload_n 1, 1) by decide +kernel) rfl ?_
  refine Ev_virt (as := [.int x1]) hq_73 (show decode prog_1_method_28_code 2 = .ok (.invokevirtual 120, 3) by decide +kernel) rfl hq_45 rfl (z_le rfl) ⟨(SGn hS (by decide)), (SGk hS rfl), by decide⟩ (c_T_isShower (by omega) hS x1) ?_
  refine Ev_if_ne (tgt := 11) hq_73 (show decode prog_1_method_28_code 5 = .ok (.ifCond .ne 6, 3) by decide +kernel) (by decide) (fun c1 => ?_) (fun c1 => ?_)
  · have k := k.1 c1
    refine Ev_aload_n hq_73 (show decode prog_1_method_28_code 11 = .ok (.aload_n 0, 1) by decide +kernel) rfl ?_
    refine Ev_aload_n hq_73 (show decode prog_1_method_28_code 12 = .ok (.aload_n 0, 1) by decide +kernel) rfl ?_
    refine Ev_getR hq_73 (show decode prog_1_method_28_code 13 = .ok (.getfield 10, 3) by decide +kernel) rfl (SGn hS (by decide)) (SGk hS rfl) (by decide) rfl (SGr hS rfl) ?_
    obtain ⟨I2, h3, k⟩ := k
    refine Ev_virt (as := [.ref 1]) hq_73 (show decode prog_1_method_28_code 16 = .ok (.invokevirtual 187, 3) by decide +kernel) rfl hq_62 rfl (z_le rfl) ⟨(SGn hS (by decide)), (SGk hS rfl), by decide⟩ h3 ?_
    refine Ev_aload_n hq_73 (show decode prog_1_method_28_code 19 = .ok (.aload_n 0, 1) by decide +kernel) rfl ?_
    refine Ev_getR hq_73 (show decode prog_1_method_28_code 20 = .ok (.getfield 29, 3) by decide +kernel) rfl (SGn hS (by decide)) (SGk hS rfl) (by decide) rfl (SGr hS rfl) ?_
    refine Ev_iload_n hq_73 (show decode prog_1_method_28_code 23 = .ok (.iload_n 1, 1) by decide +kernel) rfl ?_
    refine Ev_bipush (v := 20) hq_73 (show decode prog_1_method_28_code 24 = .ok (.bipush 20, 2) by decide +kernel) (by decide) ?_
    obtain ⟨r6, I4, h5, k⟩ := k
    refine Ev_virt (as := [.int x1, .int 20]) hq_73 (show decode prog_1_method_28_code 26 = .ok (.invokevirtual 209, 3) by decide +kernel) rfl hq_70 rfl (z_le rfl) ⟨(SGn hS (by decide)), (SGk hS rfl), by decide⟩ h5 ?_
    refine Ev_aload_n hq_73 (show decode prog_1_method_28_code 29 = .ok (.aload_n 0, 1) by decide +kernel) rfl ?_
    refine Ev_getR hq_73 (show decode prog_1_method_28_code 30 = .ok (.getfield 29, 3) by decide +kernel) rfl (SGn hS (by decide)) (SGk hS rfl) (by decide) rfl (SGr hS rfl) ?_
    refine Ev_iload_n hq_73 (show decode prog_1_method_28_code 33 = .ok (.iload_n 1, 1) by decide +kernel) rfl ?_
    refine Ev_bipush (v := 20) hq_73 (show decode prog_1_method_28_code 34 = .ok (.bipush 20, 2) by decide +kernel) (by decide) ?_
    obtain ⟨r9, I7, h8, k⟩ := k
    refine Ev_virt (as := [.int x1, .int 20]) hq_73 (show decode prog_1_method_28_code 36 = .ok (.invokevirtual 215, 3) by decide +kernel) rfl hq_74 rfl (z_le rfl) ⟨(SGn hS (by decide)), (SGk hS rfl), by decide⟩ h8 ?_
    refine Ev_isub hq_73 (show decode prog_1_method_28_code 39 = .ok (.isub, 1) by decide +kernel) ?_
    exact Ev_iret hq_73 (show decode prog_1_method_28_code 40 = .ok (.ireturn, 1) by decide +kernel) rfl k
  · have k := k.2 (Classical.not_not.mp c1)
    refine Ev_bipush (v := (-5)) hq_73 (show decode prog_1_method_28_code 8 = .ok (.bipush (-5), 2) by decide +kernel) (by decide) ?_
    exact Ev_iret hq_73 (show decode prog_1_method_28_code 10 = .ok (.ireturn, 1) by decide +kernel) rfl k
set_option maxRecDepth 20000 in
theorem wp_M_costOfAll {X : Nat × (Nat → Int32)} {d : Nat} {G : zG} {I : zI} {res : Option Value × zG × zI} (x1 : Int32) 
    (k : Ev X d 76 4 [.ref 25, .int x1, .int 0, .int 0] [] G I res) :
    Ev X d 76 0 [.ref 25, .int x1, zU, zU] [] G I res := by
  refine Ev_iconst (v := 0) hq_76 (show decode prog_4_method_9_code 0 = .ok (.iconst 0, 1) by decide +kernel) (by decide) ?_
  refine Ev_istore_n (lo2 := [.ref 25, .int x1, .int 0, zU]) hq_76 (show decode prog_4_method_9_code 1 = .ok (.istore_n 2, 1) by decide +kernel) (z_le rfl) rfl ?_
  refine Ev_iconst (v := 0) hq_76 (show decode prog_4_method_9_code 2 = .ok (.iconst 0, 1) by decide +kernel) (by decide) ?_
  refine Ev_istore_n (lo2 := [.ref 25, .int x1, .int 0, .int 0]) hq_76 (show decode prog_4_method_9_code 3 = .ok (.istore_n 3, 1) by decide +kernel) (z_le rfl) rfl ?_
  exact k
set_option maxRecDepth 20000 in
theorem wp_M_costOfAll_4 {X : Nat × (Nat → Int32)} {d : Nat} {G : zG} {I : zI} {res : Option Value × zG × zI} (x1 : Int32) (x2 : Int32) (x3 : Int32) (hS : SG G) 
    (k : (x1 ≤ x3 → res = (some (.int x2), G, I)) ∧ (¬ x1 ≤ x3 → (4 ≤ x3 → res = (some (.int x2), G, I)) ∧ (¬ 4 ≤ x3 → z_inr x3 4 ∧ (∀ y4 : Int32, y4 = (x2 + (I 36 x3.toNatClampNeg)) → ∀ y5 : Int32, y5 = x3 + 1 → Ev X d 76 4 [.ref 25, .int x1, .int y4, .int y5] [] G I res)))) :
    Ev X d 76 4 [.ref 25, .int x1, .int x2, .int x3] [] G I res := by
  refine Ev_iload_n hq_76 (show decode prog_4_method_9_code 4 = .ok (.iload_n 3, 1) by decide +kernel) rfl ?_
  refine Ev_iload_n hq_76 (show decode prog_4_method_9_code 5 = .ok (.iload_n 1, 1) by decide +kernel) rfl ?_
  refine Ev_icmp_ge (tgt := 29) hq_76 (show decode prog_4_method_9_code 6 = .ok (.if_icmp .ge 23, 3) by decide +kernel) (by decide) (fun c1 => ?_) (fun c1 => ?_)
  · have k := k.1 c1
    refine Ev_iload_n hq_76 (show decode prog_4_method_9_code 29 = .ok (.iload_n 2, 1) by decide +kernel) rfl ?_
    exact Ev_iret hq_76 (show decode prog_4_method_9_code 30 = .ok (.ireturn, 1) by decide +kernel) rfl k
  · have k := k.2 c1
    refine Ev_iload_n hq_76 (show decode prog_4_method_9_code 9 = .ok (.iload_n 3, 1) by decide +kernel) rfl ?_
    refine Ev_iconst (v := 4) hq_76 (show decode prog_4_method_9_code 10 = .ok (.iconst 4, 1) by decide +kernel) (by decide) ?_
    refine Ev_icmp_ge (tgt := 29) hq_76 (show decode prog_4_method_9_code 11 = .ok (.if_icmp .ge 18, 3) by decide +kernel) (by decide) (fun c2 => ?_) (fun c2 => ?_)
    · have k := k.1 c2
      refine Ev_iload_n hq_76 (show decode prog_4_method_9_code 29 = .ok (.iload_n 2, 1) by decide +kernel) rfl ?_
      exact Ev_iret hq_76 (show decode prog_4_method_9_code 30 = .ok (.ireturn, 1) by decide +kernel) rfl k
    · have k := k.2 c2
      refine Ev_iload_n hq_76 (show decode prog_4_method_9_code 14 = .ok (.iload_n 2, 1) by decide +kernel) rfl ?_
      refine Ev_aload_n hq_76 (show decode prog_4_method_9_code 15 = .ok (.aload_n 0, 1) by decide +kernel) rfl ?_
      refine Ev_getR hq_76 (show decode prog_4_method_9_code 16 = .ok (.getfield 19, 3) by decide +kernel) rfl (SGn hS (by decide)) (SGk hS rfl) (by decide) rfl (SGr hS rfl) ?_
      refine Ev_iload_n hq_76 (show decode prog_4_method_9_code 19 = .ok (.iload_n 3, 1) by decide +kernel) rfl ?_
      obtain ⟨h3, k⟩ := k
      refine Ev_iald hq_76 (show decode prog_4_method_9_code 20 = .ok (.iaload, 1) by decide +kernel) (SGn hS (by decide)) (SGk hS rfl) (SGi hS rfl h3) ?_
      refine Ev_iadd hq_76 (show decode prog_4_method_9_code 21 = .ok (.iadd, 1) by decide +kernel) ?_
      obtain ⟨y4, ey4⟩ : ∃ y4 : Int32, y4 = (x2 + (I 36 x3.toNatClampNeg)) := ⟨_, rfl⟩
      have k := k y4 ey4
      rw [← ey4]
      refine Ev_istore_n (lo2 := [.ref 25, .int x1, .int y4, .int x3]) hq_76 (show decode prog_4_method_9_code 22 = .ok (.istore_n 2, 1) by decide +kernel) (z_le rfl) rfl ?_
      obtain ⟨y5, ey5⟩ : ∃ y5 : Int32, y5 = x3 + 1 := ⟨_, rfl⟩
      have k := k y5 ey5
      refine Ev_iinc (v := y5) (lo2 := [.ref 25, .int x1, .int y4, .int y5]) hq_76 (show decode prog_4_method_9_code 23 = .ok (.iinc 3 1, 3) by decide +kernel) rfl (by rw [ey5]; rfl) rfl ?_
      refine Ev_goto (tgt := 4) hq_76 (show decode prog_4_method_9_code 26 = .ok (.goto (-22), 3) by decide +kernel) (by decide) ?_
      exact k
set_option maxRecDepth 20000 in
theorem wp_M_criersAtAll {X : Nat × (Nat → Int32)} {d : Nat} {G : zG} {I : zI} {res : Option Value × zG × zI} (x1 : Int32) 
    (k : Ev X d 77 4 [.ref 25, .int x1, .int 0, .int 0] [] G I res) :
    Ev X d 77 0 [.ref 25, .int x1, zU, zU] [] G I res := by
  refine Ev_iconst (v := 0) hq_77 (show decode prog_4_method_10_code 0 = .ok (.iconst 0, 1) by decide +kernel) (by decide) ?_
  refine Ev_istore_n (lo2 := [.ref 25, .int x1, .int 0, zU]) hq_77 (show decode prog_4_method_10_code 1 = .ok (.istore_n 2, 1) by decide +kernel) (z_le rfl) rfl ?_
  refine Ev_iconst (v := 0) hq_77 (show decode prog_4_method_10_code 2 = .ok (.iconst 0, 1) by decide +kernel) (by decide) ?_
  refine Ev_istore_n (lo2 := [.ref 25, .int x1, .int 0, .int 0]) hq_77 (show decode prog_4_method_10_code 3 = .ok (.istore_n 3, 1) by decide +kernel) (z_le rfl) rfl ?_
  exact k
set_option maxRecDepth 20000 in
theorem wp_M_criersAtAll_4 {X : Nat × (Nat → Int32)} {d : Nat} {G : zG} {I : zI} {res : Option Value × zG × zI} (x1 : Int32) (x2 : Int32) (x3 : Int32) (hS : SG G) 
    (k : (x1 ≤ x3 → res = (some (.int x2), G, I)) ∧ (¬ x1 ≤ x3 → (4 ≤ x3 → res = (some (.int x2), G, I)) ∧ (¬ 4 ≤ x3 → z_inr x3 4 ∧ (((I 37 x3.toNatClampNeg) = 0 → ∀ y5 : Int32, y5 = x3 + 1 → Ev X d 77 4 [.ref 25, .int x1, .int x2, .int y5] [] G I res) ∧ (¬ (I 37 x3.toNatClampNeg) = 0 → ∀ y6 : Int32, y6 = (x2 ||| (1 <<< (x3 &&& 31))) → ∀ y7 : Int32, y7 = x3 + 1 → Ev X d 77 4 [.ref 25, .int x1, .int y6, .int y7] [] G I res))))) :
    Ev X d 77 4 [.ref 25, .int x1, .int x2, .int x3] [] G I res := by
  refine Ev_iload_n hq_77 (show decode prog_4_method_10_code 4 = .ok (.iload_n 3, 1) by decide +kernel) rfl ?_
  refine Ev_iload_n hq_77 (show decode prog_4_method_10_code 5 = .ok (.iload_n 1, 1) by decide +kernel) rfl ?_
  refine Ev_icmp_ge (tgt := 35) hq_77 (show decode prog_4_method_10_code 6 = .ok (.if_icmp .ge 29, 3) by decide +kernel) (by decide) (fun c1 => ?_) (fun c1 => ?_)
  · have k := k.1 c1
    refine Ev_iload_n hq_77 (show decode prog_4_method_10_code 35 = .ok (.iload_n 2, 1) by decide +kernel) rfl ?_
    exact Ev_iret hq_77 (show decode prog_4_method_10_code 36 = .ok (.ireturn, 1) by decide +kernel) rfl k
  · have k := k.2 c1
    refine Ev_iload_n hq_77 (show decode prog_4_method_10_code 9 = .ok (.iload_n 3, 1) by decide +kernel) rfl ?_
    refine Ev_iconst (v := 4) hq_77 (show decode prog_4_method_10_code 10 = .ok (.iconst 4, 1) by decide +kernel) (by decide) ?_
    refine Ev_icmp_ge (tgt := 35) hq_77 (show decode prog_4_method_10_code 11 = .ok (.if_icmp .ge 24, 3) by decide +kernel) (by decide) (fun c2 => ?_) (fun c2 => ?_)
    · have k := k.1 c2
      refine Ev_iload_n hq_77 (show decode prog_4_method_10_code 35 = .ok (.iload_n 2, 1) by decide +kernel) rfl ?_
      exact Ev_iret hq_77 (show decode prog_4_method_10_code 36 = .ok (.ireturn, 1) by decide +kernel) rfl k
    · have k := k.2 c2
      refine Ev_aload_n hq_77 (show decode prog_4_method_10_code 14 = .ok (.aload_n 0, 1) by decide +kernel) rfl ?_
      refine Ev_getR hq_77 (show decode prog_4_method_10_code 15 = .ok (.getfield 23, 3) by decide +kernel) rfl (SGn hS (by decide)) (SGk hS rfl) (by decide) rfl (SGr hS rfl) ?_
      refine Ev_iload_n hq_77 (show decode prog_4_method_10_code 18 = .ok (.iload_n 3, 1) by decide +kernel) rfl ?_
      obtain ⟨h3, k⟩ := k
      refine Ev_iald hq_77 (show decode prog_4_method_10_code 19 = .ok (.iaload, 1) by decide +kernel) (SGn hS (by decide)) (SGk hS rfl) (SGi hS rfl h3) ?_
      refine Ev_if_eq (tgt := 29) hq_77 (show decode prog_4_method_10_code 20 = .ok (.ifCond .eq 9, 3) by decide +kernel) (by decide) (fun c4 => ?_) (fun c4 => ?_)
      · have k := k.1 c4
        obtain ⟨y5, ey5⟩ : ∃ y5 : Int32, y5 = x3 + 1 := ⟨_, rfl⟩
        have k := k y5 ey5
        refine Ev_iinc (v := y5) (lo2 := [.ref 25, .int x1, .int x2, .int y5]) hq_77 (show decode prog_4_method_10_code 29 = .ok (.iinc 3 1, 3) by decide +kernel) rfl (by rw [ey5]; rfl) rfl ?_
        refine Ev_goto (tgt := 4) hq_77 (show decode prog_4_method_10_code 32 = .ok (.goto (-28), 3) by decide +kernel) (by decide) ?_
        exact k
      · have k := k.2 c4
        refine Ev_iload_n hq_77 (show decode prog_4_method_10_code 23 = .ok (.iload_n 2, 1) by decide +kernel) rfl ?_
        refine Ev_iconst (v := 1) hq_77 (show decode prog_4_method_10_code 24 = .ok (.iconst 1, 1) by decide +kernel) (by decide) ?_
        refine Ev_iload_n hq_77 (show decode prog_4_method_10_code 25 = .ok (.iload_n 3, 1) by decide +kernel) rfl ?_
        refine Ev_ishl hq_77 (show decode prog_4_method_10_code 26 = .ok (.ishl, 1) by decide +kernel) ?_
        refine Ev_ior hq_77 (show decode prog_4_method_10_code 27 = .ok (.ior, 1) by decide +kernel) ?_
        obtain ⟨y6, ey6⟩ : ∃ y6 : Int32, y6 = (x2 ||| (1 <<< (x3 &&& 31))) := ⟨_, rfl⟩
        have k := k y6 ey6
        rw [← ey6]
        refine Ev_istore_n (lo2 := [.ref 25, .int x1, .int y6, .int x3]) hq_77 (show decode prog_4_method_10_code 28 = .ok (.istore_n 2, 1) by decide +kernel) (z_le rfl) rfl ?_
        obtain ⟨y7, ey7⟩ : ∃ y7 : Int32, y7 = x3 + 1 := ⟨_, rfl⟩
        have k := k y7 ey7
        refine Ev_iinc (v := y7) (lo2 := [.ref 25, .int x1, .int y6, .int y7]) hq_77 (show decode prog_4_method_10_code 29 = .ok (.iinc 3 1, 3) by decide +kernel) rfl (by rw [ey7]; rfl) rfl ?_
        refine Ev_goto (tgt := 4) hq_77 (show decode prog_4_method_10_code 32 = .ok (.goto (-28), 3) by decide +kernel) (by decide) ?_
        exact k
set_option maxRecDepth 20000 in
theorem wp_M_criersIn {X : Nat × (Nat → Int32)} {d : Nat} {G : zG} {I : zI} {res : Option Value × zG × zI} (x1 : Int32) (x2 : Int32) 
    (k : Ev X d 79 5 [.ref 25, .int x1, .int x2, .int 0, .int 0] [] G I res) :
    Ev X d 79 0 [.ref 25, .int x1, .int x2, zU, zU] [] G I res := by
  refine Ev_iconst (v := 0) hq_79 (show decode prog_4_method_11_code 0 = .ok (.iconst 0, 1) by decide +kernel) (by decide) ?_
  refine Ev_istore_n (lo2 := [.ref 25, .int x1, .int x2, .int 0, zU]) hq_79 (show decode prog_4_method_11_code 1 = .ok (.istore_n 3, 1) by decide +kernel) (z_le rfl) rfl ?_
  refine Ev_iconst (v := 0) hq_79 (show decode prog_4_method_11_code 2 = .ok (.iconst 0, 1) by decide +kernel) (by decide) ?_
  refine Ev_istore (lo2 := [.ref 25, .int x1, .int x2, .int 0, .int 0]) hq_79 (show decode prog_4_method_11_code 3 = .ok (.istore 4, 2) by decide +kernel) (z_le rfl) rfl ?_
  exact k
set_option maxRecDepth 20000 in
theorem wp_M_criersIn_5 {X : Nat × (Nat → Int32)} {d : Nat} {G : zG} {I : zI} {res : Option Value × zG × zI} (x1 : Int32) (x2 : Int32) (x3 : Int32) (x4 : Int32) (hS : SG G) 
    (k : (x2 ≤ x4 → res = (some (.int x3), G, I)) ∧ (¬ x2 ≤ x4 → (4 ≤ x4 → res = (some (.int x3), G, I)) ∧ (¬ 4 ≤ x4 → z_inr x4 4 ∧ (∀ y4 : Int32, y4 = (x3 ||| ((((I 37 x4.toNatClampNeg) >>> (x1 &&& 31)) &&& 1) <<< (x4 &&& 31))) → ∀ y5 : Int32, y5 = x4 + 1 → Ev X d 79 5 [.ref 25, .int x1, .int x2, .int y4, .int y5] [] G I res)))) :
    Ev X d 79 5 [.ref 25, .int x1, .int x2, .int x3, .int x4] [] G I res := by
  refine Ev_iload hq_79 (show decode prog_4_method_11_code 5 = .ok (.iload 4, 2) by decide +kernel) rfl ?_
  refine Ev_iload_n hq_79 (show decode prog_4_method_11_code 7 = .ok (.iload_n 2, 1) by decide +kernel) rfl ?_
  refine Ev_icmp_ge (tgt := 40) hq_79 (show decode prog_4_method_11_code 8 = .ok (.if_icmp .ge 32, 3) by decide +kernel) (by decide) (fun c1 => ?_) (fun c1 => ?_)
  · have k := k.1 c1
    refine Ev_iload_n hq_79 (show decode prog_4_method_11_code 40 = .ok (.iload_n 3, 1) by decide +kernel) rfl ?_
    exact Ev_iret hq_79 (show decode prog_4_method_11_code 41 = .ok (.ireturn, 1) by decide +kernel) rfl k
  · have k := k.2 c1
    refine Ev_iload hq_79 (show decode prog_4_method_11_code 11 = .ok (.iload 4, 2) by decide +kernel) rfl ?_
    refine Ev_iconst (v := 4) hq_79 (show decode prog_4_method_11_code 13 = .ok (.iconst 4, 1) by decide +kernel) (by decide) ?_
    refine Ev_icmp_ge (tgt := 40) hq_79 (show decode prog_4_method_11_code 14 = .ok (.if_icmp .ge 26, 3) by decide +kernel) (by decide) (fun c2 => ?_) (fun c2 => ?_)
    · have k := k.1 c2
      refine Ev_iload_n hq_79 (show decode prog_4_method_11_code 40 = .ok (.iload_n 3, 1) by decide +kernel) rfl ?_
      exact Ev_iret hq_79 (show decode prog_4_method_11_code 41 = .ok (.ireturn, 1) by decide +kernel) rfl k
    · have k := k.2 c2
      refine Ev_iload_n hq_79 (show decode prog_4_method_11_code 17 = .ok (.iload_n 3, 1) by decide +kernel) rfl ?_
      refine Ev_aload_n hq_79 (show decode prog_4_method_11_code 18 = .ok (.aload_n 0, 1) by decide +kernel) rfl ?_
      refine Ev_getR hq_79 (show decode prog_4_method_11_code 19 = .ok (.getfield 23, 3) by decide +kernel) rfl (SGn hS (by decide)) (SGk hS rfl) (by decide) rfl (SGr hS rfl) ?_
      refine Ev_iload hq_79 (show decode prog_4_method_11_code 22 = .ok (.iload 4, 2) by decide +kernel) rfl ?_
      obtain ⟨h3, k⟩ := k
      refine Ev_iald hq_79 (show decode prog_4_method_11_code 24 = .ok (.iaload, 1) by decide +kernel) (SGn hS (by decide)) (SGk hS rfl) (SGi hS rfl h3) ?_
      refine Ev_iload_n hq_79 (show decode prog_4_method_11_code 25 = .ok (.iload_n 1, 1) by decide +kernel) rfl ?_
      refine Ev_ishr hq_79 (show decode prog_4_method_11_code 26 = .ok (.ishr, 1) by decide +kernel) ?_
      refine Ev_iconst (v := 1) hq_79 (show decode prog_4_method_11_code 27 = .ok (.iconst 1, 1) by decide +kernel) (by decide) ?_
      refine Ev_iand hq_79 (show decode prog_4_method_11_code 28 = .ok (.iand, 1) by decide +kernel) ?_
      refine Ev_iload hq_79 (show decode prog_4_method_11_code 29 = .ok (.iload 4, 2) by decide +kernel) rfl ?_
      refine Ev_ishl hq_79 (show decode prog_4_method_11_code 31 = .ok (.ishl, 1) by decide +kernel) ?_
      refine Ev_ior hq_79 (show decode prog_4_method_11_code 32 = .ok (.ior, 1) by decide +kernel) ?_
      obtain ⟨y4, ey4⟩ : ∃ y4 : Int32, y4 = (x3 ||| ((((I 37 x4.toNatClampNeg) >>> (x1 &&& 31)) &&& 1) <<< (x4 &&& 31))) := ⟨_, rfl⟩
      have k := k y4 ey4
      rw [← ey4]
      refine Ev_istore_n (lo2 := [.ref 25, .int x1, .int x2, .int y4, .int x4]) hq_79 (show decode prog_4_method_11_code 33 = .ok (.istore_n 3, 1) by decide +kernel) (z_le rfl) rfl ?_
      obtain ⟨y5, ey5⟩ : ∃ y5 : Int32, y5 = x4 + 1 := ⟨_, rfl⟩
      have k := k y5 ey5
      refine Ev_iinc (v := y5) (lo2 := [.ref 25, .int x1, .int x2, .int y4, .int y5]) hq_79 (show decode prog_4_method_11_code 34 = .ok (.iinc 4 1, 3) by decide +kernel) rfl (by rw [ey5]; rfl) rfl ?_
      refine Ev_goto (tgt := 5) hq_79 (show decode prog_4_method_11_code 37 = .ok (.goto (-32), 3) by decide +kernel) (by decide) ?_
      exact k
set_option maxRecDepth 20000 in
theorem wp_I_bitCount {X : Nat × (Nat → Int32)} {d : Nat} {G : zG} {I : zI} {res : Option Value × zG × zI} (x0 : Int32) 
    (k : ∀ y1 : Int32, y1 = (x0 - (((x0.toUInt32 >>> ((1 : Int32).toUInt32 &&& Int32.toUInt32 31)).toInt32) &&& 1431655765)) → ∀ y2 : Int32, y2 = ((y1 &&& 858993459) + (((y1.toUInt32 >>> ((2 : Int32).toUInt32 &&& Int32.toUInt32 31)).toInt32) &&& 858993459)) → ∀ y3 : Int32, y3 = ((y2 + ((y2.toUInt32 >>> ((4 : Int32).toUInt32 &&& Int32.toUInt32 31)).toInt32)) &&& 252645135) → ∀ y4 : Int32, y4 = (y3 + ((y3.toUInt32 >>> ((8 : Int32).toUInt32 &&& Int32.toUInt32 31)).toInt32)) → ∀ y5 : Int32, y5 = (y4 + ((y4.toUInt32 >>> ((16 : Int32).toUInt32 &&& Int32.toUInt32 31)).toInt32)) → res = (some (.int (y5 &&& 63)), G, I)) :
    Ev X d 80 0 [.int x0] [] G I res := by
  refine Ev_iload_n hq_80 (show decode prog_9_method_49_code 0 = .ok (.iload_n 0, 1) by decide +kernel) rfl ?_
  refine Ev_iload_n hq_80 (show decode prog_9_method_49_code 1 = .ok (.iload_n 0, 1) by decide +kernel) rfl ?_
  refine Ev_iconst (v := 1) hq_80 (show decode prog_9_method_49_code 2 = .ok (.iconst 1, 1) by decide +kernel) (by decide) ?_
  refine Ev_iushr hq_80 (show decode prog_9_method_49_code 3 = .ok (.iushr, 1) by decide +kernel) ?_
  refine Ev_ldcw (v := 1431655765) hq_80 (show decode prog_9_method_49_code 4 = .ok (.ldc_w 265, 3) by decide +kernel) rfl ?_
  refine Ev_iand hq_80 (show decode prog_9_method_49_code 7 = .ok (.iand, 1) by decide +kernel) ?_
  refine Ev_isub hq_80 (show decode prog_9_method_49_code 8 = .ok (.isub, 1) by decide +kernel) ?_
  obtain ⟨y1, ey1⟩ : ∃ y1 : Int32, y1 = (x0 - (((x0.toUInt32 >>> ((1 : Int32).toUInt32 &&& Int32.toUInt32 31)).toInt32) &&& 1431655765)) := ⟨_, rfl⟩
  have k := k y1 ey1
  rw [← ey1]
  refine Ev_istore_n (lo2 := [.int y1]) hq_80 (show decode prog_9_method_49_code 9 = .ok (.istore_n 0, 1) by decide +kernel) (z_le rfl) rfl ?_
  refine Ev_iload_n hq_80 (show decode prog_9_method_49_code 10 = .ok (.iload_n 0, 1) by decide +kernel) rfl ?_
  refine Ev_ldcw (v := 858993459) hq_80 (show decode prog_9_method_49_code 11 = .ok (.ldc_w 266, 3) by decide +kernel) rfl ?_
  refine Ev_iand hq_80 (show decode prog_9_method_49_code 14 = .ok (.iand, 1) by decide +kernel) ?_
  refine Ev_iload_n hq_80 (show decode prog_9_method_49_code 15 = .ok (.iload_n 0, 1) by decide +kernel) rfl ?_
  refine Ev_iconst (v := 2) hq_80 (show decode prog_9_method_49_code 16 = .ok (.iconst 2, 1) by decide +kernel) (by decide) ?_
  refine Ev_iushr hq_80 (show decode prog_9_method_49_code 17 = .ok (.iushr, 1) by decide +kernel) ?_
  refine Ev_ldcw (v := 858993459) hq_80 (show decode prog_9_method_49_code 18 = .ok (.ldc_w 266, 3) by decide +kernel) rfl ?_
  refine Ev_iand hq_80 (show decode prog_9_method_49_code 21 = .ok (.iand, 1) by decide +kernel) ?_
  refine Ev_iadd hq_80 (show decode prog_9_method_49_code 22 = .ok (.iadd, 1) by decide +kernel) ?_
  obtain ⟨y2, ey2⟩ : ∃ y2 : Int32, y2 = ((y1 &&& 858993459) + (((y1.toUInt32 >>> ((2 : Int32).toUInt32 &&& Int32.toUInt32 31)).toInt32) &&& 858993459)) := ⟨_, rfl⟩
  have k := k y2 ey2
  rw [← ey2]
  refine Ev_istore_n (lo2 := [.int y2]) hq_80 (show decode prog_9_method_49_code 23 = .ok (.istore_n 0, 1) by decide +kernel) (z_le rfl) rfl ?_
  refine Ev_iload_n hq_80 (show decode prog_9_method_49_code 24 = .ok (.iload_n 0, 1) by decide +kernel) rfl ?_
  refine Ev_iload_n hq_80 (show decode prog_9_method_49_code 25 = .ok (.iload_n 0, 1) by decide +kernel) rfl ?_
  refine Ev_iconst (v := 4) hq_80 (show decode prog_9_method_49_code 26 = .ok (.iconst 4, 1) by decide +kernel) (by decide) ?_
  refine Ev_iushr hq_80 (show decode prog_9_method_49_code 27 = .ok (.iushr, 1) by decide +kernel) ?_
  refine Ev_iadd hq_80 (show decode prog_9_method_49_code 28 = .ok (.iadd, 1) by decide +kernel) ?_
  refine Ev_ldcw (v := 252645135) hq_80 (show decode prog_9_method_49_code 29 = .ok (.ldc_w 267, 3) by decide +kernel) rfl ?_
  refine Ev_iand hq_80 (show decode prog_9_method_49_code 32 = .ok (.iand, 1) by decide +kernel) ?_
  obtain ⟨y3, ey3⟩ : ∃ y3 : Int32, y3 = ((y2 + ((y2.toUInt32 >>> ((4 : Int32).toUInt32 &&& Int32.toUInt32 31)).toInt32)) &&& 252645135) := ⟨_, rfl⟩
  have k := k y3 ey3
  rw [← ey3]
  refine Ev_istore_n (lo2 := [.int y3]) hq_80 (show decode prog_9_method_49_code 33 = .ok (.istore_n 0, 1) by decide +kernel) (z_le rfl) rfl ?_
  refine Ev_iload_n hq_80 (show decode prog_9_method_49_code 34 = .ok (.iload_n 0, 1) by decide +kernel) rfl ?_
  refine Ev_iload_n hq_80 (show decode prog_9_method_49_code 35 = .ok (.iload_n 0, 1) by decide +kernel) rfl ?_
  refine Ev_bipush (v := 8) hq_80 (show decode prog_9_method_49_code 36 = .ok (.bipush 8, 2) by decide +kernel) (by decide) ?_
  refine Ev_iushr hq_80 (show decode prog_9_method_49_code 38 = .ok (.iushr, 1) by decide +kernel) ?_
  refine Ev_iadd hq_80 (show decode prog_9_method_49_code 39 = .ok (.iadd, 1) by decide +kernel) ?_
  obtain ⟨y4, ey4⟩ : ∃ y4 : Int32, y4 = (y3 + ((y3.toUInt32 >>> ((8 : Int32).toUInt32 &&& Int32.toUInt32 31)).toInt32)) := ⟨_, rfl⟩
  have k := k y4 ey4
  rw [← ey4]
  refine Ev_istore_n (lo2 := [.int y4]) hq_80 (show decode prog_9_method_49_code 40 = .ok (.istore_n 0, 1) by decide +kernel) (z_le rfl) rfl ?_
  refine Ev_iload_n hq_80 (show decode prog_9_method_49_code 41 = .ok (.iload_n 0, 1) by decide +kernel) rfl ?_
  refine Ev_iload_n hq_80 (show decode prog_9_method_49_code 42 = .ok (.iload_n 0, 1) by decide +kernel) rfl ?_
  refine Ev_bipush (v := 16) hq_80 (show decode prog_9_method_49_code 43 = .ok (.bipush 16, 2) by decide +kernel) (by decide) ?_
  refine Ev_iushr hq_80 (show decode prog_9_method_49_code 45 = .ok (.iushr, 1) by decide +kernel) ?_
  refine Ev_iadd hq_80 (show decode prog_9_method_49_code 46 = .ok (.iadd, 1) by decide +kernel) ?_
  obtain ⟨y5, ey5⟩ : ∃ y5 : Int32, y5 = (y4 + ((y4.toUInt32 >>> ((16 : Int32).toUInt32 &&& Int32.toUInt32 31)).toInt32)) := ⟨_, rfl⟩
  have k := k y5 ey5
  rw [← ey5]
  refine Ev_istore_n (lo2 := [.int y5]) hq_80 (show decode prog_9_method_49_code 47 = .ok (.istore_n 0, 1) by decide +kernel) (z_le rfl) rfl ?_
  refine Ev_iload_n hq_80 (show decode prog_9_method_49_code 48 = .ok (.iload_n 0, 1) by decide +kernel) rfl ?_
  refine Ev_bipush (v := 63) hq_80 (show decode prog_9_method_49_code 49 = .ok (.bipush 63, 2) by decide +kernel) (by decide) ?_
  refine Ev_iand hq_80 (show decode prog_9_method_49_code 51 = .ok (.iand, 1) by decide +kernel) ?_
  exact Ev_iret hq_80 (show decode prog_9_method_49_code 52 = .ok (.ireturn, 1) by decide +kernel) rfl k
set_option maxRecDepth 20000 in
theorem wp_M_loudestBeat {X : Nat × (Nat → Int32)} {d : Nat} {G : zG} {I : zI} {res : Option Value × zG × zI} (x1 : Int32) 
    (k : Ev X d 78 7 [.ref 25, .int x1, .int (-1), .int 0, .int 0, zU] [] G I res) :
    Ev X d 78 0 [.ref 25, .int x1, zU, zU, zU, zU] [] G I res := by
  refine Ev_iconst (v := (-1)) hq_78 (show decode prog_4_method_12_code 0 = .ok (.iconst (-1), 1) by decide +kernel) (by decide) ?_
  refine Ev_istore_n (lo2 := [.ref 25, .int x1, .int (-1), zU, zU, zU]) hq_78 (show decode prog_4_method_12_code 1 = .ok (.istore_n 2, 1) by decide +kernel) (z_le rfl) rfl ?_
  refine Ev_iconst (v := 0) hq_78 (show decode prog_4_method_12_code 2 = .ok (.iconst 0, 1) by decide +kernel) (by decide) ?_
  refine Ev_istore_n (lo2 := [.ref 25, .int x1, .int (-1), .int 0, zU, zU]) hq_78 (show decode prog_4_method_12_code 3 = .ok (.istore_n 3, 1) by decide +kernel) (z_le rfl) rfl ?_
  refine Ev_iconst (v := 0) hq_78 (show decode prog_4_method_12_code 4 = .ok (.iconst 0, 1) by decide +kernel) (by decide) ?_
  refine Ev_istore (lo2 := [.ref 25, .int x1, .int (-1), .int 0, .int 0, zU]) hq_78 (show decode prog_4_method_12_code 5 = .ok (.istore 4, 2) by decide +kernel) (z_le rfl) rfl ?_
  exact k
set_option maxRecDepth 20000 in
theorem wp_M_loudestBeat_7 {X : Nat × (Nat → Int32)} {d : Nat} {G : zG} {I : zI} {res : Option Value × zG × zI} (x1 : Int32) (x2 : Int32) (x3 : Int32) (x4 : Int32) (v5 : Value) (cv5 : v5.category = 1) (hS : SG G) 
    (k : (30 ≤ x4 → res = (some (.int x2), G, I)) ∧ (¬ 30 ≤ x4 → ∃ (r4 : Int32) (I2 : zI), Cv X d 79 [.ref 25, .int x4, .int x1] G I (some (.int r4), G, I2) ∧ (∃ (r7 : Int32) (I5 : zI), Cv X d 80 [.int r4] G I2 (some (.int r7), G, I5) ∧ ((r7 ≤ x3 → ∀ y9 : Int32, y9 = x4 + 1 → Ev X (d + 1) 78 7 [.ref 25, .int x1, .int x2, .int x3, .int y9, .int r7] [] G I5 res) ∧ (¬ r7 ≤ x3 → ∀ y10 : Int32, y10 = x4 + 1 → Ev X (d + 1) 78 7 [.ref 25, .int x1, .int x4, .int r7, .int y10, .int r7] [] G I5 res))))) :
    Ev X (d + 1) 78 7 [.ref 25, .int x1, .int x2, .int x3, .int x4, v5] [] G I res := by
  refine Ev_iload hq_78 (show decode prog_4_method_12_code 7 = .ok (.iload 4, 2) by decide +kernel) rfl ?_
  refine Ev_bipush (v := 30) hq_78 (show decode prog_4_method_12_code 9 = .ok (.bipush 30, 2) by decide +kernel) (by decide) ?_
  refine Ev_icmp_ge (tgt := 44) hq_78 (show decode prog_4_method_12_code 11 = .ok (.if_icmp .ge 33, 3) by decide +kernel) (by decide) (fun c1 => ?_) (fun c1 => ?_)
  · have k := k.1 c1
    refine Ev_iload_n hq_78 (show decode prog_4_method_12_code 44 = .ok (.iload_n 2, 1) by decide +kernel) rfl ?_
    exact Ev_iret hq_78 (show decode prog_4_method_12_code 45 = .ok (.ireturn, 1) by decide +kernel) rfl k
  · have k := k.2 c1
    refine Ev_aload_n hq_78 (show decode prog_4_method_12_code 14 = .ok (.aload_n 0, 1) by decide +kernel) rfl ?_
    refine Ev_iload hq_78 (show decode prog_4_method_12_code 15 = .ok (.iload 4, 2) by decide +kernel) rfl ?_
    refine Ev_iload_n hq_78 (show decode prog_4_method_12_code 17 = .ok (.iload_n 1, 1) by decide +kernel) rfl ?_
    obtain ⟨r4, I2, h3, k⟩ := k
    refine Ev_virt (as := [.int x4, .int x1]) hq_78 (show decode prog_4_method_12_code 18 = .ok (.invokevirtual 104, 3) by decide +kernel) rfl hq_79 rfl (z_le rfl) ⟨(SGn hS (by decide)), (SGk hS rfl), by decide⟩ h3 ?_
    obtain ⟨r7, I5, h6, k⟩ := k
    refine Ev_stat (as := [.int r4]) hq_78 (show decode prog_4_method_12_code 21 = .ok (.invokestatic 107, 3) by decide +kernel) rfl (Or.inl rfl) hq_80 rfl (z_le rfl) h6 ?_
    refine Ev_istore (lo2 := [.ref 25, .int x1, .int x2, .int x3, .int x4, .int r7]) hq_78 (show decode prog_4_method_12_code 24 = .ok (.istore 5, 2) by decide +kernel) (z_le rfl) rfl ?_
    refine Ev_iload hq_78 (show decode prog_4_method_12_code 26 = .ok (.iload 5, 2) by decide +kernel) rfl ?_
    refine Ev_iload_n hq_78 (show decode prog_4_method_12_code 28 = .ok (.iload_n 3, 1) by decide +kernel) rfl ?_
    refine Ev_icmp_le (tgt := 38) hq_78 (show decode prog_4_method_12_code 29 = .ok (.if_icmp .le 9, 3) by decide +kernel) (by decide) (fun c8 => ?_) (fun c8 => ?_)
    · have k := k.1 c8
      obtain ⟨y9, ey9⟩ : ∃ y9 : Int32, y9 = x4 + 1 := ⟨_, rfl⟩
      have k := k y9 ey9
      refine Ev_iinc (v := y9) (lo2 := [.ref 25, .int x1, .int x2, .int x3, .int y9, .int r7]) hq_78 (show decode prog_4_method_12_code 38 = .ok (.iinc 4 1, 3) by decide +kernel) rfl (by rw [ey9]; rfl) rfl ?_
      refine Ev_goto (tgt := 7) hq_78 (show decode prog_4_method_12_code 41 = .ok (.goto (-34), 3) by decide +kernel) (by decide) ?_
      exact k
    · have k := k.2 c8
      refine Ev_iload hq_78 (show decode prog_4_method_12_code 32 = .ok (.iload 5, 2) by decide +kernel) rfl ?_
      refine Ev_istore_n (lo2 := [.ref 25, .int x1, .int x2, .int r7, .int x4, .int r7]) hq_78 (show decode prog_4_method_12_code 34 = .ok (.istore_n 3, 1) by decide +kernel) (z_le rfl) rfl ?_
      refine Ev_iload hq_78 (show decode prog_4_method_12_code 35 = .ok (.iload 4, 2) by decide +kernel) rfl ?_
      refine Ev_istore_n (lo2 := [.ref 25, .int x1, .int x4, .int r7, .int x4, .int r7]) hq_78 (show decode prog_4_method_12_code 37 = .ok (.istore_n 2, 1) by decide +kernel) (z_le rfl) rfl ?_
      obtain ⟨y10, ey10⟩ : ∃ y10 : Int32, y10 = x4 + 1 := ⟨_, rfl⟩
      have k := k y10 ey10
      refine Ev_iinc (v := y10) (lo2 := [.ref 25, .int x1, .int x4, .int r7, .int y10, .int r7]) hq_78 (show decode prog_4_method_12_code 38 = .ok (.iinc 4 1, 3) by decide +kernel) rfl (by rw [ey10]; rfl) rfl ?_
      refine Ev_goto (tgt := 7) hq_78 (show decode prog_4_method_12_code 41 = .ok (.goto (-34), 3) by decide +kernel) (by decide) ?_
      exact k
set_option maxRecDepth 20000 in
theorem wp_T_house {X : Nat × (Nat → Int32)} {d : Nat} {G : zG} {I : zI} {res : Option Value × zG × zI} (x1 : Int32) (hS : SG G) 
    (k : (¬ (f_T_within x1 0 2) = 0 → ∃ (I2 : zI), Cv X d 62 [.ref 0, .ref 1] G I (none, G, I2) ∧ ((¬ x1 = 0 → (¬ x1 = 1 → ∃ (r8 : Int32) (I6 : zI), Cv X d 78 [.ref 25, .int (I2 1 7)] G I2 (some (.int r8), G, I6) ∧ (res = (some (.int r8), G, I6))) ∧ (x1 = 1 → ∃ (r11 : Int32) (I9 : zI), Cv X d 77 [.ref 25, .int (I2 1 7)] G I2 (some (.int r11), G, I9) ∧ (res = (some (.int r11), G, I9)))) ∧ (x1 = 0 → ∃ (r14 : Int32) (I12 : zI), Cv X d 76 [.ref 25, .int (I2 1 7)] G I2 (some (.int r14), G, I12) ∧ (res = (some (.int r14), G, I12))))) ∧ ((f_T_within x1 0 2) = 0 → res = (some (.int (-2)), G, I))) :
    Ev X (d + 1) 75 0 [.ref 0, .int x1] [] G I res := by
  refine Ev_iload_n hq_75 (show decode prog_1_method_29_code 0 = .ok (.iload_n 1, 1) by decide +kernel) rfl ?_
  refine Ev_iconst (v := 0) hq_75 (show decode prog_1_method_29_code 1 = .ok (.iconst 0, 1) by decide +kernel) (by decide) ?_
  refine Ev_iconst (v := 2) hq_75 (show decode prog_1_method_29_code 2 = .ok (.iconst 2, 1) by decide +kernel) (by decide) ?_
  refine Ev_stat (as := [.int x1, .int 0, .int 2]) hq_75 (show decode prog_1_method_29_code 3 = .ok (.invokestatic 108, 3) by decide +kernel) rfl (Or.inl rfl) hq_32 rfl (z_le rfl) (c_T_within x1 0 2) ?_
  refine Ev_if_ne (tgt := 12) hq_75 (show decode prog_1_method_29_code 6 = .ok (.ifCond .ne 6, 3) by decide +kernel) (by decide) (fun c1 => ?_) (fun c1 => ?_)
  · have k := k.1 c1
    refine Ev_aload_n hq_75 (show decode prog_1_method_29_code 12 = .ok (.aload_n 0, 1) by decide +kernel) rfl ?_
    refine Ev_aload_n hq_75 (show decode prog_1_method_29_code 13 = .ok (.aload_n 0, 1) by decide +kernel) rfl ?_
    refine Ev_getR hq_75 (show decode prog_1_method_29_code 14 = .ok (.getfield 10, 3) by decide +kernel) rfl (SGn hS (by decide)) (SGk hS rfl) (by decide) rfl (SGr hS rfl) ?_
    obtain ⟨I2, h3, k⟩ := k
    refine Ev_virt (as := [.ref 1]) hq_75 (show decode prog_1_method_29_code 17 = .ok (.invokevirtual 187, 3) by decide +kernel) rfl hq_62 rfl (z_le rfl) ⟨(SGn hS (by decide)), (SGk hS rfl), by decide⟩ h3 ?_
    refine Ev_iload_n hq_75 (show decode prog_1_method_29_code 20 = .ok (.iload_n 1, 1) by decide +kernel) rfl ?_
    refine Ev_if_ne (tgt := 39) hq_75 (show decode prog_1_method_29_code 21 = .ok (.ifCond .ne 18, 3) by decide +kernel) (by decide) (fun c4 => ?_) (fun c4 => ?_)
    · have k := k.1 c4
      refine Ev_iload_n hq_75 (show decode prog_1_method_29_code 39 = .ok (.iload_n 1, 1) by decide +kernel) rfl ?_
      refine Ev_iconst (v := 1) hq_75 (show decode prog_1_method_29_code 40 = .ok (.iconst 1, 1) by decide +kernel) (by decide) ?_
      refine Ev_icmp_ne (tgt := 61) hq_75 (show decode prog_1_method_29_code 41 = .ok (.if_icmp .ne 20, 3) by decide +kernel) (by decide) (fun c5 => ?_) (fun c5 => ?_)
      · have k := k.1 c5
        refine Ev_aload_n hq_75 (show decode prog_1_method_29_code 61 = .ok (.aload_n 0, 1) by decide +kernel) rfl ?_
        refine Ev_getR hq_75 (show decode prog_1_method_29_code 62 = .ok (.getfield 29, 3) by decide +kernel) rfl (SGn hS (by decide)) (SGk hS rfl) (by decide) rfl (SGr hS rfl) ?_
        refine Ev_aload_n hq_75 (show decode prog_1_method_29_code 65 = .ok (.aload_n 0, 1) by decide +kernel) rfl ?_
        refine Ev_getR hq_75 (show decode prog_1_method_29_code 66 = .ok (.getfield 10, 3) by decide +kernel) rfl (SGn hS (by decide)) (SGk hS rfl) (by decide) rfl (SGr hS rfl) ?_
        refine Ev_getI hq_75 (show decode prog_1_method_29_code 69 = .ok (.getfield 100, 3) by decide +kernel) rfl (SGn hS (by decide)) (SGk hS rfl) (by decide) rfl ?_
        obtain ⟨r8, I6, h7, k⟩ := k
        refine Ev_virt (as := [.int (I2 1 7)]) hq_75 (show decode prog_1_method_29_code 72 = .ok (.invokevirtual 224, 3) by decide +kernel) rfl hq_78 rfl (z_le rfl) ⟨(SGn hS (by decide)), (SGk hS rfl), by decide⟩ h7 ?_
        exact Ev_iret hq_75 (show decode prog_1_method_29_code 75 = .ok (.ireturn, 1) by decide +kernel) rfl k
      · have k := k.2 (Classical.not_not.mp c5)
        refine Ev_aload_n hq_75 (show decode prog_1_method_29_code 44 = .ok (.aload_n 0, 1) by decide +kernel) rfl ?_
        refine Ev_getR hq_75 (show decode prog_1_method_29_code 45 = .ok (.getfield 29, 3) by decide +kernel) rfl (SGn hS (by decide)) (SGk hS rfl) (by decide) rfl (SGr hS rfl) ?_
        refine Ev_aload_n hq_75 (show decode prog_1_method_29_code 48 = .ok (.aload_n 0, 1) by decide +kernel) rfl ?_
        refine Ev_getR hq_75 (show decode prog_1_method_29_code 49 = .ok (.getfield 10, 3) by decide +kernel) rfl (SGn hS (by decide)) (SGk hS rfl) (by decide) rfl (SGr hS rfl) ?_
        refine Ev_getI hq_75 (show decode prog_1_method_29_code 52 = .ok (.getfield 100, 3) by decide +kernel) rfl (SGn hS (by decide)) (SGk hS rfl) (by decide) rfl ?_
        obtain ⟨r11, I9, h10, k⟩ := k
        refine Ev_virt (as := [.int (I2 1 7)]) hq_75 (show decode prog_1_method_29_code 55 = .ok (.invokevirtual 221, 3) by decide +kernel) rfl hq_77 rfl (z_le rfl) ⟨(SGn hS (by decide)), (SGk hS rfl), by decide⟩ h10 ?_
        refine Ev_goto (tgt := 75) hq_75 (show decode prog_1_method_29_code 58 = .ok (.goto 17, 3) by decide +kernel) (by decide) ?_
        exact Ev_iret hq_75 (show decode prog_1_method_29_code 75 = .ok (.ireturn, 1) by decide +kernel) rfl k
    · have k := k.2 (Classical.not_not.mp c4)
      refine Ev_aload_n hq_75 (show decode prog_1_method_29_code 24 = .ok (.aload_n 0, 1) by decide +kernel) rfl ?_
      refine Ev_getR hq_75 (show decode prog_1_method_29_code 25 = .ok (.getfield 29, 3) by decide +kernel) rfl (SGn hS (by decide)) (SGk hS rfl) (by decide) rfl (SGr hS rfl) ?_
      refine Ev_aload_n hq_75 (show decode prog_1_method_29_code 28 = .ok (.aload_n 0, 1) by decide +kernel) rfl ?_
      refine Ev_getR hq_75 (show decode prog_1_method_29_code 29 = .ok (.getfield 10, 3) by decide +kernel) rfl (SGn hS (by decide)) (SGk hS rfl) (by decide) rfl (SGr hS rfl) ?_
      refine Ev_getI hq_75 (show decode prog_1_method_29_code 32 = .ok (.getfield 100, 3) by decide +kernel) rfl (SGn hS (by decide)) (SGk hS rfl) (by decide) rfl ?_
      obtain ⟨r14, I12, h13, k⟩ := k
      refine Ev_virt (as := [.int (I2 1 7)]) hq_75 (show decode prog_1_method_29_code 35 = .ok (.invokevirtual 218, 3) by decide +kernel) rfl hq_76 rfl (z_le rfl) ⟨(SGn hS (by decide)), (SGk hS rfl), by decide⟩ h13 ?_
      exact Ev_iret hq_75 (show decode prog_1_method_29_code 38 = .ok (.ireturn, 1) by decide +kernel) rfl k
  · have k := k.2 (Classical.not_not.mp c1)
    refine Ev_bipush (v := (-2)) hq_75 (show decode prog_1_method_29_code 9 = .ok (.bipush (-2), 2) by decide +kernel) (by decide) ?_
    exact Ev_iret hq_75 (show decode prog_1_method_29_code 11 = .ok (.ireturn, 1) by decide +kernel) rfl k
set_option maxRecDepth 20000 in
theorem wp_T_pass {X : Nat × (Nat → Int32)} {d : Nat} {G : zG} {I : zI} {res : Option Value × zG × zI} (x1 : Int32) (hS : SG G) 
    (k : (¬ (f_T_within x1 0 30) = 0 → ∃ (w4 : Nat) (I2 : zI), Cv X d 48 [.ref 0, .ref 1] G I (some (.ref w4), G, I2) ∧ (∃ (I5 : zI), Cv X d 63 [.ref 25, .ref 1, .ref w4, .int x1, .int (-1)] G I2 (none, G, I5) ∧ (Ev X (d + 1) 81 36 [.ref 0, .int x1, .int 0] [] G I5 res))) ∧ ((f_T_within x1 0 30) = 0 → res = (some (.int (-2)), G, I))) :
    Ev X (d + 1) 81 0 [.ref 0, .int x1, zU] [] G I res := by
  refine Ev_iload_n hq_81 (show decode prog_1_method_30_code 0 = .ok (.iload_n 1, 1) by decide +kernel) rfl ?_
  refine Ev_iconst (v := 0) hq_81 (show decode prog_1_method_30_code 1 = .ok (.iconst 0, 1) by decide +kernel) (by decide) ?_
  refine Ev_bipush (v := 30) hq_81 (show decode prog_1_method_30_code 2 = .ok (.bipush 30, 2) by decide +kernel) (by decide) ?_
  refine Ev_stat (as := [.int x1, .int 0, .int 30]) hq_81 (show decode prog_1_method_30_code 4 = .ok (.invokestatic 108, 3) by decide +kernel) rfl (Or.inl rfl) hq_32 rfl (z_le rfl) (c_T_within x1 0 30) ?_
  refine Ev_if_ne (tgt := 13) hq_81 (show decode prog_1_method_30_code 7 = .ok (.ifCond .ne 6, 3) by decide +kernel) (by decide) (fun c1 => ?_) (fun c1 => ?_)
  · have k := k.1 c1
    refine Ev_aload_n hq_81 (show decode prog_1_method_30_code 13 = .ok (.aload_n 0, 1) by decide +kernel) rfl ?_
    refine Ev_getR hq_81 (show decode prog_1_method_30_code 14 = .ok (.getfield 29, 3) by decide +kernel) rfl (SGn hS (by decide)) (SGk hS rfl) (by decide) rfl (SGr hS rfl) ?_
    refine Ev_aload_n hq_81 (show decode prog_1_method_30_code 17 = .ok (.aload_n 0, 1) by decide +kernel) rfl ?_
    refine Ev_getR hq_81 (show decode prog_1_method_30_code 18 = .ok (.getfield 10, 3) by decide +kernel) rfl (SGn hS (by decide)) (SGk hS rfl) (by decide) rfl (SGr hS rfl) ?_
    refine Ev_aload_n hq_81 (show decode prog_1_method_30_code 21 = .ok (.aload_n 0, 1) by decide +kernel) rfl ?_
    refine Ev_aload_n hq_81 (show decode prog_1_method_30_code 22 = .ok (.aload_n 0, 1) by decide +kernel) rfl ?_
    refine Ev_getR hq_81 (show decode prog_1_method_30_code 23 = .ok (.getfield 10, 3) by decide +kernel) rfl (SGn hS (by decide)) (SGk hS rfl) (by decide) rfl (SGr hS rfl) ?_
    obtain ⟨w4, I2, h3, k⟩ := k
    refine Ev_virt (as := [.ref 1]) hq_81 (show decode prog_1_method_30_code 26 = .ok (.invokevirtual 130, 3) by decide +kernel) rfl hq_48 rfl (z_le rfl) ⟨(SGn hS (by decide)), (SGk hS rfl), by decide⟩ h3 ?_
    refine Ev_iload_n hq_81 (show decode prog_1_method_30_code 29 = .ok (.iload_n 1, 1) by decide +kernel) rfl ?_
    refine Ev_iconst (v := (-1)) hq_81 (show decode prog_1_method_30_code 30 = .ok (.iconst (-1), 1) by decide +kernel) (by decide) ?_
    obtain ⟨I5, h6, k⟩ := k
    refine Ev_virt (as := [.ref 1, .ref w4, .int x1, .int (-1)]) hq_81 (show decode prog_1_method_30_code 31 = .ok (.invokevirtual 181, 3) by decide +kernel) rfl hq_63 rfl (z_le rfl) ⟨(SGn hS (by decide)), (SGk hS rfl), by decide⟩ h6 ?_
    refine Ev_iconst (v := 0) hq_81 (show decode prog_1_method_30_code 34 = .ok (.iconst 0, 1) by decide +kernel) (by decide) ?_
    refine Ev_istore_n (lo2 := [.ref 0, .int x1, .int 0]) hq_81 (show decode prog_1_method_30_code 35 = .ok (.istore_n 2, 1) by decide +kernel) (z_le rfl) rfl ?_
    exact k
  · have k := k.2 (Classical.not_not.mp c1)
    refine Ev_bipush (v := (-2)) hq_81 (show decode prog_1_method_30_code 10 = .ok (.bipush (-2), 2) by decide +kernel) (by decide) ?_
    exact Ev_iret hq_81 (show decode prog_1_method_30_code 12 = .ok (.ireturn, 1) by decide +kernel) rfl k
set_option maxRecDepth 20000 in
theorem wp_T_pass_36 {X : Nat × (Nat → Int32)} {d : Nat} {G : zG} {I : zI} {res : Option Value × zG × zI} (x1 : Int32) (x2 : Int32) (hS : SG G) 
    (k : ((I 1 7) ≤ x2 → ∃ (r4 : Int32) (I2 : zI), Cv X d 76 [.ref 25, .int (I 1 7)] G I (some (.int r4), G, I2) ∧ (res = (some (.int r4), G, I2))) ∧ (¬ (I 1 7) ≤ x2 → z_inr x2 4 ∧ (z_inr x1 31 ∧ (z_inr x2 4 ∧ (∀ I9 : zI, I9 = z_up I 6 x2.toNatClampNeg (I (32 + x2.toNatClampNeg) x1.toNatClampNeg) → ∀ y10 : Int32, y10 = x2 + 1 → Ev X (d + 1) 81 36 [.ref 0, .int x1, .int y10] [] G I9 res))))) :
    Ev X (d + 1) 81 36 [.ref 0, .int x1, .int x2] [] G I res := by
  refine Ev_iload_n hq_81 (show decode prog_1_method_30_code 36 = .ok (.iload_n 2, 1) by decide +kernel) rfl ?_
  refine Ev_aload_n hq_81 (show decode prog_1_method_30_code 37 = .ok (.aload_n 0, 1) by decide +kernel) rfl ?_
  refine Ev_getR hq_81 (show decode prog_1_method_30_code 38 = .ok (.getfield 10, 3) by decide +kernel) rfl (SGn hS (by decide)) (SGk hS rfl) (by decide) rfl (SGr hS rfl) ?_
  refine Ev_getI hq_81 (show decode prog_1_method_30_code 41 = .ok (.getfield 100, 3) by decide +kernel) rfl (SGn hS (by decide)) (SGk hS rfl) (by decide) rfl ?_
  refine Ev_icmp_ge (tgt := 73) hq_81 (show decode prog_1_method_30_code 44 = .ok (.if_icmp .ge 29, 3) by decide +kernel) (by decide) (fun c1 => ?_) (fun c1 => ?_)
  · have k := k.1 c1
    refine Ev_aload_n hq_81 (show decode prog_1_method_30_code 73 = .ok (.aload_n 0, 1) by decide +kernel) rfl ?_
    refine Ev_getR hq_81 (show decode prog_1_method_30_code 74 = .ok (.getfield 29, 3) by decide +kernel) rfl (SGn hS (by decide)) (SGk hS rfl) (by decide) rfl (SGr hS rfl) ?_
    refine Ev_aload_n hq_81 (show decode prog_1_method_30_code 77 = .ok (.aload_n 0, 1) by decide +kernel) rfl ?_
    refine Ev_getR hq_81 (show decode prog_1_method_30_code 78 = .ok (.getfield 10, 3) by decide +kernel) rfl (SGn hS (by decide)) (SGk hS rfl) (by decide) rfl (SGr hS rfl) ?_
    refine Ev_getI hq_81 (show decode prog_1_method_30_code 81 = .ok (.getfield 100, 3) by decide +kernel) rfl (SGn hS (by decide)) (SGk hS rfl) (by decide) rfl ?_
    obtain ⟨r4, I2, h3, k⟩ := k
    refine Ev_virt (as := [.int (I 1 7)]) hq_81 (show decode prog_1_method_30_code 84 = .ok (.invokevirtual 218, 3) by decide +kernel) rfl hq_76 rfl (z_le rfl) ⟨(SGn hS (by decide)), (SGk hS rfl), by decide⟩ h3 ?_
    exact Ev_iret hq_81 (show decode prog_1_method_30_code 87 = .ok (.ireturn, 1) by decide +kernel) rfl k
  · have k := k.2 c1
    refine Ev_aload_n hq_81 (show decode prog_1_method_30_code 47 = .ok (.aload_n 0, 1) by decide +kernel) rfl ?_
    refine Ev_getR hq_81 (show decode prog_1_method_30_code 48 = .ok (.getfield 10, 3) by decide +kernel) rfl (SGn hS (by decide)) (SGk hS rfl) (by decide) rfl (SGr hS rfl) ?_
    refine Ev_getR hq_81 (show decode prog_1_method_30_code 51 = .ok (.getfield 227, 3) by decide +kernel) rfl (SGn hS (by decide)) (SGk hS rfl) (by decide) rfl (SGr hS rfl) ?_
    refine Ev_iload_n hq_81 (show decode prog_1_method_30_code 54 = .ok (.iload_n 2, 1) by decide +kernel) rfl ?_
    refine Ev_aload_n hq_81 (show decode prog_1_method_30_code 55 = .ok (.aload_n 0, 1) by decide +kernel) rfl ?_
    refine Ev_getR hq_81 (show decode prog_1_method_30_code 56 = .ok (.getfield 29, 3) by decide +kernel) rfl (SGn hS (by decide)) (SGk hS rfl) (by decide) rfl (SGr hS rfl) ?_
    refine Ev_getR hq_81 (show decode prog_1_method_30_code 59 = .ok (.getfield 194, 3) by decide +kernel) rfl (SGn hS (by decide)) (SGk hS rfl) (by decide) rfl (SGr hS rfl) ?_
    refine Ev_iload_n hq_81 (show decode prog_1_method_30_code 62 = .ok (.iload_n 2, 1) by decide +kernel) rfl ?_
    obtain ⟨h5, k⟩ := k
    have r6 := SGrow hS (a := 31) (b := 32) (n := 31) (Or.inr (Or.inl ⟨rfl, rfl, rfl⟩)) h5.2
    refine Ev_aald hq_81 (show decode prog_1_method_30_code 63 = .ok (.aaload, 1) by decide +kernel) (SGn hS (by decide)) (Or.inr (SGk hS rfl)) (SGi hS rfl h5) r6.1 ?_
    refine Ev_iload_n hq_81 (show decode prog_1_method_30_code 64 = .ok (.iload_n 1, 1) by decide +kernel) rfl ?_
    obtain ⟨h7, k⟩ := k
    refine Ev_iald hq_81 (show decode prog_1_method_30_code 65 = .ok (.iaload, 1) by decide +kernel) r6.2.1 r6.2.2.1 (by rw [r6.2.2.2]; exact h7) ?_
    obtain ⟨h8, k⟩ := k
    refine Ev_iast hq_81 (show decode prog_1_method_30_code 66 = .ok (.iastore, 1) by decide +kernel) (SGn hS (by decide)) (SGk hS rfl) (SGi hS rfl h8) ?_
    obtain ⟨I9, eI9⟩ : ∃ I9 : zI, I9 = z_up I 6 x2.toNatClampNeg (I (32 + x2.toNatClampNeg) x1.toNatClampNeg) := ⟨_, rfl⟩
    have k := k I9 eI9
    rw [← eI9]
    obtain ⟨y10, ey10⟩ : ∃ y10 : Int32, y10 = x2 + 1 := ⟨_, rfl⟩
    have k := k y10 ey10
    refine Ev_iinc (v := y10) (lo2 := [.ref 0, .int x1, .int y10]) hq_81 (show decode prog_1_method_30_code 67 = .ok (.iinc 2 1, 3) by decide +kernel) rfl (by rw [ey10]; rfl) rfl ?_
    refine Ev_goto (tgt := 36) hq_81 (show decode prog_1_method_30_code 70 = .ok (.goto (-34), 3) by decide +kernel) (by decide) ?_
    exact k
set_option maxRecDepth 20000 in
theorem wp_H_become {X : Nat × (Nat → Int32)} {d : Nat} {G : zG} {I : zI} {res : Option Value × zG × zI} (o : Nat) (o : Nat) (ho : HH G o) 
    (k : (0 ≤ (0 : Int32) ∧ 0 ≤ (0 : Int32) ∧ 0 ≤ (4 : Int32) ∧ (0 : Int32).toNatClampNeg + (4 : Int32).toNatClampNeg ≤ zl G (o + (0 + 1)) ∧ (0 : Int32).toNatClampNeg + (4 : Int32).toNatClampNeg ≤ zl G (o + (0 + 1))) ∧ (∀ I2 : zI, I2 = va_up I (o + (0 + 1)) (va_cpy (I (o + (0 + 1))) (I (o + (0 + 1))) (0 : Int32).toNatClampNeg (0 : Int32).toNatClampNeg (4 : Int32).toNatClampNeg) → (0 ≤ (0 : Int32) ∧ 0 ≤ (0 : Int32) ∧ 0 ≤ (4 : Int32) ∧ (0 : Int32).toNatClampNeg + (4 : Int32).toNatClampNeg ≤ zl G (o + (1 + 1)) ∧ (0 : Int32).toNatClampNeg + (4 : Int32).toNatClampNeg ≤ zl G (o + (1 + 1))) ∧ (∀ I4 : zI, I4 = va_up I2 (o + (1 + 1)) (va_cpy (I2 (o + (1 + 1))) (I2 (o + (1 + 1))) (0 : Int32).toNatClampNeg (0 : Int32).toNatClampNeg (4 : Int32).toNatClampNeg) → (0 ≤ (0 : Int32) ∧ 0 ≤ (0 : Int32) ∧ 0 ≤ (4 : Int32) ∧ (0 : Int32).toNatClampNeg + (4 : Int32).toNatClampNeg ≤ zl G (o + (2 + 1)) ∧ (0 : Int32).toNatClampNeg + (4 : Int32).toNatClampNeg ≤ zl G (o + (2 + 1))) ∧ (∀ I6 : zI, I6 = va_up I4 (o + (2 + 1)) (va_cpy (I4 (o + (2 + 1))) (I4 (o + (2 + 1))) (0 : Int32).toNatClampNeg (0 : Int32).toNatClampNeg (4 : Int32).toNatClampNeg) → (0 ≤ (0 : Int32) ∧ 0 ≤ (0 : Int32) ∧ 0 ≤ (4 : Int32) ∧ (0 : Int32).toNatClampNeg + (4 : Int32).toNatClampNeg ≤ zl G (o + (3 + 1)) ∧ (0 : Int32).toNatClampNeg + (4 : Int32).toNatClampNeg ≤ zl G (o + (3 + 1))) ∧ (∀ I8 : zI, I8 = va_up I6 (o + (3 + 1)) (va_cpy (I6 (o + (3 + 1))) (I6 (o + (3 + 1))) (0 : Int32).toNatClampNeg (0 : Int32).toNatClampNeg (4 : Int32).toNatClampNeg) → (0 ≤ (0 : Int32) ∧ 0 ≤ (0 : Int32) ∧ 0 ≤ (4 : Int32) ∧ (0 : Int32).toNatClampNeg + (4 : Int32).toNatClampNeg ≤ zl G (o + (4 + 1)) ∧ (0 : Int32).toNatClampNeg + (4 : Int32).toNatClampNeg ≤ zl G (o + (4 + 1))) ∧ (∀ I10 : zI, I10 = va_up I8 (o + (4 + 1)) (va_cpy (I8 (o + (4 + 1))) (I8 (o + (4 + 1))) (0 : Int32).toNatClampNeg (0 : Int32).toNatClampNeg (4 : Int32).toNatClampNeg) → (0 ≤ (0 : Int32) ∧ 0 ≤ (0 : Int32) ∧ 0 ≤ (4 : Int32) ∧ (0 : Int32).toNatClampNeg + (4 : Int32).toNatClampNeg ≤ zl G (o + (5 + 1)) ∧ (0 : Int32).toNatClampNeg + (4 : Int32).toNatClampNeg ≤ zl G (o + (5 + 1))) ∧ (∀ I12 : zI, I12 = va_up I10 (o + (5 + 1)) (va_cpy (I10 (o + (5 + 1))) (I10 (o + (5 + 1))) (0 : Int32).toNatClampNeg (0 : Int32).toNatClampNeg (4 : Int32).toNatClampNeg) → (0 ≤ (0 : Int32) ∧ 0 ≤ (0 : Int32) ∧ 0 ≤ (4 : Int32) ∧ (0 : Int32).toNatClampNeg + (4 : Int32).toNatClampNeg ≤ zl G (o + (6 + 1)) ∧ (0 : Int32).toNatClampNeg + (4 : Int32).toNatClampNeg ≤ zl G (o + (6 + 1))) ∧ (∀ I14 : zI, I14 = va_up I12 (o + (6 + 1)) (va_cpy (I12 (o + (6 + 1))) (I12 (o + (6 + 1))) (0 : Int32).toNatClampNeg (0 : Int32).toNatClampNeg (4 : Int32).toNatClampNeg) → (∀ I15 : zI, I15 = z_up I14 o 7 (I14 o 7) → (∀ I16 : zI, I16 = z_up I15 o 8 (I15 o 8) → res = (none, G, I16))))))))))) :
    Ev X (d + 1) 83 0 [.ref o, .ref o] [] G I res := by
  refine Ev_aload_n hq_83 (show decode prog_2_method_2_code 0 = .ok (.aload_n 1, 1) by decide +kernel) rfl ?_
  refine Ev_ifnonnull (tgt := 5) hq_83 (show decode prog_2_method_2_code 1 = .ok (.ifnonnull 4, 3) by decide +kernel) (by decide) ?_
  refine Ev_aload_n hq_83 (show decode prog_2_method_2_code 5 = .ok (.aload_n 1, 1) by decide +kernel) rfl ?_
  refine Ev_getR hq_83 (show decode prog_2_method_2_code 6 = .ok (.getfield 9, 3) by decide +kernel) rfl (VB.lt ho (by omega)) ho.2.1 (by decide) rfl (ho.2.2 0 (by decide)).1 ?_
  refine Ev_iconst (v := 0) hq_83 (show decode prog_2_method_2_code 9 = .ok (.iconst 0, 1) by decide +kernel) (by decide) ?_
  refine Ev_aload_n hq_83 (show decode prog_2_method_2_code 10 = .ok (.aload_n 0, 1) by decide +kernel) rfl ?_
  refine Ev_getR hq_83 (show decode prog_2_method_2_code 11 = .ok (.getfield 9, 3) by decide +kernel) rfl (VB.lt ho (by omega)) ho.2.1 (by decide) rfl (ho.2.2 0 (by decide)).1 ?_
  refine Ev_iconst (v := 0) hq_83 (show decode prog_2_method_2_code 14 = .ok (.iconst 0, 1) by decide +kernel) (by decide) ?_
  refine Ev_iconst (v := 4) hq_83 (show decode prog_2_method_2_code 15 = .ok (.iconst 4, 1) by decide +kernel) (by decide) ?_
  obtain ⟨h1, k⟩ := k
  refine Ev_copy hq_83 (show decode prog_2_method_2_code 16 = .ok (.invokestatic 40, 3) by decide +kernel) rfl ⟨z_le rfl, (VB.lt ho (by omega)), (VB.lt ho (by omega)), (ho.2.2 0 (by decide)).2.1, (ho.2.2 0 (by decide)).2.1, h1⟩ ?_
  obtain ⟨I2, eI2⟩ : ∃ I2 : zI, I2 = va_up I (o + (0 + 1)) (va_cpy (I (o + (0 + 1))) (I (o + (0 + 1))) (0 : Int32).toNatClampNeg (0 : Int32).toNatClampNeg (4 : Int32).toNatClampNeg) := ⟨_, rfl⟩
  have k := k I2 eI2
  rw [← eI2]
  refine Ev_aload_n hq_83 (show decode prog_2_method_2_code 19 = .ok (.aload_n 1, 1) by decide +kernel) rfl ?_
  refine Ev_getR hq_83 (show decode prog_2_method_2_code 20 = .ok (.getfield 15, 3) by decide +kernel) rfl (VB.lt ho (by omega)) ho.2.1 (by decide) rfl (ho.2.2 1 (by decide)).1 ?_
  refine Ev_iconst (v := 0) hq_83 (show decode prog_2_method_2_code 23 = .ok (.iconst 0, 1) by decide +kernel) (by decide) ?_
  refine Ev_aload_n hq_83 (show decode prog_2_method_2_code 24 = .ok (.aload_n 0, 1) by decide +kernel) rfl ?_
  refine Ev_getR hq_83 (show decode prog_2_method_2_code 25 = .ok (.getfield 15, 3) by decide +kernel) rfl (VB.lt ho (by omega)) ho.2.1 (by decide) rfl (ho.2.2 1 (by decide)).1 ?_
  refine Ev_iconst (v := 0) hq_83 (show decode prog_2_method_2_code 28 = .ok (.iconst 0, 1) by decide +kernel) (by decide) ?_
  refine Ev_iconst (v := 4) hq_83 (show decode prog_2_method_2_code 29 = .ok (.iconst 4, 1) by decide +kernel) (by decide) ?_
  obtain ⟨h3, k⟩ := k
  refine Ev_copy hq_83 (show decode prog_2_method_2_code 30 = .ok (.invokestatic 40, 3) by decide +kernel) rfl ⟨z_le rfl, (VB.lt ho (by omega)), (VB.lt ho (by omega)), (ho.2.2 1 (by decide)).2.1, (ho.2.2 1 (by decide)).2.1, h3⟩ ?_
  obtain ⟨I4, eI4⟩ : ∃ I4 : zI, I4 = va_up I2 (o + (1 + 1)) (va_cpy (I2 (o + (1 + 1))) (I2 (o + (1 + 1))) (0 : Int32).toNatClampNeg (0 : Int32).toNatClampNeg (4 : Int32).toNatClampNeg) := ⟨_, rfl⟩
  have k := k I4 eI4
  rw [← eI4]
  refine Ev_aload_n hq_83 (show decode prog_2_method_2_code 33 = .ok (.aload_n 1, 1) by decide +kernel) rfl ?_
  refine Ev_getR hq_83 (show decode prog_2_method_2_code 34 = .ok (.getfield 18, 3) by decide +kernel) rfl (VB.lt ho (by omega)) ho.2.1 (by decide) rfl (ho.2.2 2 (by decide)).1 ?_
  refine Ev_iconst (v := 0) hq_83 (show decode prog_2_method_2_code 37 = .ok (.iconst 0, 1) by decide +kernel) (by decide) ?_
  refine Ev_aload_n hq_83 (show decode prog_2_method_2_code 38 = .ok (.aload_n 0, 1) by decide +kernel) rfl ?_
  refine Ev_getR hq_83 (show decode prog_2_method_2_code 39 = .ok (.getfield 18, 3) by decide +kernel) rfl (VB.lt ho (by omega)) ho.2.1 (by decide) rfl (ho.2.2 2 (by decide)).1 ?_
  refine Ev_iconst (v := 0) hq_83 (show decode prog_2_method_2_code 42 = .ok (.iconst 0, 1) by decide +kernel) (by decide) ?_
  refine Ev_iconst (v := 4) hq_83 (show decode prog_2_method_2_code 43 = .ok (.iconst 4, 1) by decide +kernel) (by decide) ?_
  obtain ⟨h5, k⟩ := k
  refine Ev_copy hq_83 (show decode prog_2_method_2_code 44 = .ok (.invokestatic 40, 3) by decide +kernel) rfl ⟨z_le rfl, (VB.lt ho (by omega)), (VB.lt ho (by omega)), (ho.2.2 2 (by decide)).2.1, (ho.2.2 2 (by decide)).2.1, h5⟩ ?_
  obtain ⟨I6, eI6⟩ : ∃ I6 : zI, I6 = va_up I4 (o + (2 + 1)) (va_cpy (I4 (o + (2 + 1))) (I4 (o + (2 + 1))) (0 : Int32).toNatClampNeg (0 : Int32).toNatClampNeg (4 : Int32).toNatClampNeg) := ⟨_, rfl⟩
  have k := k I6 eI6
  rw [← eI6]
  refine Ev_aload_n hq_83 (show decode prog_2_method_2_code 47 = .ok (.aload_n 1, 1) by decide +kernel) rfl ?_
  refine Ev_getR hq_83 (show decode prog_2_method_2_code 48 = .ok (.getfield 21, 3) by decide +kernel) rfl (VB.lt ho (by omega)) ho.2.1 (by decide) rfl (ho.2.2 3 (by decide)).1 ?_
  refine Ev_iconst (v := 0) hq_83 (show decode prog_2_method_2_code 51 = .ok (.iconst 0, 1) by decide +kernel) (by decide) ?_
  refine Ev_aload_n hq_83 (show decode prog_2_method_2_code 52 = .ok (.aload_n 0, 1) by decide +kernel) rfl ?_
  refine Ev_getR hq_83 (show decode prog_2_method_2_code 53 = .ok (.getfield 21, 3) by decide +kernel) rfl (VB.lt ho (by omega)) ho.2.1 (by decide) rfl (ho.2.2 3 (by decide)).1 ?_
  refine Ev_iconst (v := 0) hq_83 (show decode prog_2_method_2_code 56 = .ok (.iconst 0, 1) by decide +kernel) (by decide) ?_
  refine Ev_iconst (v := 4) hq_83 (show decode prog_2_method_2_code 57 = .ok (.iconst 4, 1) by decide +kernel) (by decide) ?_
  obtain ⟨h7, k⟩ := k
  refine Ev_copy hq_83 (show decode prog_2_method_2_code 58 = .ok (.invokestatic 40, 3) by decide +kernel) rfl ⟨z_le rfl, (VB.lt ho (by omega)), (VB.lt ho (by omega)), (ho.2.2 3 (by decide)).2.1, (ho.2.2 3 (by decide)).2.1, h7⟩ ?_
  obtain ⟨I8, eI8⟩ : ∃ I8 : zI, I8 = va_up I6 (o + (3 + 1)) (va_cpy (I6 (o + (3 + 1))) (I6 (o + (3 + 1))) (0 : Int32).toNatClampNeg (0 : Int32).toNatClampNeg (4 : Int32).toNatClampNeg) := ⟨_, rfl⟩
  have k := k I8 eI8
  rw [← eI8]
  refine Ev_aload_n hq_83 (show decode prog_2_method_2_code 61 = .ok (.aload_n 1, 1) by decide +kernel) rfl ?_
  refine Ev_getR hq_83 (show decode prog_2_method_2_code 62 = .ok (.getfield 24, 3) by decide +kernel) rfl (VB.lt ho (by omega)) ho.2.1 (by decide) rfl (ho.2.2 4 (by decide)).1 ?_
  refine Ev_iconst (v := 0) hq_83 (show decode prog_2_method_2_code 65 = .ok (.iconst 0, 1) by decide +kernel) (by decide) ?_
  refine Ev_aload_n hq_83 (show decode prog_2_method_2_code 66 = .ok (.aload_n 0, 1) by decide +kernel) rfl ?_
  refine Ev_getR hq_83 (show decode prog_2_method_2_code 67 = .ok (.getfield 24, 3) by decide +kernel) rfl (VB.lt ho (by omega)) ho.2.1 (by decide) rfl (ho.2.2 4 (by decide)).1 ?_
  refine Ev_iconst (v := 0) hq_83 (show decode prog_2_method_2_code 70 = .ok (.iconst 0, 1) by decide +kernel) (by decide) ?_
  refine Ev_iconst (v := 4) hq_83 (show decode prog_2_method_2_code 71 = .ok (.iconst 4, 1) by decide +kernel) (by decide) ?_
  obtain ⟨h9, k⟩ := k
  refine Ev_copy hq_83 (show decode prog_2_method_2_code 72 = .ok (.invokestatic 40, 3) by decide +kernel) rfl ⟨z_le rfl, (VB.lt ho (by omega)), (VB.lt ho (by omega)), (ho.2.2 4 (by decide)).2.1, (ho.2.2 4 (by decide)).2.1, h9⟩ ?_
  obtain ⟨I10, eI10⟩ : ∃ I10 : zI, I10 = va_up I8 (o + (4 + 1)) (va_cpy (I8 (o + (4 + 1))) (I8 (o + (4 + 1))) (0 : Int32).toNatClampNeg (0 : Int32).toNatClampNeg (4 : Int32).toNatClampNeg) := ⟨_, rfl⟩
  have k := k I10 eI10
  rw [← eI10]
  refine Ev_aload_n hq_83 (show decode prog_2_method_2_code 75 = .ok (.aload_n 1, 1) by decide +kernel) rfl ?_
  refine Ev_getR hq_83 (show decode prog_2_method_2_code 76 = .ok (.getfield 27, 3) by decide +kernel) rfl (VB.lt ho (by omega)) ho.2.1 (by decide) rfl (ho.2.2 5 (by decide)).1 ?_
  refine Ev_iconst (v := 0) hq_83 (show decode prog_2_method_2_code 79 = .ok (.iconst 0, 1) by decide +kernel) (by decide) ?_
  refine Ev_aload_n hq_83 (show decode prog_2_method_2_code 80 = .ok (.aload_n 0, 1) by decide +kernel) rfl ?_
  refine Ev_getR hq_83 (show decode prog_2_method_2_code 81 = .ok (.getfield 27, 3) by decide +kernel) rfl (VB.lt ho (by omega)) ho.2.1 (by decide) rfl (ho.2.2 5 (by decide)).1 ?_
  refine Ev_iconst (v := 0) hq_83 (show decode prog_2_method_2_code 84 = .ok (.iconst 0, 1) by decide +kernel) (by decide) ?_
  refine Ev_iconst (v := 4) hq_83 (show decode prog_2_method_2_code 85 = .ok (.iconst 4, 1) by decide +kernel) (by decide) ?_
  obtain ⟨h11, k⟩ := k
  refine Ev_copy hq_83 (show decode prog_2_method_2_code 86 = .ok (.invokestatic 40, 3) by decide +kernel) rfl ⟨z_le rfl, (VB.lt ho (by omega)), (VB.lt ho (by omega)), (ho.2.2 5 (by decide)).2.1, (ho.2.2 5 (by decide)).2.1, h11⟩ ?_
  obtain ⟨I12, eI12⟩ : ∃ I12 : zI, I12 = va_up I10 (o + (5 + 1)) (va_cpy (I10 (o + (5 + 1))) (I10 (o + (5 + 1))) (0 : Int32).toNatClampNeg (0 : Int32).toNatClampNeg (4 : Int32).toNatClampNeg) := ⟨_, rfl⟩
  have k := k I12 eI12
  rw [← eI12]
  refine Ev_aload_n hq_83 (show decode prog_2_method_2_code 89 = .ok (.aload_n 1, 1) by decide +kernel) rfl ?_
  refine Ev_getR hq_83 (show decode prog_2_method_2_code 90 = .ok (.getfield 30, 3) by decide +kernel) rfl (VB.lt ho (by omega)) ho.2.1 (by decide) rfl (ho.2.2 6 (by decide)).1 ?_
  refine Ev_iconst (v := 0) hq_83 (show decode prog_2_method_2_code 93 = .ok (.iconst 0, 1) by decide +kernel) (by decide) ?_
  refine Ev_aload_n hq_83 (show decode prog_2_method_2_code 94 = .ok (.aload_n 0, 1) by decide +kernel) rfl ?_
  refine Ev_getR hq_83 (show decode prog_2_method_2_code 95 = .ok (.getfield 30, 3) by decide +kernel) rfl (VB.lt ho (by omega)) ho.2.1 (by decide) rfl (ho.2.2 6 (by decide)).1 ?_
  refine Ev_iconst (v := 0) hq_83 (show decode prog_2_method_2_code 98 = .ok (.iconst 0, 1) by decide +kernel) (by decide) ?_
  refine Ev_iconst (v := 4) hq_83 (show decode prog_2_method_2_code 99 = .ok (.iconst 4, 1) by decide +kernel) (by decide) ?_
  obtain ⟨h13, k⟩ := k
  refine Ev_copy hq_83 (show decode prog_2_method_2_code 100 = .ok (.invokestatic 40, 3) by decide +kernel) rfl ⟨z_le rfl, (VB.lt ho (by omega)), (VB.lt ho (by omega)), (ho.2.2 6 (by decide)).2.1, (ho.2.2 6 (by decide)).2.1, h13⟩ ?_
  obtain ⟨I14, eI14⟩ : ∃ I14 : zI, I14 = va_up I12 (o + (6 + 1)) (va_cpy (I12 (o + (6 + 1))) (I12 (o + (6 + 1))) (0 : Int32).toNatClampNeg (0 : Int32).toNatClampNeg (4 : Int32).toNatClampNeg) := ⟨_, rfl⟩
  have k := k I14 eI14
  rw [← eI14]
  refine Ev_aload_n hq_83 (show decode prog_2_method_2_code 103 = .ok (.aload_n 0, 1) by decide +kernel) rfl ?_
  refine Ev_aload_n hq_83 (show decode prog_2_method_2_code 104 = .ok (.aload_n 1, 1) by decide +kernel) rfl ?_
  refine Ev_getI hq_83 (show decode prog_2_method_2_code 105 = .ok (.getfield 33, 3) by decide +kernel) rfl (VB.lt ho (by omega)) ho.2.1 (by decide) rfl ?_
  refine Ev_putI hq_83 (show decode prog_2_method_2_code 108 = .ok (.putfield 33, 3) by decide +kernel) rfl (VB.lt ho (by omega)) ho.2.1 (by decide) (by decide) rfl (fun hz => by cases hz) ?_
  obtain ⟨I15, eI15⟩ : ∃ I15 : zI, I15 = z_up I14 o 7 (I14 o 7) := ⟨_, rfl⟩
  have k := k I15 eI15
  rw [← eI15]
  refine Ev_aload_n hq_83 (show decode prog_2_method_2_code 111 = .ok (.aload_n 0, 1) by decide +kernel) rfl ?_
  refine Ev_aload_n hq_83 (show decode prog_2_method_2_code 112 = .ok (.aload_n 1, 1) by decide +kernel) rfl ?_
  refine Ev_getI hq_83 (show decode prog_2_method_2_code 113 = .ok (.getfield 37, 3) by decide +kernel) rfl (VB.lt ho (by omega)) ho.2.1 (by decide) rfl ?_
  refine Ev_putI hq_83 (show decode prog_2_method_2_code 116 = .ok (.putfield 37, 3) by decide +kernel) rfl (VB.lt ho (by omega)) ho.2.1 (by decide) (by decide) rfl (fun hz => by cases hz) ?_
  obtain ⟨I16, eI16⟩ : ∃ I16 : zI, I16 = z_up I15 o 8 (I15 o 8) := ⟨_, rfl⟩
  have k := k I16 eI16
  rw [← eI16]
  exact Ev_vret hq_83 (show decode prog_2_method_2_code 119 = .ok (.return_, 1) by decide +kernel) k
