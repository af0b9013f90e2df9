set_option maxRecDepth 20000 in
theorem wp_T_within {X : Nat × (Nat → Int32)} {d : Nat} {G : zG} {I : zI} {res : Option Value × zG × zI} (x0 : Int32) (x1 : Int32) (x2 : Int32) 
    (k : (x0 < x1 → res = (some (.int 0), G, I)) ∧ (¬ x0 < x1 → (x2 < x0 → res = (some (.int 0), G, I)) ∧ (¬ x2 < x0 → res = (some (.int 1), G, I)))) :
    Ev X d 32 0 [.int x0, .int x1, .int x2] [] G I res := by
  refine Ev_iload_n hq_32 (show decode prog_1_method_17_code 0 = .ok (.iload_n 0, 1) by decide +kernel) rfl ?_
  refine Ev_iload_n hq_32 (show decode prog_1_method_17_code 1 = .ok (.iload_n 1, 1) by decide +kernel) rfl ?_
  refine Ev_icmp_lt (tgt := 14) hq_32 (show decode prog_1_method_17_code 2 = .ok (.if_icmp .lt 12, 3) by decide +kernel) (by decide) (fun c1 => ?_) (fun c1 => ?_)
  · have k := k.1 c1
    refine Ev_iconst (v := 0) hq_32 (show decode prog_1_method_17_code 14 = .ok (.iconst 0, 1) by decide +kernel) (by decide) ?_
    exact Ev_iret hq_32 (show decode prog_1_method_17_code 15 = .ok (.ireturn, 1) by decide +kernel) rfl k
  · have k := k.2 c1
    refine Ev_iload_n hq_32 (show decode prog_1_method_17_code 5 = .ok (.iload_n 0, 1) by decide +kernel) rfl ?_
    refine Ev_iload_n hq_32 (show decode prog_1_method_17_code 6 = .ok (.iload_n 2, 1) by decide +kernel) rfl ?_
    refine Ev_icmp_gt (tgt := 14) hq_32 (show decode prog_1_method_17_code 7 = .ok (.if_icmp .gt 7, 3) by decide +kernel) (by decide) (fun c2 => ?_) (fun c2 => ?_)
    · have k := k.1 c2
      refine Ev_iconst (v := 0) hq_32 (show decode prog_1_method_17_code 14 = .ok (.iconst 0, 1) by decide +kernel) (by decide) ?_
      exact Ev_iret hq_32 (show decode prog_1_method_17_code 15 = .ok (.ireturn, 1) by decide +kernel) rfl k
    · have k := k.2 c2
      refine Ev_iconst (v := 1) hq_32 (show decode prog_1_method_17_code 10 = .ok (.iconst 1, 1) by decide +kernel) (by decide) ?_
      refine Ev_goto (tgt := 15) hq_32 (show decode prog_1_method_17_code 11 = .ok (.goto 4, 3) by decide +kernel) (by decide) ?_
      exact Ev_iret hq_32 (show decode prog_1_method_17_code 15 = .ok (.ireturn, 1) by decide +kernel) rfl k
set_option maxRecDepth 20000 in
theorem wp_T_bounded {X : Nat × (Nat → Int32)} {d : Nat} {G : zG} {I : zI} {res : Option Value × zG × zI} (x0 : Int32) (x1 : Int32) (x2 : Int32) 
    (k : (x1 ≤ x0 → (x0 ≤ x2 → res = (some (.int x0), G, I)) ∧ (¬ x0 ≤ x2 → res = (some (.int x2), G, I))) ∧ (¬ x1 ≤ x0 → res = (some (.int x1), G, I))) :
    Ev X d 13 0 [.int x0, .int x1, .int x2] [] G I res := by
  refine Ev_iload_n hq_13 (show decode prog_1_method_18_code 0 = .ok (.iload_n 0, 1) by decide +kernel) rfl ?_
  refine Ev_iload_n hq_13 (show decode prog_1_method_18_code 1 = .ok (.iload_n 1, 1) by decide +kernel) rfl ?_
  refine Ev_icmp_ge (tgt := 7) hq_13 (show decode prog_1_method_18_code 2 = .ok (.if_icmp .ge 5, 3) by decide +kernel) (by decide) (fun c1 => ?_) (fun c1 => ?_)
  · have k := k.1 c1
    refine Ev_iload_n hq_13 (show decode prog_1_method_18_code 7 = .ok (.iload_n 0, 1) by decide +kernel) rfl ?_
    refine Ev_iload_n hq_13 (show decode prog_1_method_18_code 8 = .ok (.iload_n 2, 1) by decide +kernel) rfl ?_
    refine Ev_icmp_le (tgt := 16) hq_13 (show decode prog_1_method_18_code 9 = .ok (.if_icmp .le 7, 3) by decide +kernel) (by decide) (fun c2 => ?_) (fun c2 => ?_)
    · have k := k.1 c2
      refine Ev_iload_n hq_13 (show decode prog_1_method_18_code 16 = .ok (.iload_n 0, 1) by decide +kernel) rfl ?_
      exact Ev_iret hq_13 (show decode prog_1_method_18_code 17 = .ok (.ireturn, 1) by decide +kernel) rfl k
    · have k := k.2 c2
      refine Ev_iload_n hq_13 (show decode prog_1_method_18_code 12 = .ok (.iload_n 2, 1) by decide +kernel) rfl ?_
      refine Ev_goto (tgt := 17) hq_13 (show decode prog_1_method_18_code 13 = .ok (.goto 4, 3) by decide +kernel) (by decide) ?_
      exact Ev_iret hq_13 (show decode prog_1_method_18_code 17 = .ok (.ireturn, 1) by decide +kernel) rfl k
  · have k := k.2 c1
    refine Ev_iload_n hq_13 (show decode prog_1_method_18_code 5 = .ok (.iload_n 1, 1) by decide +kernel) rfl ?_
    exact Ev_iret hq_13 (show decode prog_1_method_18_code 6 = .ok (.ireturn, 1) by decide +kernel) rfl k
set_option maxRecDepth 20000 in
theorem wp_T_force {X : Nat × (Nat → Int32)} {d : Nat} {G : zG} {I : zI} {res : Option Value × zG × zI} (x1 : Int32) (hS : SG G) 
    (k : ∃ (r3 : Int32) (I1 : zI), Cv X d 32 [.int x1, .int 0, .int ((I 0 7) - 1)] G I (some (.int r3), G, I1) ∧ ((¬ r3 = 0 → ∀ y5 : Int32, y5 = (I1 1 8) → (∀ I6 : zI, I6 = z_up I1 1 8 x1 → res = (some (.int y5), G, I6))) ∧ (r3 = 0 → res = (some (.int (-2)), G, I1)))) :
    Ev X (d + 1) 43 0 [.ref 0, .int x1, zU] [] G I res := by
  refine Ev_iload_n hq_43 (show decode prog_1_method_7_code 0 = .ok (.iload_n 1, 1) by decide +kernel) rfl ?_
  refine Ev_iconst (v := 0) hq_43 (show decode prog_1_method_7_code 1 = .ok (.iconst 0, 1) by decide +kernel) (by decide) ?_
  refine Ev_aload_n hq_43 (show decode prog_1_method_7_code 2 = .ok (.aload_n 0, 1) by decide +kernel) rfl ?_
  refine Ev_getI hq_43 (show decode prog_1_method_7_code 3 = .ok (.getfield 46, 3) by decide +kernel) rfl (SGn hS (by decide)) (SGk hS rfl) (by decide) rfl ?_
  refine Ev_iconst (v := 1) hq_43 (show decode prog_1_method_7_code 6 = .ok (.iconst 1, 1) by decide +kernel) (by decide) ?_
  refine Ev_isub hq_43 (show decode prog_1_method_7_code 7 = .ok (.isub, 1) by decide +kernel) ?_
  obtain ⟨r3, I1, h2, k⟩ := k
  refine Ev_stat (as := [.int x1, .int 0, .int ((I 0 7) - 1)]) hq_43 (show decode prog_1_method_7_code 8 = .ok (.invokestatic 108, 3) by decide +kernel) rfl (Or.inl rfl) hq_32 rfl (z_le rfl) h2 ?_
  refine Ev_if_ne (tgt := 17) hq_43 (show decode prog_1_method_7_code 11 = .ok (.ifCond .ne 6, 3) by decide +kernel) (by decide) (fun c4 => ?_) (fun c4 => ?_)
  · have k := k.1 c4
    refine Ev_aload_n hq_43 (show decode prog_1_method_7_code 17 = .ok (.aload_n 0, 1) by decide +kernel) rfl ?_
    refine Ev_getR hq_43 (show decode prog_1_method_7_code 18 = .ok (.getfield 10, 3) by decide +kernel) rfl (SGn hS (by decide)) (SGk hS rfl) (by decide) rfl (SGr hS rfl) ?_
    refine Ev_getI hq_43 (show decode prog_1_method_7_code 21 = .ok (.getfield 106, 3) by decide +kernel) rfl (SGn hS (by decide)) (SGk hS rfl) (by decide) rfl ?_
    obtain ⟨y5, ey5⟩ : ∃ y5 : Int32, y5 = (I1 1 8) := ⟨_, rfl⟩
    have k := k y5 ey5
    rw [← ey5]
    refine Ev_istore_n (lo2 := [.ref 0, .int x1, .int y5]) hq_43 (show decode prog_1_method_7_code 24 = .ok (.istore_n 2, 1) by decide +kernel) (z_le rfl) rfl ?_
    refine Ev_aload_n hq_43 (show decode prog_1_method_7_code 25 = .ok (.aload_n 0, 1) by decide +kernel) rfl ?_
    refine Ev_getR hq_43 (show decode prog_1_method_7_code 26 = .ok (.getfield 10, 3) by decide +kernel) rfl (SGn hS (by decide)) (SGk hS rfl) (by decide) rfl (SGr hS rfl) ?_
    refine Ev_iload_n hq_43 (show decode prog_1_method_7_code 29 = .ok (.iload_n 1, 1) by decide +kernel) rfl ?_
    refine Ev_putI hq_43 (show decode prog_1_method_7_code 30 = .ok (.putfield 106, 3) by decide +kernel) rfl (SGn hS (by decide)) (SGk hS rfl) (by decide) (by decide) rfl (fun hz => by cases hz) ?_
    obtain ⟨I6, eI6⟩ : ∃ I6 : zI, I6 = z_up I1 1 8 x1 := ⟨_, rfl⟩
    have k := k I6 eI6
    rw [← eI6]
    refine Ev_iload_n hq_43 (show decode prog_1_method_7_code 33 = .ok (.iload_n 2, 1) by decide +kernel) rfl ?_
    exact Ev_iret hq_43 (show decode prog_1_method_7_code 34 = .ok (.ireturn, 1) by decide +kernel) rfl k
  · have k := k.2 (Classical.not_not.mp c4)
    refine Ev_bipush (v := (-2)) hq_43 (show decode prog_1_method_7_code 14 = .ok (.bipush (-2), 2) by decide +kernel) (by decide) ?_
    exact Ev_iret hq_43 (show decode prog_1_method_7_code 16 = .ok (.ireturn, 1) by decide +kernel) rfl k
set_option maxRecDepth 20000 in
theorem wp_T_isShower {X : Nat × (Nat → Int32)} {d : Nat} {G : zG} {I : zI} {res : Option Value × zG × zI} (x1 : Int32) (hS : SG G) 
    (k : ∃ (r3 : Int32) (I1 : zI), Cv X d 32 [.int x1, .int 0, .int ((I 1 7) - 1)] G I (some (.int r3), G, I1) ∧ ((r3 = 0 ∨ r3 = 1) ∧ res = (some (.int r3), G, I1))) :
    Ev X (d + 1) 45 0 [.ref 0, .int x1] [] G I res := by
  refine Ev_iload_n hq_45 (show decode prog_1_method_14_code 0 = .ok (.iload_n 1, 1) by decide +kernel) rfl ?_
  refine Ev_iconst (v := 0) hq_45 (show decode prog_1_method_14_code 1 = .ok (.iconst 0, 1) by decide +kernel) (by decide) ?_
  refine Ev_aload_n hq_45 (show decode prog_1_method_14_code 2 = .ok (.aload_n 0, 1) by decide +kernel) rfl ?_
  refine Ev_getR hq_45 (show decode prog_1_method_14_code 3 = .ok (.getfield 10, 3) by decide +kernel) rfl (SGn hS (by decide)) (SGk hS rfl) (by decide) rfl (SGr hS rfl) ?_
  refine Ev_getI hq_45 (show decode prog_1_method_14_code 6 = .ok (.getfield 100, 3) by decide +kernel) rfl (SGn hS (by decide)) (SGk hS rfl) (by decide) rfl ?_
  refine Ev_iconst (v := 1) hq_45 (show decode prog_1_method_14_code 9 = .ok (.iconst 1, 1) by decide +kernel) (by decide) ?_
  refine Ev_isub hq_45 (show decode prog_1_method_14_code 10 = .ok (.isub, 1) by decide +kernel) ?_
  obtain ⟨r3, I1, h2, k⟩ := k
  refine Ev_stat (as := [.int x1, .int 0, .int ((I 1 7) - 1)]) hq_45 (show decode prog_1_method_14_code 11 = .ok (.invokestatic 108, 3) by decide +kernel) rfl (Or.inl rfl) hq_32 rfl (z_le rfl) h2 ?_
  obtain ⟨h4, k⟩ := k
  exact Ev_iret hq_45 (show decode prog_1_method_14_code 14 = .ok (.ireturn, 1) by decide +kernel) (z_nb h4) k
set_option maxRecDepth 20000 in
theorem wp_H_numberOf {X : Nat × (Nat → Int32)} {d : Nat} {G : zG} {I : zI} {res : Option Value × zG × zI} (o : Nat) (x1 : Int32) (x2 : Int32) (ho : HH G o) 
    (k : (x2 = 0 → z_inr x1 4 ∧ (res = (some (.int (I (o + (2 + 1)) x1.toNatClampNeg)), G, I))) ∧ (¬ x2 = 0 → (x2 = 1 → z_inr x1 4 ∧ (res = (some (.int (I (o + (3 + 1)) x1.toNatClampNeg)), G, I))) ∧ (¬ x2 = 1 → (x2 = 2 → z_inr x1 4 ∧ (res = (some (.int (I (o + (4 + 1)) x1.toNatClampNeg)), G, I))) ∧ (¬ x2 = 2 → (x2 = 3 → z_inr x1 4 ∧ (res = (some (.int (I (o + (5 + 1)) x1.toNatClampNeg)), G, I))) ∧ (¬ x2 = 3 → z_inr x1 4 ∧ (res = (some (.int (I (o + (6 + 1)) x1.toNatClampNeg)), G, I))))))) :
    Ev X d 57 0 [.ref o, .int x1, .int x2] [] G I res := by
  refine Ev_iload_n hq_57 (show decode prog_2_method_4_code 0 = .ok (.iload_n 2, 1) by decide +kernel) rfl ?_
  by_cases c1 : x2 = 0
  · have k := k.1 c1
    rw [c1]
    refine Ev_tableIn (off := 31) (tgt := 32) hq_57 (show decode prog_2_method_4_code 1 = .ok (.tableswitch 59 0 3 #[31, 38, 45, 52], 31) by decide +kernel) (by decide) (by decide) (by decide) (by decide) ?_
    refine Ev_aload_n hq_57 (show decode prog_2_method_4_code 32 = .ok (.aload_n 0, 1) by decide +kernel) rfl ?_
    refine Ev_getR hq_57 (show decode prog_2_method_4_code 33 = .ok (.getfield 18, 3) by decide +kernel) rfl (VB.lt ho (by omega)) ho.2.1 (by decide) rfl (ho.2.2 2 (by decide)).1 ?_
    refine Ev_iload_n hq_57 (show decode prog_2_method_4_code 36 = .ok (.iload_n 1, 1) by decide +kernel) rfl ?_
    obtain ⟨h2, k⟩ := k
    refine Ev_iald hq_57 (show decode prog_2_method_4_code 37 = .ok (.iaload, 1) by decide +kernel) (VB.lt ho (by omega)) (ho.2.2 2 (by decide)).2.1 (VB.inr ho (j := 2) (by decide) rfl h2) ?_
    exact Ev_iret hq_57 (show decode prog_2_method_4_code 38 = .ok (.ireturn, 1) by decide +kernel) rfl k
  have k := k.2 c1
  by_cases c3 : x2 = 1
  · have k := k.1 c3
    rw [c3]
    refine Ev_tableIn (off := 38) (tgt := 39) hq_57 (show decode prog_2_method_4_code 1 = .ok (.tableswitch 59 0 3 #[31, 38, 45, 52], 31) by decide +kernel) (by decide) (by decide) (by decide) (by decide) ?_
    refine Ev_aload_n hq_57 (show decode prog_2_method_4_code 39 = .ok (.aload_n 0, 1) by decide +kernel) rfl ?_
    refine Ev_getR hq_57 (show decode prog_2_method_4_code 40 = .ok (.getfield 21, 3) by decide +kernel) rfl (VB.lt ho (by omega)) ho.2.1 (by decide) rfl (ho.2.2 3 (by decide)).1 ?_
    refine Ev_iload_n hq_57 (show decode prog_2_method_4_code 43 = .ok (.iload_n 1, 1) by decide +kernel) rfl ?_
    obtain ⟨h4, k⟩ := k
    refine Ev_iald hq_57 (show decode prog_2_method_4_code 44 = .ok (.iaload, 1) by decide +kernel) (VB.lt ho (by omega)) (ho.2.2 3 (by decide)).2.1 (VB.inr ho (j := 3) (by decide) rfl h4) ?_
    exact Ev_iret hq_57 (show decode prog_2_method_4_code 45 = .ok (.ireturn, 1) by decide +kernel) rfl k
  have k := k.2 c3
  by_cases c5 : x2 = 2
  · have k := k.1 c5
    rw [c5]
    refine Ev_tableIn (off := 45) (tgt := 46) hq_57 (show decode prog_2_method_4_code 1 = .ok (.tableswitch 59 0 3 #[31, 38, 45, 52], 31) by decide +kernel) (by decide) (by decide) (by decide) (by decide) ?_
    refine Ev_aload_n hq_57 (show decode prog_2_method_4_code 46 = .ok (.aload_n 0, 1) by decide +kernel) rfl ?_
    refine Ev_getR hq_57 (show decode prog_2_method_4_code 47 = .ok (.getfield 24, 3) by decide +kernel) rfl (VB.lt ho (by omega)) ho.2.1 (by decide) rfl (ho.2.2 4 (by decide)).1 ?_
    refine Ev_iload_n hq_57 (show decode prog_2_method_4_code 50 = .ok (.iload_n 1, 1) by decide +kernel) rfl ?_
    obtain ⟨h6, k⟩ := k
    refine Ev_iald hq_57 (show decode prog_2_method_4_code 51 = .ok (.iaload, 1) by decide +kernel) (VB.lt ho (by omega)) (ho.2.2 4 (by decide)).2.1 (VB.inr ho (j := 4) (by decide) rfl h6) ?_
    exact Ev_iret hq_57 (show decode prog_2_method_4_code 52 = .ok (.ireturn, 1) by decide +kernel) rfl k
  have k := k.2 c5
  by_cases c7 : x2 = 3
  · have k := k.1 c7
    rw [c7]
    refine Ev_tableIn (off := 52) (tgt := 53) hq_57 (show decode prog_2_method_4_code 1 = .ok (.tableswitch 59 0 3 #[31, 38, 45, 52], 31) by decide +kernel) (by decide) (by decide) (by decide) (by decide) ?_
    refine Ev_aload_n hq_57 (show decode prog_2_method_4_code 53 = .ok (.aload_n 0, 1) by decide +kernel) rfl ?_
    refine Ev_getR hq_57 (show decode prog_2_method_4_code 54 = .ok (.getfield 27, 3) by decide +kernel) rfl (VB.lt ho (by omega)) ho.2.1 (by decide) rfl (ho.2.2 5 (by decide)).1 ?_
    refine Ev_iload_n hq_57 (show decode prog_2_method_4_code 57 = .ok (.iload_n 1, 1) by decide +kernel) rfl ?_
    obtain ⟨h8, k⟩ := k
    refine Ev_iald hq_57 (show decode prog_2_method_4_code 58 = .ok (.iaload, 1) by decide +kernel) (VB.lt ho (by omega)) (ho.2.2 5 (by decide)).2.1 (VB.inr ho (j := 5) (by decide) rfl h8) ?_
    exact Ev_iret hq_57 (show decode prog_2_method_4_code 59 = .ok (.ireturn, 1) by decide +kernel) rfl k
  have k := k.2 c7
  have ec1 : (x2).toInt ≠ 0 := z_ne (k := 0) c1
  have ec3 : (x2).toInt ≠ 1 := z_ne (k := 1) c3
  have ec5 : (x2).toInt ≠ 2 := z_ne (k := 2) c5
  have ec7 : (x2).toInt ≠ 3 := z_ne (k := 3) c7
  refine Ev_tableOut (tgt := 60) hq_57 (show decode prog_2_method_4_code 1 = .ok (.tableswitch 59 0 3 #[31, 38, 45, 52], 31) by decide +kernel) (by omega) (by decide) ?_
  refine Ev_aload_n hq_57 (show decode prog_2_method_4_code 60 = .ok (.aload_n 0, 1) by decide +kernel) rfl ?_
  refine Ev_getR hq_57 (show decode prog_2_method_4_code 61 = .ok (.getfield 30, 3) by decide +kernel) rfl (VB.lt ho (by omega)) ho.2.1 (by decide) rfl (ho.2.2 6 (by decide)).1 ?_
  refine Ev_iload_n hq_57 (show decode prog_2_method_4_code 64 = .ok (.iload_n 1, 1) by decide +kernel) rfl ?_
  obtain ⟨h9, k⟩ := k
  refine Ev_iald hq_57 (show decode prog_2_method_4_code 65 = .ok (.iaload, 1) by decide +kernel) (VB.lt ho (by omega)) (ho.2.2 6 (by decide)).2.1 (VB.inr ho (j := 6) (by decide) rfl h9) ?_
  exact Ev_iret hq_57 (show decode prog_2_method_4_code 66 = .ok (.ireturn, 1) by decide +kernel) rfl k
set_option maxRecDepth 20000 in
theorem wp_H_change {X : Nat × (Nat → Int32)} {d : Nat} {G : zG} {I : zI} {res : Option Value × zG × zI} (o : Nat) (x1 : Int32) (x2 : Int32) (x3 : Int32) (ho : HH G o) 
    (k : (x2 = 0 → z_inr x1 4 ∧ (∀ I3 : zI, I3 = z_up I (o + (2 + 1)) x1.toNatClampNeg x3 → res = (none, G, I3))) ∧ (¬ x2 = 0 → (x2 = 1 → z_inr x1 4 ∧ (∀ I6 : zI, I6 = z_up I (o + (3 + 1)) x1.toNatClampNeg x3 → res = (none, G, I6))) ∧ (¬ x2 = 1 → (x2 = 2 → z_inr x1 4 ∧ (∀ I9 : zI, I9 = z_up I (o + (4 + 1)) x1.toNatClampNeg x3 → res = (none, G, I9))) ∧ (¬ x2 = 2 → (x2 = 3 → z_inr x1 4 ∧ (∀ I12 : zI, I12 = z_up I (o + (5 + 1)) x1.toNatClampNeg x3 → res = (none, G, I12))) ∧ (¬ x2 = 3 → z_inr x1 4 ∧ (∀ I14 : zI, I14 = z_up I (o + (6 + 1)) x1.toNatClampNeg x3 → res = (none, G, I14))))))) :
    Ev X d 58 0 [.ref o, .int x1, .int x2, .int x3] [] G I res := by
  refine Ev_iload_n hq_58 (show decode prog_2_method_5_code 0 = .ok (.iload_n 2, 1) by decide +kernel) rfl ?_
  by_cases c1 : x2 = 0
  · have k := k.1 c1
    rw [c1]
    refine Ev_tableIn (off := 31) (tgt := 32) hq_58 (show decode prog_2_method_5_code 1 = .ok (.tableswitch 71 0 3 #[31, 41, 51, 61], 31) by decide +kernel) (by decide) (by decide) (by decide) (by decide) ?_
    refine Ev_aload_n hq_58 (show decode prog_2_method_5_code 32 = .ok (.aload_n 0, 1) by decide +kernel) rfl ?_
    refine Ev_getR hq_58 (show decode prog_2_method_5_code 33 = .ok (.getfield 18, 3) by decide +kernel) rfl (VB.lt ho (by omega)) ho.2.1 (by decide) rfl (ho.2.2 2 (by decide)).1 ?_
    refine Ev_iload_n hq_58 (show decode prog_2_method_5_code 36 = .ok (.iload_n 1, 1) by decide +kernel) rfl ?_
    refine Ev_iload_n hq_58 (show decode prog_2_method_5_code 37 = .ok (.iload_n 3, 1) by decide +kernel) rfl ?_
    obtain ⟨h2, k⟩ := k
    refine Ev_iast hq_58 (show decode prog_2_method_5_code 38 = .ok (.iastore, 1) by decide +kernel) (VB.lt ho (by omega)) (ho.2.2 2 (by decide)).2.1 (VB.inr ho (j := 2) (by decide) rfl h2) ?_
    obtain ⟨I3, eI3⟩ : ∃ I3 : zI, I3 = z_up I (o + (2 + 1)) x1.toNatClampNeg x3 := ⟨_, rfl⟩
    have k := k I3 eI3
    rw [← eI3]
    refine Ev_goto (tgt := 79) hq_58 (show decode prog_2_method_5_code 39 = .ok (.goto 40, 3) by decide +kernel) (by decide) ?_
    exact Ev_vret hq_58 (show decode prog_2_method_5_code 79 = .ok (.return_, 1) by decide +kernel) k
  have k := k.2 c1
  by_cases c4 : x2 = 1
  · have k := k.1 c4
    rw [c4]
    refine Ev_tableIn (off := 41) (tgt := 42) hq_58 (show decode prog_2_method_5_code 1 = .ok (.tableswitch 71 0 3 #[31, 41, 51, 61], 31) by decide +kernel) (by decide) (by decide) (by decide) (by decide) ?_
    refine Ev_aload_n hq_58 (show decode prog_2_method_5_code 42 = .ok (.aload_n 0, 1) by decide +kernel) rfl ?_
    refine Ev_getR hq_58 (show decode prog_2_method_5_code 43 = .ok (.getfield 21, 3) by decide +kernel) rfl (VB.lt ho (by omega)) ho.2.1 (by decide) rfl (ho.2.2 3 (by decide)).1 ?_
    refine Ev_iload_n hq_58 (show decode prog_2_method_5_code 46 = .ok (.iload_n 1, 1) by decide +kernel) rfl ?_
    refine Ev_iload_n hq_58 (show decode prog_2_method_5_code 47 = .ok (.iload_n 3, 1) by decide +kernel) rfl ?_
    obtain ⟨h5, k⟩ := k
    refine Ev_iast hq_58 (show decode prog_2_method_5_code 48 = .ok (.iastore, 1) by decide +kernel) (VB.lt ho (by omega)) (ho.2.2 3 (by decide)).2.1 (VB.inr ho (j := 3) (by decide) rfl h5) ?_
    obtain ⟨I6, eI6⟩ : ∃ I6 : zI, I6 = z_up I (o + (3 + 1)) x1.toNatClampNeg x3 := ⟨_, rfl⟩
    have k := k I6 eI6
    rw [← eI6]
    refine Ev_goto (tgt := 79) hq_58 (show decode prog_2_method_5_code 49 = .ok (.goto 30, 3) by decide +kernel) (by decide) ?_
    exact Ev_vret hq_58 (show decode prog_2_method_5_code 79 = .ok (.return_, 1) by decide +kernel) k
  have k := k.2 c4
  by_cases c7 : x2 = 2
  · have k := k.1 c7
    rw [c7]
    refine Ev_tableIn (off := 51) (tgt := 52) hq_58 (show decode prog_2_method_5_code 1 = .ok (.tableswitch 71 0 3 #[31, 41, 51, 61], 31) by decide +kernel) (by decide) (by decide) (by decide) (by decide) ?_
    refine Ev_aload_n hq_58 (show decode prog_2_method_5_code 52 = .ok (.aload_n 0, 1) by decide +kernel) rfl ?_
    refine Ev_getR hq_58 (show decode prog_2_method_5_code 53 = .ok (.getfield 24, 3) by decide +kernel) rfl (VB.lt ho (by omega)) ho.2.1 (by decide) rfl (ho.2.2 4 (by decide)).1 ?_
    refine Ev_iload_n hq_58 (show decode prog_2_method_5_code 56 = .ok (.iload_n 1, 1) by decide +kernel) rfl ?_
    refine Ev_iload_n hq_58 (show decode prog_2_method_5_code 57 = .ok (.iload_n 3, 1) by decide +kernel) rfl ?_
    obtain ⟨h8, k⟩ := k
    refine Ev_iast hq_58 (show decode prog_2_method_5_code 58 = .ok (.iastore, 1) by decide +kernel) (VB.lt ho (by omega)) (ho.2.2 4 (by decide)).2.1 (VB.inr ho (j := 4) (by decide) rfl h8) ?_
    obtain ⟨I9, eI9⟩ : ∃ I9 : zI, I9 = z_up I (o + (4 + 1)) x1.toNatClampNeg x3 := ⟨_, rfl⟩
    have k := k I9 eI9
    rw [← eI9]
    refine Ev_goto (tgt := 79) hq_58 (show decode prog_2_method_5_code 59 = .ok (.goto 20, 3) by decide +kernel) (by decide) ?_
    exact Ev_vret hq_58 (show decode prog_2_method_5_code 79 = .ok (.return_, 1) by decide +kernel) k
  have k := k.2 c7
  by_cases c10 : x2 = 3
  · have k := k.1 c10
    rw [c10]
    refine Ev_tableIn (off := 61) (tgt := 62) hq_58 (show decode prog_2_method_5_code 1 = .ok (.tableswitch 71 0 3 #[31, 41, 51, 61], 31) by decide +kernel) (by decide) (by decide) (by decide) (by decide) ?_
    refine Ev_aload_n hq_58 (show decode prog_2_method_5_code 62 = .ok (.aload_n 0, 1) by decide +kernel) rfl ?_
    refine Ev_getR hq_58 (show decode prog_2_method_5_code 63 = .ok (.getfield 27, 3) by decide +kernel) rfl (VB.lt ho (by omega)) ho.2.1 (by decide) rfl (ho.2.2 5 (by decide)).1 ?_
    refine Ev_iload_n hq_58 (show decode prog_2_method_5_code 66 = .ok (.iload_n 1, 1) by decide +kernel) rfl ?_
    refine Ev_iload_n hq_58 (show decode prog_2_method_5_code 67 = .ok (.iload_n 3, 1) by decide +kernel) rfl ?_
    obtain ⟨h11, k⟩ := k
    refine Ev_iast hq_58 (show decode prog_2_method_5_code 68 = .ok (.iastore, 1) by decide +kernel) (VB.lt ho (by omega)) (ho.2.2 5 (by decide)).2.1 (VB.inr ho (j := 5) (by decide) rfl h11) ?_
    obtain ⟨I12, eI12⟩ : ∃ I12 : zI, I12 = z_up I (o + (5 + 1)) x1.toNatClampNeg x3 := ⟨_, rfl⟩
    have k := k I12 eI12
    rw [← eI12]
    refine Ev_goto (tgt := 79) hq_58 (show decode prog_2_method_5_code 69 = .ok (.goto 10, 3) by decide +kernel) (by decide) ?_
    exact Ev_vret hq_58 (show decode prog_2_method_5_code 79 = .ok (.return_, 1) by decide +kernel) k
  have k := k.2 c10
  have ec1 : (x2).toInt ≠ 0 := z_ne (k := 0) c1
  have ec4 : (x2).toInt ≠ 1 := z_ne (k := 1) c4
  have ec7 : (x2).toInt ≠ 2 := z_ne (k := 2) c7
  have ec10 : (x2).toInt ≠ 3 := z_ne (k := 3) c10
  refine Ev_tableOut (tgt := 72) hq_58 (show decode prog_2_method_5_code 1 = .ok (.tableswitch 71 0 3 #[31, 41, 51, 61], 31) by decide +kernel) (by omega) (by decide) ?_
  refine Ev_aload_n hq_58 (show decode prog_2_method_5_code 72 = .ok (.aload_n 0, 1) by decide +kernel) rfl ?_
  refine Ev_getR hq_58 (show decode prog_2_method_5_code 73 = .ok (.getfield 30, 3) by decide +kernel) rfl (VB.lt ho (by omega)) ho.2.1 (by decide) rfl (ho.2.2 6 (by decide)).1 ?_
  refine Ev_iload_n hq_58 (show decode prog_2_method_5_code 76 = .ok (.iload_n 1, 1) by decide +kernel) rfl ?_
  refine Ev_iload_n hq_58 (show decode prog_2_method_5_code 77 = .ok (.iload_n 3, 1) by decide +kernel) rfl ?_
  obtain ⟨h13, k⟩ := k
  refine Ev_iast hq_58 (show decode prog_2_method_5_code 78 = .ok (.iastore, 1) by decide +kernel) (VB.lt ho (by omega)) (ho.2.2 6 (by decide)).2.1 (VB.inr ho (j := 6) (by decide) rfl h13) ?_
  obtain ⟨I14, eI14⟩ : ∃ I14 : zI, I14 = z_up I (o + (6 + 1)) x1.toNatClampNeg x3 := ⟨_, rfl⟩
  have k := k I14 eI14
  rw [← eI14]
  exact Ev_vret hq_58 (show decode prog_2_method_5_code 79 = .ok (.return_, 1) by decide +kernel) k
set_option maxRecDepth 20000 in
theorem wp_T_told {X : Nat × (Nat → Int32)} {d : Nat} {G : zG} {I : zI} {res : Option Value × zG × zI} (x1 : Int32) (x2 : Int32) (hS : SG G) 
    (k : ∃ (r3 : Int32) (I1 : zI), Cv X d 45 [.ref 0, .int x1] G I (some (.int r3), G, I1) ∧ ((¬ r3 = 0 → ∃ (r7 : Int32) (I5 : zI), Cv X d 32 [.int x2, .int 0, .int 4] G I1 (some (.int r7), G, I5) ∧ ((r7 = 0 → (x2 = 5 → z_inr x1 4 ∧ (res = (some (.int (I5 2 x1.toNatClampNeg)), G, I5))) ∧ (¬ x2 = 5 → (x2 = 6 → z_inr x1 4 ∧ (res = (some (.int (I5 3 x1.toNatClampNeg)), G, I5))) ∧ (¬ x2 = 6 → (x2 = 7 → z_inr x1 4 ∧ (z_inr x1 4 ∧ (∃ (r18 : Int32) (I16 : zI), Cv X d 60 [.int (I5 2 x1.toNatClampNeg), .int (I5 3 x1.toNatClampNeg)] G I5 (some (.int r18), G, I16) ∧ (res = (some (.int r18), G, I16))))) ∧ (¬ x2 = 7 → res = (some (.int (-7)), G, I5))))) ∧ (¬ r7 = 0 → ∃ (r21 : Int32) (I19 : zI), Cv X d 57 [.ref 1, .int x1, .int x2] G I5 (some (.int r21), G, I19) ∧ (res = (some (.int r21), G, I19))))) ∧ (r3 = 0 → res = (some (.int (-5)), G, I1)))) :
    Ev X (d + 1) 59 0 [.ref 0, .int x1, .int x2] [] G I res := by
  refine Ev_aload_n hq_59 (show decode prog_1_method_13_code 0 = .ok (.aload_n 0, 1) by decide +kernel) rfl ?_
  refine Ev_iload_n hq_59 (show decode prog_1_method_13_code 1 = .ok (.iload_n 1, 1) by decide +kernel) rfl ?_
  obtain ⟨r3, I1, h2, k⟩ := k
  refine Ev_virt (as := [.int x1]) hq_59 (show decode prog_1_method_13_code 2 = .ok (.invokevirtual 120, 3) by decide +kernel) rfl hq_45 rfl (z_le rfl) ⟨(SGn hS (by decide)), (SGk hS rfl), by decide⟩ h2 ?_
  refine Ev_if_ne (tgt := 11) hq_59 (show decode prog_1_method_13_code 5 = .ok (.ifCond .ne 6, 3) by decide +kernel) (by decide) (fun c4 => ?_) (fun c4 => ?_)
  · have k := k.1 c4
    refine Ev_iload_n hq_59 (show decode prog_1_method_13_code 11 = .ok (.iload_n 2, 1) by decide +kernel) rfl ?_
    refine Ev_iconst (v := 0) hq_59 (show decode prog_1_method_13_code 12 = .ok (.iconst 0, 1) by decide +kernel) (by decide) ?_
    refine Ev_iconst (v := 4) hq_59 (show decode prog_1_method_13_code 13 = .ok (.iconst 4, 1) by decide +kernel) (by decide) ?_
    obtain ⟨r7, I5, h6, k⟩ := k
    refine Ev_stat (as := [.int x2, .int 0, .int 4]) hq_59 (show decode prog_1_method_13_code 14 = .ok (.invokestatic 108, 3) by decide +kernel) rfl (Or.inl rfl) hq_32 rfl (z_le rfl) h6 ?_
    refine Ev_if_eq (tgt := 30) hq_59 (show decode prog_1_method_13_code 17 = .ok (.ifCond .eq 13, 3) by decide +kernel) (by decide) (fun c8 => ?_) (fun c8 => ?_)
    · have k := k.1 c8
      refine Ev_iload_n hq_59 (show decode prog_1_method_13_code 30 = .ok (.iload_n 2, 1) by decide +kernel) rfl ?_
      by_cases c9 : x2 = 5
      · have k := k.1 c9
        rw [c9]
        refine Ev_tableIn (off := 25) (tgt := 56) hq_59 (show decode prog_1_method_13_code 31 = .ok (.tableswitch 67 5 7 #[25, 35, 45], 25) by decide +kernel) (by decide) (by decide) (by decide) (by decide) ?_
        refine Ev_aload_n hq_59 (show decode prog_1_method_13_code 56 = .ok (.aload_n 0, 1) by decide +kernel) rfl ?_
        refine Ev_getR hq_59 (show decode prog_1_method_13_code 57 = .ok (.getfield 10, 3) by decide +kernel) rfl (SGn hS (by decide)) (SGk hS rfl) (by decide) rfl (SGr hS rfl) ?_
        refine Ev_getR hq_59 (show decode prog_1_method_13_code 60 = .ok (.getfield 162, 3) by decide +kernel) rfl (SGn hS (by decide)) (SGk hS rfl) (by decide) rfl (SGr hS rfl) ?_
        refine Ev_iload_n hq_59 (show decode prog_1_method_13_code 63 = .ok (.iload_n 1, 1) by decide +kernel) rfl ?_
        obtain ⟨h10, k⟩ := k
        refine Ev_iald hq_59 (show decode prog_1_method_13_code 64 = .ok (.iaload, 1) by decide +kernel) (SGn hS (by decide)) (SGk hS rfl) (SGi hS rfl h10) ?_
        exact Ev_iret hq_59 (show decode prog_1_method_13_code 65 = .ok (.ireturn, 1) by decide +kernel) rfl k
      have k := k.2 c9
      by_cases c11 : x2 = 6
      · have k := k.1 c11
        rw [c11]
        refine Ev_tableIn (off := 35) (tgt := 66) hq_59 (show decode prog_1_method_13_code 31 = .ok (.tableswitch 67 5 7 #[25, 35, 45], 25) by decide +kernel) (by decide) (by decide) (by decide) (by decide) ?_
        refine Ev_aload_n hq_59 (show decode prog_1_method_13_code 66 = .ok (.aload_n 0, 1) by decide +kernel) rfl ?_
        refine Ev_getR hq_59 (show decode prog_1_method_13_code 67 = .ok (.getfield 10, 3) by decide +kernel) rfl (SGn hS (by decide)) (SGk hS rfl) (by decide) rfl (SGr hS rfl) ?_
        refine Ev_getR hq_59 (show decode prog_1_method_13_code 70 = .ok (.getfield 137, 3) by decide +kernel) rfl (SGn hS (by decide)) (SGk hS rfl) (by decide) rfl (SGr hS rfl) ?_
        refine Ev_iload_n hq_59 (show decode prog_1_method_13_code 73 = .ok (.iload_n 1, 1) by decide +kernel) rfl ?_
        obtain ⟨h12, k⟩ := k
        refine Ev_iald hq_59 (show decode prog_1_method_13_code 74 = .ok (.iaload, 1) by decide +kernel) (SGn hS (by decide)) (SGk hS rfl) (SGi hS rfl h12) ?_
        exact Ev_iret hq_59 (show decode prog_1_method_13_code 75 = .ok (.ireturn, 1) by decide +kernel) rfl k
      have k := k.2 c11
      by_cases c13 : x2 = 7
      · have k := k.1 c13
        rw [c13]
        refine Ev_tableIn (off := 45) (tgt := 76) hq_59 (show decode prog_1_method_13_code 31 = .ok (.tableswitch 67 5 7 #[25, 35, 45], 25) by decide +kernel) (by decide) (by decide) (by decide) (by decide) ?_
        refine Ev_aload_n hq_59 (show decode prog_1_method_13_code 76 = .ok (.aload_n 0, 1) by decide +kernel) rfl ?_
        refine Ev_getR hq_59 (show decode prog_1_method_13_code 77 = .ok (.getfield 10, 3) by decide +kernel) rfl (SGn hS (by decide)) (SGk hS rfl) (by decide) rfl (SGr hS rfl) ?_
        refine Ev_getR hq_59 (show decode prog_1_method_13_code 80 = .ok (.getfield 162, 3) by decide +kernel) rfl (SGn hS (by decide)) (SGk hS rfl) (by decide) rfl (SGr hS rfl) ?_
        refine Ev_iload_n hq_59 (show decode prog_1_method_13_code 83 = .ok (.iload_n 1, 1) by decide +kernel) rfl ?_
        obtain ⟨h14, k⟩ := k
        refine Ev_iald hq_59 (show decode prog_1_method_13_code 84 = .ok (.iaload, 1) by decide +kernel) (SGn hS (by decide)) (SGk hS rfl) (SGi hS rfl h14) ?_
        refine Ev_aload_n hq_59 (show decode prog_1_method_13_code 85 = .ok (.aload_n 0, 1) by decide +kernel) rfl ?_
        refine Ev_getR hq_59 (show decode prog_1_method_13_code 86 = .ok (.getfield 10, 3) by decide +kernel) rfl (SGn hS (by decide)) (SGk hS rfl) (by decide) rfl (SGr hS rfl) ?_
        refine Ev_getR hq_59 (show decode prog_1_method_13_code 89 = .ok (.getfield 137, 3) by decide +kernel) rfl (SGn hS (by decide)) (SGk hS rfl) (by decide) rfl (SGr hS rfl) ?_
        refine Ev_iload_n hq_59 (show decode prog_1_method_13_code 92 = .ok (.iload_n 1, 1) by decide +kernel) rfl ?_
        obtain ⟨h15, k⟩ := k
        refine Ev_iald hq_59 (show decode prog_1_method_13_code 93 = .ok (.iaload, 1) by decide +kernel) (SGn hS (by decide)) (SGk hS rfl) (SGi hS rfl h15) ?_
        obtain ⟨r18, I16, h17, k⟩ := k
        refine Ev_stat (as := [.int (I5 2 x1.toNatClampNeg), .int (I5 3 x1.toNatClampNeg)]) hq_59 (show decode prog_1_method_13_code 94 = .ok (.invokestatic 165, 3) by decide +kernel) rfl (Or.inl rfl) hq_60 rfl (z_le rfl) h17 ?_
        exact Ev_iret hq_59 (show decode prog_1_method_13_code 97 = .ok (.ireturn, 1) by decide +kernel) rfl k
      have k := k.2 c13
      have ec9 : (x2).toInt ≠ 5 := z_ne (k := 5) c9
      have ec11 : (x2).toInt ≠ 6 := z_ne (k := 6) c11
      have ec13 : (x2).toInt ≠ 7 := z_ne (k := 7) c13
      refine Ev_tableOut (tgt := 98) hq_59 (show decode prog_1_method_13_code 31 = .ok (.tableswitch 67 5 7 #[25, 35, 45], 25) by decide +kernel) (by omega) (by decide) ?_
      refine Ev_bipush (v := (-7)) hq_59 (show decode prog_1_method_13_code 98 = .ok (.bipush (-7), 2) by decide +kernel) (by decide) ?_
      exact Ev_iret hq_59 (show decode prog_1_method_13_code 100 = .ok (.ireturn, 1) by decide +kernel) rfl k
    · have k := k.2 c8
      refine Ev_aload_n hq_59 (show decode prog_1_method_13_code 20 = .ok (.aload_n 0, 1) by decide +kernel) rfl ?_
      refine Ev_getR hq_59 (show decode prog_1_method_13_code 21 = .ok (.getfield 10, 3) by decide +kernel) rfl (SGn hS (by decide)) (SGk hS rfl) (by decide) rfl (SGr hS rfl) ?_
      refine Ev_iload_n hq_59 (show decode prog_1_method_13_code 24 = .ok (.iload_n 1, 1) by decide +kernel) rfl ?_
      refine Ev_iload_n hq_59 (show decode prog_1_method_13_code 25 = .ok (.iload_n 2, 1) by decide +kernel) rfl ?_
      obtain ⟨r21, I19, h20, k⟩ := k
      refine Ev_virt (as := [.int x1, .int x2]) hq_59 (show decode prog_1_method_13_code 26 = .ok (.invokevirtual 155, 3) by decide +kernel) rfl hq_57 rfl (z_le rfl) ⟨(SGn hS (by decide)), (SGk hS rfl), by decide⟩ h20 ?_
      exact Ev_iret hq_59 (show decode prog_1_method_13_code 29 = .ok (.ireturn, 1) by decide +kernel) rfl k
  · have k := k.2 (Classical.not_not.mp c4)
    refine Ev_bipush (v := (-5)) hq_59 (show decode prog_1_method_13_code 8 = .ok (.bipush (-5), 2) by decide +kernel) (by decide) ?_
    exact Ev_iret hq_59 (show decode prog_1_method_13_code 10 = .ok (.ireturn, 1) by decide +kernel) rfl k
set_option maxRecDepth 20000 in
theorem wp_T_scaldsFrom {X : Nat × (Nat → Int32)} {d : Nat} {G : zG} {I : zI} {res : Option Value × zG × zI} (x0 : Int32) (x1 : Int32) 
    (k : (¬ x0 = 3 → (¬ x0 = 5 → res = (some (.int 50), G, I)) ∧ (x0 = 5 → res = (some (.int (50 - (4 * x1))), G, I))) ∧ (x0 = 3 → res = (some (.int (50 + (10 * x1))), G, I))) :
    Ev X d 60 0 [.int x0, .int x1] [] G I res := by
  refine Ev_iload_n hq_60 (show decode prog_1_method_21_code 0 = .ok (.iload_n 0, 1) by decide +kernel) rfl ?_
  refine Ev_iconst (v := 3) hq_60 (show decode prog_1_method_21_code 1 = .ok (.iconst 3, 1) by decide +kernel) (by decide) ?_
  refine Ev_icmp_ne (tgt := 13) hq_60 (show decode prog_1_method_21_code 2 = .ok (.if_icmp .ne 11, 3) by decide +kernel) (by decide) (fun c1 => ?_) (fun c1 => ?_)
  · have k := k.1 c1
    refine Ev_iload_n hq_60 (show decode prog_1_method_21_code 13 = .ok (.iload_n 0, 1) by decide +kernel) rfl ?_
    refine Ev_iconst (v := 5) hq_60 (show decode prog_1_method_21_code 14 = .ok (.iconst 5, 1) by decide +kernel) (by decide) ?_
    refine Ev_icmp_ne (tgt := 25) hq_60 (show decode prog_1_method_21_code 15 = .ok (.if_icmp .ne 10, 3) by decide +kernel) (by decide) (fun c2 => ?_) (fun c2 => ?_)
    · have k := k.1 c2
      refine Ev_bipush (v := 50) hq_60 (show decode prog_1_method_21_code 25 = .ok (.bipush 50, 2) by decide +kernel) (by decide) ?_
      exact Ev_iret hq_60 (show decode prog_1_method_21_code 27 = .ok (.ireturn, 1) by decide +kernel) rfl k
    · have k := k.2 (Classical.not_not.mp c2)
      refine Ev_bipush (v := 50) hq_60 (show decode prog_1_method_21_code 18 = .ok (.bipush 50, 2) by decide +kernel) (by decide) ?_
      refine Ev_iconst (v := 4) hq_60 (show decode prog_1_method_21_code 20 = .ok (.iconst 4, 1) by decide +kernel) (by decide) ?_
      refine Ev_iload_n hq_60 (show decode prog_1_method_21_code 21 = .ok (.iload_n 1, 1) by decide +kernel) rfl ?_
      refine Ev_imul hq_60 (show decode prog_1_method_21_code 22 = .ok (.imul, 1) by decide +kernel) ?_
      refine Ev_isub hq_60 (show decode prog_1_method_21_code 23 = .ok (.isub, 1) by decide +kernel) ?_
      exact Ev_iret hq_60 (show decode prog_1_method_21_code 24 = .ok (.ireturn, 1) by decide +kernel) rfl k
  · have k := k.2 (Classical.not_not.mp c1)
    refine Ev_bipush (v := 50) hq_60 (show decode prog_1_method_21_code 5 = .ok (.bipush 50, 2) by decide +kernel) (by decide) ?_
    refine Ev_bipush (v := 10) hq_60 (show decode prog_1_method_21_code 7 = .ok (.bipush 10, 2) by decide +kernel) (by decide) ?_
    refine Ev_iload_n hq_60 (show decode prog_1_method_21_code 9 = .ok (.iload_n 1, 1) by decide +kernel) rfl ?_
    refine Ev_imul hq_60 (show decode prog_1_method_21_code 10 = .ok (.imul, 1) by decide +kernel) ?_
    refine Ev_iadd hq_60 (show decode prog_1_method_21_code 11 = .ok (.iadd, 1) by decide +kernel) ?_
    exact Ev_iret hq_60 (show decode prog_1_method_21_code 12 = .ok (.ireturn, 1) by decide +kernel) rfl k
set_option maxRecDepth 20000 in
theorem wp_R_isDigit {X : Nat × (Nat → Int32)} {d : Nat} {G : zG} {I : zI} {res : Option Value × zG × zI} (x0 : Int32) 
    (k : (x0 < 48 → res = (some (.int 0), G, I)) ∧ (¬ x0 < 48 → (57 < x0 → res = (some (.int 0), G, I)) ∧ (¬ 57 < x0 → res = (some (.int 1), G, I)))) :
    Ev X d 19 0 [.int x0] [] G I res := by
  refine Ev_iload_n hq_19 (show decode prog_5_method_18_code 0 = .ok (.iload_n 0, 1) by decide +kernel) rfl ?_
  refine Ev_bipush (v := 48) hq_19 (show decode prog_5_method_18_code 1 = .ok (.bipush 48, 2) by decide +kernel) (by decide) ?_
  refine Ev_icmp_lt (tgt := 16) hq_19 (show decode prog_5_method_18_code 3 = .ok (.if_icmp .lt 13, 3) by decide +kernel) (by decide) (fun c1 => ?_) (fun c1 => ?_)
  · have k := k.1 c1
    refine Ev_iconst (v := 0) hq_19 (show decode prog_5_method_18_code 16 = .ok (.iconst 0, 1) by decide +kernel) (by decide) ?_
    exact Ev_iret hq_19 (show decode prog_5_method_18_code 17 = .ok (.ireturn, 1) by decide +kernel) rfl k
  · have k := k.2 c1
    refine Ev_iload_n hq_19 (show decode prog_5_method_18_code 6 = .ok (.iload_n 0, 1) by decide +kernel) rfl ?_
    refine Ev_bipush (v := 57) hq_19 (show decode prog_5_method_18_code 7 = .ok (.bipush 57, 2) by decide +kernel) (by decide) ?_
    refine Ev_icmp_gt (tgt := 16) hq_19 (show decode prog_5_method_18_code 9 = .ok (.if_icmp .gt 7, 3) by decide +kernel) (by decide) (fun c2 => ?_) (fun c2 => ?_)
    · have k := k.1 c2
      refine Ev_iconst (v := 0) hq_19 (show decode prog_5_method_18_code 16 = .ok (.iconst 0, 1) by decide +kernel) (by decide) ?_
      exact Ev_iret hq_19 (show decode prog_5_method_18_code 17 = .ok (.ireturn, 1) by decide +kernel) rfl k
    · have k := k.2 c2
      refine Ev_iconst (v := 1) hq_19 (show decode prog_5_method_18_code 12 = .ok (.iconst 1, 1) by decide +kernel) (by decide) ?_
      refine Ev_goto (tgt := 17) hq_19 (show decode prog_5_method_18_code 13 = .ok (.goto 4, 3) by decide +kernel) (by decide) ?_
      exact Ev_iret hq_19 (show decode prog_5_method_18_code 17 = .ok (.ireturn, 1) by decide +kernel) rfl k
set_option maxRecDepth 20000 in
theorem wp_R_readNumber {X : Nat × (Nat → Int32)} {d : Nat} {G : zG} {I : zI} {res : Option Value × zG × zI}  (hS : SG G) 
    (k : (∀ I1 : zI, I1 = z_up I 39 5 0 → Ev X d 20 7 [.ref 39, .int 0] [] G I1 res)) :
    Ev X d 20 0 [.ref 39, zU] [] G I res := by
  refine Ev_aload_n hq_20 (show decode prog_5_method_15_code 0 = .ok (.aload_n 0, 1) by decide +kernel) rfl ?_
  refine Ev_iconst (v := 0) hq_20 (show decode prog_5_method_15_code 1 = .ok (.iconst 0, 1) by decide +kernel) (by decide) ?_
  refine Ev_putI hq_20 (show decode prog_5_method_15_code 2 = .ok (.putfield 28, 3) by decide +kernel) rfl (SGn hS (by decide)) (SGk hS rfl) (by decide) (by decide) rfl (fun hz => by cases hz) ?_
  obtain ⟨I1, eI1⟩ : ∃ I1 : zI, I1 = z_up I 39 5 0 := ⟨_, rfl⟩
  have k := k I1 eI1
  rw [← eI1]
  refine Ev_iconst (v := 0) hq_20 (show decode prog_5_method_15_code 5 = .ok (.iconst 0, 1) by decide +kernel) (by decide) ?_
  refine Ev_istore_n (lo2 := [.ref 39, .int 0]) hq_20 (show decode prog_5_method_15_code 6 = .ok (.istore_n 1, 1) by decide +kernel) (z_le rfl) rfl ?_
  exact k
set_option maxRecDepth 20000 in
theorem wp_R_readNumber_7 {X : Nat × (Nat → Int32)} {d : Nat} {G : zG} {I : zI} {res : Option Value × zG × zI} (x1 : Int32) (hS : SG G) 
    (k : (160 ≤ x1 → (((I 39 3) - (I 39 2)) ≤ 4 → (∀ I3 : zI, I3 = z_up I 39 4 2 → res = (none, G, I3))) ∧ (¬ ((I 39 3) - (I 39 2)) ≤ 4 → (∀ I4 : zI, I4 = z_up I 39 4 1 → res = (none, G, I4)))) ∧ (¬ 160 ≤ x1 → ((I 39 1) ≤ (I 39 3) → (((I 39 3) - (I 39 2)) ≤ 4 → (∀ I7 : zI, I7 = z_up I 39 4 2 → res = (none, G, I7))) ∧ (¬ ((I 39 3) - (I 39 2)) ≤ 4 → (∀ I8 : zI, I8 = z_up I 39 4 1 → res = (none, G, I8)))) ∧ (¬ (I 39 1) ≤ (I 39 3) → z_inr (I 39 3) 160 ∧ (∃ (r12 : Int32) (I10 : zI), Cv X d 19 [.int (I 44 (I 39 3).toNatClampNeg)] G I (some (.int r12), G, I10) ∧ ((r12 = 0 → (((I10 39 3) - (I10 39 2)) ≤ 4 → (∀ I15 : zI, I15 = z_up I10 39 4 2 → res = (none, G, I15))) ∧ (¬ ((I10 39 3) - (I10 39 2)) ≤ 4 → (∀ I16 : zI, I16 = z_up I10 39 4 1 → res = (none, G, I16)))) ∧ (¬ r12 = 0 → z_inr (I10 39 3) 160 ∧ ((∀ I18 : zI, I18 = z_up I10 39 5 ((((I10 39 5) * 10) + (I10 44 (I10 39 3).toNatClampNeg)) - 48) → (∀ I19 : zI, I19 = z_up I18 39 3 ((I18 39 3) + 1) → ∀ y20 : Int32, y20 = x1 + 1 → Ev X (d + 1) 20 7 [.ref 39, .int y20] [] G I19 res))))))))) :
    Ev X (d + 1) 20 7 [.ref 39, .int x1] [] G I res := by
  refine Ev_iload_n hq_20 (show decode prog_5_method_15_code 7 = .ok (.iload_n 1, 1) by decide +kernel) rfl ?_
  refine Ev_sipush (v := 160) hq_20 (show decode prog_5_method_15_code 8 = .ok (.sipush 160, 3) by decide +kernel) (by decide) ?_
  refine Ev_icmp_ge (tgt := 80) hq_20 (show decode prog_5_method_15_code 11 = .ok (.if_icmp .ge 69, 3) by decide +kernel) (by decide) (fun c1 => ?_) (fun c1 => ?_)
  · have k := k.1 c1
    refine Ev_aload_n hq_20 (show decode prog_5_method_15_code 80 = .ok (.aload_n 0, 1) by decide +kernel) rfl ?_
    refine Ev_aload_n hq_20 (show decode prog_5_method_15_code 81 = .ok (.aload_n 0, 1) by decide +kernel) rfl ?_
    refine Ev_getI hq_20 (show decode prog_5_method_15_code 82 = .ok (.getfield 22, 3) by decide +kernel) rfl (SGn hS (by decide)) (SGk hS rfl) (by decide) rfl ?_
    refine Ev_aload_n hq_20 (show decode prog_5_method_15_code 85 = .ok (.aload_n 0, 1) by decide +kernel) rfl ?_
    refine Ev_getI hq_20 (show decode prog_5_method_15_code 86 = .ok (.getfield 19, 3) by decide +kernel) rfl (SGn hS (by decide)) (SGk hS rfl) (by decide) rfl ?_
    refine Ev_isub hq_20 (show decode prog_5_method_15_code 89 = .ok (.isub, 1) by decide +kernel) ?_
    refine Ev_iconst (v := 4) hq_20 (show decode prog_5_method_15_code 90 = .ok (.iconst 4, 1) by decide +kernel) (by decide) ?_
    refine Ev_icmp_le (tgt := 98) hq_20 (show decode prog_5_method_15_code 91 = .ok (.if_icmp .le 7, 3) by decide +kernel) (by decide) (fun c2 => ?_) (fun c2 => ?_)
    · have k := k.1 c2
      refine Ev_iconst (v := 2) hq_20 (show decode prog_5_method_15_code 98 = .ok (.iconst 2, 1) by decide +kernel) (by decide) ?_
      refine Ev_putI hq_20 (show decode prog_5_method_15_code 99 = .ok (.putfield 25, 3) by decide +kernel) rfl (SGn hS (by decide)) (SGk hS rfl) (by decide) (by decide) rfl (fun hz => by cases hz) ?_
      obtain ⟨I3, eI3⟩ : ∃ I3 : zI, I3 = z_up I 39 4 2 := ⟨_, rfl⟩
      have k := k I3 eI3
      rw [← eI3]
      exact Ev_vret hq_20 (show decode prog_5_method_15_code 102 = .ok (.return_, 1) by decide +kernel) k
    · have k := k.2 c2
      refine Ev_iconst (v := 1) hq_20 (show decode prog_5_method_15_code 94 = .ok (.iconst 1, 1) by decide +kernel) (by decide) ?_
      refine Ev_goto (tgt := 99) hq_20 (show decode prog_5_method_15_code 95 = .ok (.goto 4, 3) by decide +kernel) (by decide) ?_
      refine Ev_putI hq_20 (show decode prog_5_method_15_code 99 = .ok (.putfield 25, 3) by decide +kernel) rfl (SGn hS (by decide)) (SGk hS rfl) (by decide) (by decide) rfl (fun hz => by cases hz) ?_
      obtain ⟨I4, eI4⟩ : ∃ I4 : zI, I4 = z_up I 39 4 1 := ⟨_, rfl⟩
      have k := k I4 eI4
      rw [← eI4]
      exact Ev_vret hq_20 (show decode prog_5_method_15_code 102 = .ok (.return_, 1) by decide +kernel) k
  · have k := k.2 c1
    refine Ev_aload_n hq_20 (show decode prog_5_method_15_code 14 = .ok (.aload_n 0, 1) by decide +kernel) rfl ?_
    refine Ev_getI hq_20 (show decode prog_5_method_15_code 15 = .ok (.getfield 22, 3) by decide +kernel) rfl (SGn hS (by decide)) (SGk hS rfl) (by decide) rfl ?_
    refine Ev_aload_n hq_20 (show decode prog_5_method_15_code 18 = .ok (.aload_n 0, 1) by decide +kernel) rfl ?_
    refine Ev_getI hq_20 (show decode prog_5_method_15_code 19 = .ok (.getfield 15, 3) by decide +kernel) rfl (SGn hS (by decide)) (SGk hS rfl) (by decide) rfl ?_
    refine Ev_icmp_ge (tgt := 80) hq_20 (show decode prog_5_method_15_code 22 = .ok (.if_icmp .ge 58, 3) by decide +kernel) (by decide) (fun c5 => ?_) (fun c5 => ?_)
    · have k := k.1 c5
      refine Ev_aload_n hq_20 (show decode prog_5_method_15_code 80 = .ok (.aload_n 0, 1) by decide +kernel) rfl ?_
      refine Ev_aload_n hq_20 (show decode prog_5_method_15_code 81 = .ok (.aload_n 0, 1) by decide +kernel) rfl ?_
      refine Ev_getI hq_20 (show decode prog_5_method_15_code 82 = .ok (.getfield 22, 3) by decide +kernel) rfl (SGn hS (by decide)) (SGk hS rfl) (by decide) rfl ?_
      refine Ev_aload_n hq_20 (show decode prog_5_method_15_code 85 = .ok (.aload_n 0, 1) by decide +kernel) rfl ?_
      refine Ev_getI hq_20 (show decode prog_5_method_15_code 86 = .ok (.getfield 19, 3) by decide +kernel) rfl (SGn hS (by decide)) (SGk hS rfl) (by decide) rfl ?_
      refine Ev_isub hq_20 (show decode prog_5_method_15_code 89 = .ok (.isub, 1) by decide +kernel) ?_
      refine Ev_iconst (v := 4) hq_20 (show decode prog_5_method_15_code 90 = .ok (.iconst 4, 1) by decide +kernel) (by decide) ?_
      refine Ev_icmp_le (tgt := 98) hq_20 (show decode prog_5_method_15_code 91 = .ok (.if_icmp .le 7, 3) by decide +kernel) (by decide) (fun c6 => ?_) (fun c6 => ?_)
      · have k := k.1 c6
        refine Ev_iconst (v := 2) hq_20 (show decode prog_5_method_15_code 98 = .ok (.iconst 2, 1) by decide +kernel) (by decide) ?_
        refine Ev_putI hq_20 (show decode prog_5_method_15_code 99 = .ok (.putfield 25, 3) by decide +kernel) rfl (SGn hS (by decide)) (SGk hS rfl) (by decide) (by decide) rfl (fun hz => by cases hz) ?_
        obtain ⟨I7, eI7⟩ : ∃ I7 : zI, I7 = z_up I 39 4 2 := ⟨_, rfl⟩
        have k := k I7 eI7
        rw [← eI7]
        exact Ev_vret hq_20 (show decode prog_5_method_15_code 102 = .ok (.return_, 1) by decide +kernel) k
      · have k := k.2 c6
        refine Ev_iconst (v := 1) hq_20 (show decode prog_5_method_15_code 94 = .ok (.iconst 1, 1) by decide +kernel) (by decide) ?_
        refine Ev_goto (tgt := 99) hq_20 (show decode prog_5_method_15_code 95 = .ok (.goto 4, 3) by decide +kernel) (by decide) ?_
        refine Ev_putI hq_20 (show decode prog_5_method_15_code 99 = .ok (.putfield 25, 3) by decide +kernel) rfl (SGn hS (by decide)) (SGk hS rfl) (by decide) (by decide) rfl (fun hz => by cases hz) ?_
        obtain ⟨I8, eI8⟩ : ∃ I8 : zI, I8 = z_up I 39 4 1 := ⟨_, rfl⟩
        have k := k I8 eI8
        rw [← eI8]
        exact Ev_vret hq_20 (show decode prog_5_method_15_code 102 = .ok (.return_, 1) by decide +kernel) k
    · have k := k.2 c5
      refine Ev_aload_n hq_20 (show decode prog_5_method_15_code 25 = .ok (.aload_n 0, 1) by decide +kernel) rfl ?_
      refine Ev_getR hq_20 (show decode prog_5_method_15_code 26 = .ok (.getfield 9, 3) by decide +kernel) rfl (SGn hS (by decide)) (SGk hS rfl) (by decide) rfl (SGr hS rfl) ?_
      refine Ev_aload_n hq_20 (show decode prog_5_method_15_code 29 = .ok (.aload_n 0, 1) by decide +kernel) rfl ?_
      refine Ev_getI hq_20 (show decode prog_5_method_15_code 30 = .ok (.getfield 22, 3) by decide +kernel) rfl (SGn hS (by decide)) (SGk hS rfl) (by decide) rfl ?_
      obtain ⟨h9, k⟩ := k
      refine Ev_iald hq_20 (show decode prog_5_method_15_code 33 = .ok (.iaload, 1) by decide +kernel) (SGn hS (by decide)) (SGk hS rfl) (SGi hS rfl h9) ?_
      obtain ⟨r12, I10, h11, k⟩ := k
      refine Ev_stat (as := [.int (I 44 (I 39 3).toNatClampNeg)]) hq_20 (show decode prog_5_method_15_code 34 = .ok (.invokestatic 118, 3) by decide +kernel) rfl (Or.inl rfl) hq_19 rfl (z_le rfl) h11 ?_
      refine Ev_if_eq (tgt := 80) hq_20 (show decode prog_5_method_15_code 37 = .ok (.ifCond .eq 43, 3) by decide +kernel) (by decide) (fun c13 => ?_) (fun c13 => ?_)
      · have k := k.1 c13
        refine Ev_aload_n hq_20 (show decode prog_5_method_15_code 80 = .ok (.aload_n 0, 1) by decide +kernel) rfl ?_
        refine Ev_aload_n hq_20 (show decode prog_5_method_15_code 81 = .ok (.aload_n 0, 1) by decide +kernel) rfl ?_
        refine Ev_getI hq_20 (show decode prog_5_method_15_code 82 = .ok (.getfield 22, 3) by decide +kernel) rfl (SGn hS (by decide)) (SGk hS rfl) (by decide) rfl ?_
        refine Ev_aload_n hq_20 (show decode prog_5_method_15_code 85 = .ok (.aload_n 0, 1) by decide +kernel) rfl ?_
        refine Ev_getI hq_20 (show decode prog_5_method_15_code 86 = .ok (.getfield 19, 3) by decide +kernel) rfl (SGn hS (by decide)) (SGk hS rfl) (by decide) rfl ?_
        refine Ev_isub hq_20 (show decode prog_5_method_15_code 89 = .ok (.isub, 1) by decide +kernel) ?_
        refine Ev_iconst (v := 4) hq_20 (show decode prog_5_method_15_code 90 = .ok (.iconst 4, 1) by decide +kernel) (by decide) ?_
        refine Ev_icmp_le (tgt := 98) hq_20 (show decode prog_5_method_15_code 91 = .ok (.if_icmp .le 7, 3) by decide +kernel) (by decide) (fun c14 => ?_) (fun c14 => ?_)
        · have k := k.1 c14
          refine Ev_iconst (v := 2) hq_20 (show decode prog_5_method_15_code 98 = .ok (.iconst 2, 1) by decide +kernel) (by decide) ?_
          refine Ev_putI hq_20 (show decode prog_5_method_15_code 99 = .ok (.putfield 25, 3) by decide +kernel) rfl (SGn hS (by decide)) (SGk hS rfl) (by decide) (by decide) rfl (fun hz => by cases hz) ?_
          obtain ⟨I15, eI15⟩ : ∃ I15 : zI, I15 = z_up I10 39 4 2 := ⟨_, rfl⟩
          have k := k I15 eI15
          rw [← eI15]
          exact Ev_vret hq_20 (show decode prog_5_method_15_code 102 = .ok (.return_, 1) by decide +kernel) k
        · have k := k.2 c14
          refine Ev_iconst (v := 1) hq_20 (show decode prog_5_method_15_code 94 = .ok (.iconst 1, 1) by decide +kernel) (by decide) ?_
          refine Ev_goto (tgt := 99) hq_20 (show decode prog_5_method_15_code 95 = .ok (.goto 4, 3) by decide +kernel) (by decide) ?_
          refine Ev_putI hq_20 (show decode prog_5_method_15_code 99 = .ok (.putfield 25, 3) by decide +kernel) rfl (SGn hS (by decide)) (SGk hS rfl) (by decide) (by decide) rfl (fun hz => by cases hz) ?_
          obtain ⟨I16, eI16⟩ : ∃ I16 : zI, I16 = z_up I10 39 4 1 := ⟨_, rfl⟩
          have k := k I16 eI16
          rw [← eI16]
          exact Ev_vret hq_20 (show decode prog_5_method_15_code 102 = .ok (.return_, 1) by decide +kernel) k
      · have k := k.2 c13
        refine Ev_aload_n hq_20 (show decode prog_5_method_15_code 40 = .ok (.aload_n 0, 1) by decide +kernel) rfl ?_
        refine Ev_aload_n hq_20 (show decode prog_5_method_15_code 41 = .ok (.aload_n 0, 1) by decide +kernel) rfl ?_
        refine Ev_getI hq_20 (show decode prog_5_method_15_code 42 = .ok (.getfield 28, 3) by decide +kernel) rfl (SGn hS (by decide)) (SGk hS rfl) (by decide) rfl ?_
        refine Ev_bipush (v := 10) hq_20 (show decode prog_5_method_15_code 45 = .ok (.bipush 10, 2) by decide +kernel) (by decide) ?_
        refine Ev_imul hq_20 (show decode prog_5_method_15_code 47 = .ok (.imul, 1) by decide +kernel) ?_
        refine Ev_aload_n hq_20 (show decode prog_5_method_15_code 48 = .ok (.aload_n 0, 1) by decide +kernel) rfl ?_
        refine Ev_getR hq_20 (show decode prog_5_method_15_code 49 = .ok (.getfield 9, 3) by decide +kernel) rfl (SGn hS (by decide)) (SGk hS rfl) (by decide) rfl (SGr hS rfl) ?_
        refine Ev_aload_n hq_20 (show decode prog_5_method_15_code 52 = .ok (.aload_n 0, 1) by decide +kernel) rfl ?_
        refine Ev_getI hq_20 (show decode prog_5_method_15_code 53 = .ok (.getfield 22, 3) by decide +kernel) rfl (SGn hS (by decide)) (SGk hS rfl) (by decide) rfl ?_
        obtain ⟨h17, k⟩ := k
        refine Ev_iald hq_20 (show decode prog_5_method_15_code 56 = .ok (.iaload, 1) by decide +kernel) (SGn hS (by decide)) (SGk hS rfl) (SGi hS rfl h17) ?_
        refine Ev_iadd hq_20 (show decode prog_5_method_15_code 57 = .ok (.iadd, 1) by decide +kernel) ?_
        refine Ev_bipush (v := 48) hq_20 (show decode prog_5_method_15_code 58 = .ok (.bipush 48, 2) by decide +kernel) (by decide) ?_
        refine Ev_isub hq_20 (show decode prog_5_method_15_code 60 = .ok (.isub, 1) by decide +kernel) ?_
        refine Ev_putI hq_20 (show decode prog_5_method_15_code 61 = .ok (.putfield 28, 3) by decide +kernel) rfl (SGn hS (by decide)) (SGk hS rfl) (by decide) (by decide) rfl (fun hz => by cases hz) ?_
        obtain ⟨I18, eI18⟩ : ∃ I18 : zI, I18 = z_up I10 39 5 ((((I10 39 5) * 10) + (I10 44 (I10 39 3).toNatClampNeg)) - 48) := ⟨_, rfl⟩
        have k := k I18 eI18
        rw [← eI18]
        refine Ev_aload_n hq_20 (show decode prog_5_method_15_code 64 = .ok (.aload_n 0, 1) by decide +kernel) rfl ?_
        refine Ev_dup hq_20 (show decode prog_5_method_15_code 65 = .ok (.dup, 1) by decide +kernel) rfl ?_
        refine Ev_getI hq_20 (show decode prog_5_method_15_code 66 = .ok (.getfield 22, 3) by decide +kernel) rfl (SGn hS (by decide)) (SGk hS rfl) (by decide) rfl ?_
        refine Ev_iconst (v := 1) hq_20 (show decode prog_5_method_15_code 69 = .ok (.iconst 1, 1) by decide +kernel) (by decide) ?_
        refine Ev_iadd hq_20 (show decode prog_5_method_15_code 70 = .ok (.iadd, 1) by decide +kernel) ?_
        refine Ev_putI hq_20 (show decode prog_5_method_15_code 71 = .ok (.putfield 22, 3) by decide +kernel) rfl (SGn hS (by decide)) (SGk hS rfl) (by decide) (by decide) rfl (fun hz => by cases hz) ?_
        obtain ⟨I19, eI19⟩ : ∃ I19 : zI, I19 = z_up I18 39 3 ((I18 39 3) + 1) := ⟨_, rfl⟩
        have k := k I19 eI19
        rw [← eI19]
        obtain ⟨y20, ey20⟩ : ∃ y20 : Int32, y20 = x1 + 1 := ⟨_, rfl⟩
        have k := k y20 ey20
        refine Ev_iinc (v := y20) (lo2 := [.ref 39, .int y20]) hq_20 (show decode prog_5_method_15_code 74 = .ok (.iinc 1 1, 3) by decide +kernel) rfl (by rw [ey20]; rfl) rfl ?_
        refine Ev_goto (tgt := 7) hq_20 (show decode prog_5_method_15_code 77 = .ok (.goto (-70), 3) by decide +kernel) (by decide) ?_
        exact k
set_option maxRecDepth 20000 in
theorem wp_R_signOf {X : Nat × (Nat → Int32)} {d : Nat} {G : zG} {I : zI} {res : Option Value × zG × zI} (x0 : Int32) 
    (k : (x0 = 40 → res = (some (.int 3), G, I)) ∧ (¬ x0 = 40 → (x0 = 41 → res = (some (.int 4), G, I)) ∧ (¬ x0 = 41 → (x0 = 42 → res = (some (.int 8), G, I)) ∧ (¬ x0 = 42 → (x0 = 43 → res = (some (.int 6), G, I)) ∧ (¬ x0 = 43 → (x0 = 44 → res = (some (.int 1), G, I)) ∧ (¬ x0 = 44 → (x0 = 45 → res = (some (.int 7), G, I)) ∧ (¬ x0 = 45 → (x0 = 46 → res = (some (.int 1), G, I)) ∧ (¬ x0 = 46 → (x0 = 47 → res = (some (.int 1), G, I)) ∧ (¬ x0 = 47 → (x0 = 48 → res = (some (.int 1), G, I)) ∧ (¬ x0 = 48 → (x0 = 49 → res = (some (.int 1), G, I)) ∧ (¬ x0 = 49 → (x0 = 50 → res = (some (.int 1), G, I)) ∧ (¬ x0 = 50 → (x0 = 51 → res = (some (.int 1), G, I)) ∧ (¬ x0 = 51 → (x0 = 52 → res = (some (.int 1), G, I)) ∧ (¬ x0 = 52 → (x0 = 53 → res = (some (.int 1), G, I)) ∧ (¬ x0 = 53 → (x0 = 54 → res = (some (.int 1), G, I)) ∧ (¬ x0 = 54 → (x0 = 55 → res = (some (.int 1), G, I)) ∧ (¬ x0 = 55 → (x0 = 56 → res = (some (.int 1), G, I)) ∧ (¬ x0 = 56 → (x0 = 57 → res = (some (.int 1), G, I)) ∧ (¬ x0 = 57 → (x0 = 58 → res = (some (.int 1), G, I)) ∧ (¬ x0 = 58 → (x0 = 59 → res = (some (.int 5), G, I)) ∧ (¬ x0 = 59 → (x0 = 60 → res = (some (.int 9), G, I)) ∧ (¬ x0 = 60 → (x0 = 61 → res = (some (.int 10), G, I)) ∧ (¬ x0 = 61 → res = (some (.int 1), G, I)))))))))))))))))))))))) :
    Ev X d 21 0 [.int x0] [] G I res := by
  refine Ev_iload_n hq_21 (show decode prog_5_method_19_code 0 = .ok (.iload_n 0, 1) by decide +kernel) rfl ?_
  by_cases c1 : x0 = 40
  · have k := k.1 c1
    rw [c1]
    refine Ev_tableIn (off := 103) (tgt := 104) hq_21 (show decode prog_5_method_19_code 1 = .ok (.tableswitch 124 40 61 #[103, 105, 115, 109, 124, 112, 124, 124, 124, 124, 124, 124, 124, 124, 124, 124, 124, 124, 124, 107, 118, 121], 103) by decide +kernel) (by decide) (by decide) (by decide) (by decide) ?_
    refine Ev_iconst (v := 3) hq_21 (show decode prog_5_method_19_code 104 = .ok (.iconst 3, 1) by decide +kernel) (by decide) ?_
    exact Ev_iret hq_21 (show decode prog_5_method_19_code 105 = .ok (.ireturn, 1) by decide +kernel) rfl k
  have k := k.2 c1
  by_cases c2 : x0 = 41
  · have k := k.1 c2
    rw [c2]
    refine Ev_tableIn (off := 105) (tgt := 106) hq_21 (show decode prog_5_method_19_code 1 = .ok (.tableswitch 124 40 61 #[103, 105, 115, 109, 124, 112, 124, 124, 124, 124, 124, 124, 124, 124, 124, 124, 124, 124, 124, 107, 118, 121], 103) by decide +kernel) (by decide) (by decide) (by decide) (by decide) ?_
    refine Ev_iconst (v := 4) hq_21 (show decode prog_5_method_19_code 106 = .ok (.iconst 4, 1) by decide +kernel) (by decide) ?_
    exact Ev_iret hq_21 (show decode prog_5_method_19_code 107 = .ok (.ireturn, 1) by decide +kernel) rfl k
  have k := k.2 c2
  by_cases c3 : x0 = 42
  · have k := k.1 c3
    rw [c3]
    refine Ev_tableIn (off := 115) (tgt := 116) hq_21 (show decode prog_5_method_19_code 1 = .ok (.tableswitch 124 40 61 #[103, 105, 115, 109, 124, 112, 124, 124, 124, 124, 124, 124, 124, 124, 124, 124, 124, 124, 124, 107, 118, 121], 103) by decide +kernel) (by decide) (by decide) (by decide) (by decide) ?_
    refine Ev_bipush (v := 8) hq_21 (show decode prog_5_method_19_code 116 = .ok (.bipush 8, 2) by decide +kernel) (by decide) ?_
    exact Ev_iret hq_21 (show decode prog_5_method_19_code 118 = .ok (.ireturn, 1) by decide +kernel) rfl k
  have k := k.2 c3
  by_cases c4 : x0 = 43
  · have k := k.1 c4
    rw [c4]
    refine Ev_tableIn (off := 109) (tgt := 110) hq_21 (show decode prog_5_method_19_code 1 = .ok (.tableswitch 124 40 61 #[103, 105, 115, 109, 124, 112, 124, 124, 124, 124, 124, 124, 124, 124, 124, 124, 124, 124, 124, 107, 118, 121], 103) by decide +kernel) (by decide) (by decide) (by decide) (by decide) ?_
    refine Ev_bipush (v := 6) hq_21 (show decode prog_5_method_19_code 110 = .ok (.bipush 6, 2) by decide +kernel) (by decide) ?_
    exact Ev_iret hq_21 (show decode prog_5_method_19_code 112 = .ok (.ireturn, 1) by decide +kernel) rfl k
  have k := k.2 c4
  by_cases c5 : x0 = 44
  · have k := k.1 c5
    rw [c5]
    refine Ev_tableIn (off := 124) (tgt := 125) hq_21 (show decode prog_5_method_19_code 1 = .ok (.tableswitch 124 40 61 #[103, 105, 115, 109, 124, 112, 124, 124, 124, 124, 124, 124, 124, 124, 124, 124, 124, 124, 124, 107, 118, 121], 103) by decide +kernel) (by decide) (by decide) (by decide) (by decide) ?_
    refine Ev_iconst (v := 1) hq_21 (show decode prog_5_method_19_code 125 = .ok (.iconst 1, 1) by decide +kernel) (by decide) ?_
    exact Ev_iret hq_21 (show decode prog_5_method_19_code 126 = .ok (.ireturn, 1) by decide +kernel) rfl k
  have k := k.2 c5
  by_cases c6 : x0 = 45
  · have k := k.1 c6
    rw [c6]
    refine Ev_tableIn (off := 112) (tgt := 113) hq_21 (show decode prog_5_method_19_code 1 = .ok (.tableswitch 124 40 61 #[103, 105, 115, 109, 124, 112, 124, 124, 124, 124, 124, 124, 124, 124, 124, 124, 124, 124, 124, 107, 118, 121], 103) by decide +kernel) (by decide) (by decide) (by decide) (by decide) ?_
    refine Ev_bipush (v := 7) hq_21 (show decode prog_5_method_19_code 113 = .ok (.bipush 7, 2) by decide +kernel) (by decide) ?_
    exact Ev_iret hq_21 (show decode prog_5_method_19_code 115 = .ok (.ireturn, 1) by decide +kernel) rfl k
  have k := k.2 c6
  by_cases c7 : x0 = 46
  · have k := k.1 c7
    rw [c7]
    refine Ev_tableIn (off := 124) (tgt := 125) hq_21 (show decode prog_5_method_19_code 1 = .ok (.tableswitch 124 40 61 #[103, 105, 115, 109, 124, 112, 124, 124, 124, 124, 124, 124, 124, 124, 124, 124, 124, 124, 124, 107, 118, 121], 103) by decide +kernel) (by decide) (by decide) (by decide) (by decide) ?_
    refine Ev_iconst (v := 1) hq_21 (show decode prog_5_method_19_code 125 = .ok (.iconst 1, 1) by decide +kernel) (by decide) ?_
    exact Ev_iret hq_21 (show decode prog_5_method_19_code 126 = .ok (.ireturn, 1) by decide +kernel) rfl k
  have k := k.2 c7
  by_cases c8 : x0 = 47
  · have k := k.1 c8
    rw [c8]
    refine Ev_tableIn (off := 124) (tgt := 125) hq_21 (show decode prog_5_method_19_code 1 = .ok (.tableswitch 124 40 61 #[103, 105, 115, 109, 124, 112, 124, 124, 124, 124, 124, 124, 124, 124, 124, 124, 124, 124, 124, 107, 118, 121], 103) by decide +kernel) (by decide) (by decide) (by decide) (by decide) ?_
    refine Ev_iconst (v := 1) hq_21 (show decode prog_5_method_19_code 125 = .ok (.iconst 1, 1) by decide +kernel) (by decide) ?_
    exact Ev_iret hq_21 (show decode prog_5_method_19_code 126 = .ok (.ireturn, 1) by decide +kernel) rfl k
  have k := k.2 c8
  by_cases c9 : x0 = 48
  · have k := k.1 c9
    rw [c9]
    refine Ev_tableIn (off := 124) (tgt := 125) hq_21 (show decode prog_5_method_19_code 1 = .ok (.tableswitch 124 40 61 #[103, 105, 115, 109, 124, 112, 124, 124, 124, 124, 124, 124, 124, 124, 124, 124, 124, 124, 124, 107, 118, 121], 103) by decide +kernel) (by decide) (by decide) (by decide) (by decide) ?_
    refine Ev_iconst (v := 1) hq_21 (show decode prog_5_method_19_code 125 = .ok (.iconst 1, 1) by decide +kernel) (by decide) ?_
    exact Ev_iret hq_21 (show decode prog_5_method_19_code 126 = .ok (.ireturn, 1) by decide +kernel) rfl k
  have k := k.2 c9
  by_cases c10 : x0 = 49
  · have k := k.1 c10
    rw [c10]
    refine Ev_tableIn (off := 124) (tgt := 125) hq_21 (show decode prog_5_method_19_code 1 = .ok (.tableswitch 124 40 61 #[103, 105, 115, 109, 124, 112, 124, 124, 124, 124, 124, 124, 124, 124, 124, 124, 124, 124, 124, 107, 118, 121], 103) by decide +kernel) (by decide) (by decide) (by decide) (by decide) ?_
    refine Ev_iconst (v := 1) hq_21 (show decode prog_5_method_19_code 125 = .ok (.iconst 1, 1) by decide +kernel) (by decide) ?_
    exact Ev_iret hq_21 (show decode prog_5_method_19_code 126 = .ok (.ireturn, 1) by decide +kernel) rfl k
  have k := k.2 c10
  by_cases c11 : x0 = 50
  · have k := k.1 c11
    rw [c11]
    refine Ev_tableIn (off := 124) (tgt := 125) hq_21 (show decode prog_5_method_19_code 1 = .ok (.tableswitch 124 40 61 #[103, 105, 115, 109, 124, 112, 124, 124, 124, 124, 124, 124, 124, 124, 124, 124, 124, 124, 124, 107, 118, 121], 103) by decide +kernel) (by decide) (by decide) (by decide) (by decide) ?_
    refine Ev_iconst (v := 1) hq_21 (show decode prog_5_method_19_code 125 = .ok (.iconst 1, 1) by decide +kernel) (by decide) ?_
    exact Ev_iret hq_21 (show decode prog_5_method_19_code 126 = .ok (.ireturn, 1) by decide +kernel) rfl k
  have k := k.2 c11
  by_cases c12 : x0 = 51
  · have k := k.1 c12
    rw [c12]
    refine Ev_tableIn (off := 124) (tgt := 125) hq_21 (show decode prog_5_method_19_code 1 = .ok (.tableswitch 124 40 61 #[103, 105, 115, 109, 124, 112, 124, 124, 124, 124, 124, 124, 124, 124, 124, 124, 124, 124, 124, 107, 118, 121], 103) by decide +kernel) (by decide) (by decide) (by decide) (by decide) ?_
    refine Ev_iconst (v := 1) hq_21 (show decode prog_5_method_19_code 125 = .ok (.iconst 1, 1) by decide +kernel) (by decide) ?_
    exact Ev_iret hq_21 (show decode prog_5_method_19_code 126 = .ok (.ireturn, 1) by decide +kernel) rfl k
  have k := k.2 c12
  by_cases c13 : x0 = 52
  · have k := k.1 c13
    rw [c13]
    refine Ev_tableIn (off := 124) (tgt := 125) hq_21 (show decode prog_5_method_19_code 1 = .ok (.tableswitch 124 40 61 #[103, 105, 115, 109, 124, 112, 124, 124, 124, 124, 124, 124, 124, 124, 124, 124, 124, 124, 124, 107, 118, 121], 103) by decide +kernel) (by decide) (by decide) (by decide) (by decide) ?_
    refine Ev_iconst (v := 1) hq_21 (show decode prog_5_method_19_code 125 = .ok (.iconst 1, 1) by decide +kernel) (by decide) ?_
    exact Ev_iret hq_21 (show decode prog_5_method_19_code 126 = .ok (.ireturn, 1) by decide +kernel) rfl k
  have k := k.2 c13
  by_cases c14 : x0 = 53
  · have k := k.1 c14
    rw [c14]
    refine Ev_tableIn (off := 124) (tgt := 125) hq_21 (show decode prog_5_method_19_code 1 = .ok (.tableswitch 124 40 61 #[103, 105, 115, 109, 124, 112, 124, 124, 124, 124, 124, 124, 124, 124, 124, 124, 124, 124, 124, 107, 118, 121], 103) by decide +kernel) (by decide) (by decide) (by decide) (by decide) ?_
    refine Ev_iconst (v := 1) hq_21 (show decode prog_5_method_19_code 125 = .ok (.iconst 1, 1) by decide +kernel) (by decide) ?_
    exact Ev_iret hq_21 (show decode prog_5_method_19_code 126 = .ok (.ireturn, 1) by decide +kernel) rfl k
  have k := k.2 c14
  by_cases c15 : x0 = 54
  · have k := k.1 c15
    rw [c15]
    refine Ev_tableIn (off := 124) (tgt := 125) hq_21 (show decode prog_5_method_19_code 1 = .ok (.tableswitch 124 40 61 #[103, 105, 115, 109, 124, 112, 124, 124, 124, 124, 124, 124, 124, 124, 124, 124, 124, 124, 124, 107, 118, 121], 103) by decide +kernel) (by decide) (by decide) (by decide) (by decide) ?_
    refine Ev_iconst (v := 1) hq_21 (show decode prog_5_method_19_code 125 = .ok (.iconst 1, 1) by decide +kernel) (by decide) ?_
    exact Ev_iret hq_21 (show decode prog_5_method_19_code 126 = .ok (.ireturn, 1) by decide +kernel) rfl k
  have k := k.2 c15
  by_cases c16 : x0 = 55
  · have k := k.1 c16
    rw [c16]
    refine Ev_tableIn (off := 124) (tgt := 125) hq_21 (show decode prog_5_method_19_code 1 = .ok (.tableswitch 124 40 61 #[103, 105, 115, 109, 124, 112, 124, 124, 124, 124, 124, 124, 124, 124, 124, 124, 124, 124, 124, 107, 118, 121], 103) by decide +kernel) (by decide) (by decide) (by decide) (by decide) ?_
    refine Ev_iconst (v := 1) hq_21 (show decode prog_5_method_19_code 125 = .ok (.iconst 1, 1) by decide +kernel) (by decide) ?_
    exact Ev_iret hq_21 (show decode prog_5_method_19_code 126 = .ok (.ireturn, 1) by decide +kernel) rfl k
  have k := k.2 c16
  by_cases c17 : x0 = 56
  · have k := k.1 c17
    rw [c17]
    refine Ev_tableIn (off := 124) (tgt := 125) hq_21 (show decode prog_5_method_19_code 1 = .ok (.tableswitch 124 40 61 #[103, 105, 115, 109, 124, 112, 124, 124, 124, 124, 124, 124, 124, 124, 124, 124, 124, 124, 124, 107, 118, 121], 103) by decide +kernel) (by decide) (by decide) (by decide) (by decide) ?_
    refine Ev_iconst (v := 1) hq_21 (show decode prog_5_method_19_code 125 = .ok (.iconst 1, 1) by decide +kernel) (by decide) ?_
    exact Ev_iret hq_21 (show decode prog_5_method_19_code 126 = .ok (.ireturn, 1) by decide +kernel) rfl k
  have k := k.2 c17
  by_cases c18 : x0 = 57
  · have k := k.1 c18
    rw [c18]
    refine Ev_tableIn (off := 124) (tgt := 125) hq_21 (show decode prog_5_method_19_code 1 = .ok (.tableswitch 124 40 61 #[103, 105, 115, 109, 124, 112, 124, 124, 124, 124, 124, 124, 124, 124, 124, 124, 124, 124, 124, 107, 118, 121], 103) by decide +kernel) (by decide) (by decide) (by decide) (by decide) ?_
    refine Ev_iconst (v := 1) hq_21 (show decode prog_5_method_19_code 125 = .ok (.iconst 1, 1) by decide +kernel) (by decide) ?_
    exact Ev_iret hq_21 (show decode prog_5_method_19_code 126 = .ok (.ireturn, 1) by decide +kernel) rfl k
  have k := k.2 c18
  by_cases c19 : x0 = 58
  · have k := k.1 c19
    rw [c19]
    refine Ev_tableIn (off := 124) (tgt := 125) hq_21 (show decode prog_5_method_19_code 1 = .ok (.tableswitch 124 40 61 #[103, 105, 115, 109, 124, 112, 124, 124, 124, 124, 124, 124, 124, 124, 124, 124, 124, 124, 124, 107, 118, 121], 103) by decide +kernel) (by decide) (by decide) (by decide) (by decide) ?_
    refine Ev_iconst (v := 1) hq_21 (show decode prog_5_method_19_code 125 = .ok (.iconst 1, 1) by decide +kernel) (by decide) ?_
    exact Ev_iret hq_21 (show decode prog_5_method_19_code 126 = .ok (.ireturn, 1) by decide +kernel) rfl k
  have k := k.2 c19
  by_cases c20 : x0 = 59
  · have k := k.1 c20
    rw [c20]
    refine Ev_tableIn (off := 107) (tgt := 108) hq_21 (show decode prog_5_method_19_code 1 = .ok (.tableswitch 124 40 61 #[103, 105, 115, 109, 124, 112, 124, 124, 124, 124, 124, 124, 124, 124, 124, 124, 124, 124, 124, 107, 118, 121], 103) by decide +kernel) (by decide) (by decide) (by decide) (by decide) ?_
    refine Ev_iconst (v := 5) hq_21 (show decode prog_5_method_19_code 108 = .ok (.iconst 5, 1) by decide +kernel) (by decide) ?_
    exact Ev_iret hq_21 (show decode prog_5_method_19_code 109 = .ok (.ireturn, 1) by decide +kernel) rfl k
  have k := k.2 c20
  by_cases c21 : x0 = 60
  · have k := k.1 c21
    rw [c21]
    refine Ev_tableIn (off := 118) (tgt := 119) hq_21 (show decode prog_5_method_19_code 1 = .ok (.tableswitch 124 40 61 #[103, 105, 115, 109, 124, 112, 124, 124, 124, 124, 124, 124, 124, 124, 124, 124, 124, 124, 124, 107, 118, 121], 103) by decide +kernel) (by decide) (by decide) (by decide) (by decide) ?_
    refine Ev_bipush (v := 9) hq_21 (show decode prog_5_method_19_code 119 = .ok (.bipush 9, 2) by decide +kernel) (by decide) ?_
    exact Ev_iret hq_21 (show decode prog_5_method_19_code 121 = .ok (.ireturn, 1) by decide +kernel) rfl k
  have k := k.2 c21
  by_cases c22 : x0 = 61
  · have k := k.1 c22
    rw [c22]
    refine Ev_tableIn (off := 121) (tgt := 122) hq_21 (show decode prog_5_method_19_code 1 = .ok (.tableswitch 124 40 61 #[103, 105, 115, 109, 124, 112, 124, 124, 124, 124, 124, 124, 124, 124, 124, 124, 124, 124, 124, 107, 118, 121], 103) by decide +kernel) (by decide) (by decide) (by decide) (by decide) ?_
    refine Ev_bipush (v := 10) hq_21 (show decode prog_5_method_19_code 122 = .ok (.bipush 10, 2) by decide +kernel) (by decide) ?_
    exact Ev_iret hq_21 (show decode prog_5_method_19_code 124 = .ok (.ireturn, 1) by decide +kernel) rfl k
  have k := k.2 c22
  have ec1 : (x0).toInt ≠ 40 := z_ne (k := 40) c1
  have ec2 : (x0).toInt ≠ 41 := z_ne (k := 41) c2
  have ec3 : (x0).toInt ≠ 42 := z_ne (k := 42) c3
  have ec4 : (x0).toInt ≠ 43 := z_ne (k := 43) c4
  have ec5 : (x0).toInt ≠ 44 := z_ne (k := 44) c5
  have ec6 : (x0).toInt ≠ 45 := z_ne (k := 45) c6
  have ec7 : (x0).toInt ≠ 46 := z_ne (k := 46) c7
  have ec8 : (x0).toInt ≠ 47 := z_ne (k := 47) c8
  have ec9 : (x0).toInt ≠ 48 := z_ne (k := 48) c9
  have ec10 : (x0).toInt ≠ 49 := z_ne (k := 49) c10
  have ec11 : (x0).toInt ≠ 50 := z_ne (k := 50) c11
  have ec12 : (x0).toInt ≠ 51 := z_ne (k := 51) c12
  have ec13 : (x0).toInt ≠ 52 := z_ne (k := 52) c13
  have ec14 : (x0).toInt ≠ 53 := z_ne (k := 53) c14
  have ec15 : (x0).toInt ≠ 54 := z_ne (k := 54) c15
  have ec16 : (x0).toInt ≠ 55 := z_ne (k := 55) c16
  have ec17 : (x0).toInt ≠ 56 := z_ne (k := 56) c17
  have ec18 : (x0).toInt ≠ 57 := z_ne (k := 57) c18
  have ec19 : (x0).toInt ≠ 58 := z_ne (k := 58) c19
  have ec20 : (x0).toInt ≠ 59 := z_ne (k := 59) c20
  have ec21 : (x0).toInt ≠ 60 := z_ne (k := 60) c21
  have ec22 : (x0).toInt ≠ 61 := z_ne (k := 61) c22
  refine Ev_tableOut (tgt := 125) hq_21 (show decode prog_5_method_19_code 1 = .ok (.tableswitch 124 40 61 #[103, 105, 115, 109, 124, 112, 124, 124, 124, 124, 124, 124, 124, 124, 124, 124, 124, 124, 124, 107, 118, 121], 103) by decide +kernel) (by omega) (by decide) ?_
  refine Ev_iconst (v := 1) hq_21 (show decode prog_5_method_19_code 125 = .ok (.iconst 1, 1) by decide +kernel) (by decide) ?_
  exact Ev_iret hq_21 (show decode prog_5_method_19_code 126 = .ok (.ireturn, 1) by decide +kernel) rfl k
