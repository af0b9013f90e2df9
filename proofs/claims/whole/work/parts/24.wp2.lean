set_option maxRecDepth 20000 in
theorem wp_R_readEither {X : Nat × (Nat → Int32)} {d : Nat} {G : zG} {I : zI} {res : Option Value × zG × zI}  (hS : SG G) 
    (k : ∃ (r3 : Int32) (I1 : zI), Cv X d 24 [.ref 39] G I (some (.int r3), G, I1) ∧ ((¬ r3 = 0 → Ev X (d + 1) 23 11 [.ref 39, .int 0] [] G I1 res) ∧ (r3 = 0 → res = (some (.int 0), G, I1)))) :
    Ev X (d + 1) 23 0 [.ref 39, zU] [] G I res := by
  refine Ev_aload_n hq_23 (show decode prog_5_method_6_code 0 = .ok (.aload_n 0, 1) by decide +kernel) rfl ?_
  obtain ⟨r3, I1, h2, k⟩ := k
  refine Ev_virt (as := []) hq_23 (show decode prog_5_method_6_code 1 = .ok (.invokevirtual 80, 3) by decide +kernel) rfl hq_24 rfl (z_le rfl) ⟨(SGn hS (by decide)), (SGk hS rfl), by decide⟩ h2 ?_
  refine Ev_if_ne (tgt := 9) hq_23 (show decode prog_5_method_6_code 4 = .ok (.ifCond .ne 5, 3) by decide +kernel) (by decide) (fun c4 => ?_) (fun c4 => ?_)
  · have k := k.1 c4
    refine Ev_iconst (v := 0) hq_23 (show decode prog_5_method_6_code 9 = .ok (.iconst 0, 1) by decide +kernel) (by decide) ?_
    refine Ev_istore_n (lo2 := [.ref 39, .int 0]) hq_23 (show decode prog_5_method_6_code 10 = .ok (.istore_n 1, 1) by decide +kernel) (z_le rfl) rfl ?_
    exact k
  · have k := k.2 (Classical.not_not.mp c4)
    refine Ev_iconst (v := 0) hq_23 (show decode prog_5_method_6_code 7 = .ok (.iconst 0, 1) by decide +kernel) (by decide) ?_
    exact Ev_iret hq_23 (show decode prog_5_method_6_code 8 = .ok (.ireturn, 1) by decide +kernel) rfl k
set_option maxRecDepth 20000 in
theorem wp_R_readEither_11 {X : Nat × (Nat → Int32)} {d : Nat} {G : zG} {I : zI} {res : Option Value × zG × zI} (x1 : Int32) (hS : SG G) 
    (k : (160 ≤ x1 → res = (some (.int 1), G, I)) ∧ (¬ 160 ≤ x1 → (¬ (I 39 4) = 14 → res = (some (.int 1), G, I)) ∧ ((I 39 4) = 14 → ∃ (I3 : zI), Cv X d 14 [.ref 39] G I (none, G, I3) ∧ (∃ (r7 : Int32) (I5 : zI), Cv X d 24 [.ref 39] G I3 (some (.int r7), G, I5) ∧ ((r7 = 0 → res = (some (.int 0), G, I5)) ∧ (¬ r7 = 0 → ∃ (r11 : Int32) (I9 : zI), Cv X d 28 [.ref 39, .int 20000] G I5 (some (.int r11), G, I9) ∧ ((¬ r11 = 0 → ∀ y13 : Int32, y13 = x1 + 1 → Ev X (d + 1) 23 11 [.ref 39, .int y13] [] G I9 res) ∧ (r11 = 0 → res = (some (.int 0), G, I9))))))))) :
    Ev X (d + 1) 23 11 [.ref 39, .int x1] [] G I res := by
  refine Ev_iload_n hq_23 (show decode prog_5_method_6_code 11 = .ok (.iload_n 1, 1) by decide +kernel) rfl ?_
  refine Ev_sipush (v := 160) hq_23 (show decode prog_5_method_6_code 12 = .ok (.sipush 160, 3) by decide +kernel) (by decide) ?_
  refine Ev_icmp_ge (tgt := 56) hq_23 (show decode prog_5_method_6_code 15 = .ok (.if_icmp .ge 41, 3) by decide +kernel) (by decide) (fun c1 => ?_) (fun c1 => ?_)
  · have k := k.1 c1
    refine Ev_iconst (v := 1) hq_23 (show decode prog_5_method_6_code 56 = .ok (.iconst 1, 1) by decide +kernel) (by decide) ?_
    exact Ev_iret hq_23 (show decode prog_5_method_6_code 57 = .ok (.ireturn, 1) by decide +kernel) rfl k
  · have k := k.2 c1
    refine Ev_aload_n hq_23 (show decode prog_5_method_6_code 18 = .ok (.aload_n 0, 1) by decide +kernel) rfl ?_
    refine Ev_getI hq_23 (show decode prog_5_method_6_code 19 = .ok (.getfield 25, 3) by decide +kernel) rfl (SGn hS (by decide)) (SGk hS rfl) (by decide) rfl ?_
    refine Ev_bipush (v := 14) hq_23 (show decode prog_5_method_6_code 22 = .ok (.bipush 14, 2) by decide +kernel) (by decide) ?_
    refine Ev_icmp_ne (tgt := 56) hq_23 (show decode prog_5_method_6_code 24 = .ok (.if_icmp .ne 32, 3) by decide +kernel) (by decide) (fun c2 => ?_) (fun c2 => ?_)
    · have k := k.1 c2
      refine Ev_iconst (v := 1) hq_23 (show decode prog_5_method_6_code 56 = .ok (.iconst 1, 1) by decide +kernel) (by decide) ?_
      exact Ev_iret hq_23 (show decode prog_5_method_6_code 57 = .ok (.ireturn, 1) by decide +kernel) rfl k
    · have k := k.2 (Classical.not_not.mp c2)
      refine Ev_aload_n hq_23 (show decode prog_5_method_6_code 27 = .ok (.aload_n 0, 1) by decide +kernel) rfl ?_
      obtain ⟨I3, h4, k⟩ := k
      refine Ev_virt (as := []) hq_23 (show decode prog_5_method_6_code 28 = .ok (.invokevirtual 49, 3) by decide +kernel) rfl hq_14 rfl (z_le rfl) ⟨(SGn hS (by decide)), (SGk hS rfl), by decide⟩ h4 ?_
      refine Ev_aload_n hq_23 (show decode prog_5_method_6_code 31 = .ok (.aload_n 0, 1) by decide +kernel) rfl ?_
      obtain ⟨r7, I5, h6, k⟩ := k
      refine Ev_virt (as := []) hq_23 (show decode prog_5_method_6_code 32 = .ok (.invokevirtual 80, 3) by decide +kernel) rfl hq_24 rfl (z_le rfl) ⟨(SGn hS (by decide)), (SGk hS rfl), by decide⟩ h6 ?_
      refine Ev_if_eq (tgt := 48) hq_23 (show decode prog_5_method_6_code 35 = .ok (.ifCond .eq 13, 3) by decide +kernel) (by decide) (fun c8 => ?_) (fun c8 => ?_)
      · have k := k.1 c8
        refine Ev_iconst (v := 0) hq_23 (show decode prog_5_method_6_code 48 = .ok (.iconst 0, 1) by decide +kernel) (by decide) ?_
        exact Ev_iret hq_23 (show decode prog_5_method_6_code 49 = .ok (.ireturn, 1) by decide +kernel) rfl k
      · have k := k.2 c8
        refine Ev_aload_n hq_23 (show decode prog_5_method_6_code 38 = .ok (.aload_n 0, 1) by decide +kernel) rfl ?_
        refine Ev_sipush (v := 20000) hq_23 (show decode prog_5_method_6_code 39 = .ok (.sipush 20000, 3) by decide +kernel) (by decide) ?_
        obtain ⟨r11, I9, h10, k⟩ := k
        refine Ev_virt (as := [.int 20000]) hq_23 (show decode prog_5_method_6_code 42 = .ok (.invokevirtual 83, 3) by decide +kernel) rfl hq_28 rfl (z_le rfl) ⟨(SGn hS (by decide)), (SGk hS rfl), by decide⟩ h10 ?_
        refine Ev_if_ne (tgt := 50) hq_23 (show decode prog_5_method_6_code 45 = .ok (.ifCond .ne 5, 3) by decide +kernel) (by decide) (fun c12 => ?_) (fun c12 => ?_)
        · have k := k.1 c12
          obtain ⟨y13, ey13⟩ : ∃ y13 : Int32, y13 = x1 + 1 := ⟨_, rfl⟩
          have k := k y13 ey13
          refine Ev_iinc (v := y13) (lo2 := [.ref 39, .int y13]) hq_23 (show decode prog_5_method_6_code 50 = .ok (.iinc 1 1, 3) by decide +kernel) rfl (by rw [ey13]; rfl) rfl ?_
          refine Ev_goto (tgt := 11) hq_23 (show decode prog_5_method_6_code 53 = .ok (.goto (-42), 3) by decide +kernel) (by decide) ?_
          exact k
        · have k := k.2 (Classical.not_not.mp c12)
          refine Ev_iconst (v := 0) hq_23 (show decode prog_5_method_6_code 48 = .ok (.iconst 0, 1) by decide +kernel) (by decide) ?_
          exact Ev_iret hq_23 (show decode prog_5_method_6_code 49 = .ok (.ireturn, 1) by decide +kernel) rfl k
set_option maxRecDepth 20000 in
theorem wp_H_onBits {X : Nat × (Nat → Int32)} {d : Nat} {G : zG} {I : zI} {res : Option Value × zG × zI} (o : Nat) 
    (k : Ev X d 38 4 [.ref o, .int 0, .int 0] [] G I res) :
    Ev X d 38 0 [.ref o, zU, zU] [] G I res := by
  refine Ev_iconst (v := 0) hq_38 (show decode prog_2_method_6_code 0 = .ok (.iconst 0, 1) by decide +kernel) (by decide) ?_
  refine Ev_istore_n (lo2 := [.ref o, .int 0, zU]) hq_38 (show decode prog_2_method_6_code 1 = .ok (.istore_n 1, 1) by decide +kernel) (z_le rfl) rfl ?_
  refine Ev_iconst (v := 0) hq_38 (show decode prog_2_method_6_code 2 = .ok (.iconst 0, 1) by decide +kernel) (by decide) ?_
  refine Ev_istore_n (lo2 := [.ref o, .int 0, .int 0]) hq_38 (show decode prog_2_method_6_code 3 = .ok (.istore_n 2, 1) by decide +kernel) (z_le rfl) rfl ?_
  exact k
set_option maxRecDepth 20000 in
theorem wp_H_onBits_4 {X : Nat × (Nat → Int32)} {d : Nat} {G : zG} {I : zI} {res : Option Value × zG × zI} (o : Nat) (x1 : Int32) (x2 : Int32) (ho : HH G o) 
    (k : ((I o 7) ≤ x2 → res = (some (.int x1), G, I)) ∧ (¬ (I o 7) ≤ x2 → z_inr x2 4 ∧ (∀ y3 : Int32, y3 = (x1 ||| ((I (o + (6 + 1)) x2.toNatClampNeg) <<< (x2 &&& 31))) → ∀ y4 : Int32, y4 = x2 + 1 → Ev X d 38 4 [.ref o, .int y3, .int y4] [] G I res))) :
    Ev X d 38 4 [.ref o, .int x1, .int x2] [] G I res := by
  refine Ev_iload_n hq_38 (show decode prog_2_method_6_code 4 = .ok (.iload_n 2, 1) by decide +kernel) rfl ?_
  refine Ev_aload_n hq_38 (show decode prog_2_method_6_code 5 = .ok (.aload_n 0, 1) by decide +kernel) rfl ?_
  refine Ev_getI hq_38 (show decode prog_2_method_6_code 6 = .ok (.getfield 33, 3) by decide +kernel) rfl (VB.lt ho (by omega)) ho.2.1 (by decide) rfl ?_
  refine Ev_icmp_ge (tgt := 29) hq_38 (show decode prog_2_method_6_code 9 = .ok (.if_icmp .ge 20, 3) by decide +kernel) (by decide) (fun c1 => ?_) (fun c1 => ?_)
  · have k := k.1 c1
    refine Ev_iload_n hq_38 (show decode prog_2_method_6_code 29 = .ok (.iload_n 1, 1) by decide +kernel) rfl ?_
    exact Ev_iret hq_38 (show decode prog_2_method_6_code 30 = .ok (.ireturn, 1) by decide +kernel) rfl k
  · have k := k.2 c1
    refine Ev_iload_n hq_38 (show decode prog_2_method_6_code 12 = .ok (.iload_n 1, 1) by decide +kernel) rfl ?_
    refine Ev_aload_n hq_38 (show decode prog_2_method_6_code 13 = .ok (.aload_n 0, 1) by decide +kernel) rfl ?_
    refine Ev_getR hq_38 (show decode prog_2_method_6_code 14 = .ok (.getfield 30, 3) by decide +kernel) rfl (VB.lt ho (by omega)) ho.2.1 (by decide) rfl (ho.2.2 6 (by decide)).1 ?_
    refine Ev_iload_n hq_38 (show decode prog_2_method_6_code 17 = .ok (.iload_n 2, 1) by decide +kernel) rfl ?_
    obtain ⟨h2, k⟩ := k
    refine Ev_iald hq_38 (show decode prog_2_method_6_code 18 = .ok (.iaload, 1) by decide +kernel) (VB.lt ho (by omega)) (ho.2.2 6 (by decide)).2.1 (VB.inr ho (j := 6) (n := 4) (by decide) rfl h2) ?_
    refine Ev_iload_n hq_38 (show decode prog_2_method_6_code 19 = .ok (.iload_n 2, 1) by decide +kernel) rfl ?_
    refine Ev_ishl hq_38 (show decode prog_2_method_6_code 20 = .ok (.ishl, 1) by decide +kernel) ?_
    refine Ev_ior hq_38 (show decode prog_2_method_6_code 21 = .ok (.ior, 1) by decide +kernel) ?_
    obtain ⟨y3, ey3⟩ : ∃ y3 : Int32, y3 = (x1 ||| ((I (o + (6 + 1)) x2.toNatClampNeg) <<< (x2 &&& 31))) := ⟨_, rfl⟩
    have k := k y3 ey3
    rw [← ey3]
    refine Ev_istore_n (lo2 := [.ref o, .int y3, .int x2]) hq_38 (show decode prog_2_method_6_code 22 = .ok (.istore_n 1, 1) by decide +kernel) (z_le rfl) rfl ?_
    obtain ⟨y4, ey4⟩ : ∃ y4 : Int32, y4 = x2 + 1 := ⟨_, rfl⟩
    have k := k y4 ey4
    refine Ev_iinc (v := y4) (lo2 := [.ref o, .int y3, .int y4]) hq_38 (show decode prog_2_method_6_code 23 = .ok (.iinc 2 1, 3) by decide +kernel) rfl (by rw [ey4]; rfl) rfl ?_
    refine Ev_goto (tgt := 4) hq_38 (show decode prog_2_method_6_code 26 = .ok (.goto (-22), 3) by decide +kernel) (by decide) ?_
    exact k
set_option maxRecDepth 20000 in
theorem wp_T_count {X : Nat × (Nat → Int32)} {d : Nat} {G : zG} {I : zI} {res : Option Value × zG × zI} (x1 : Int32) (hS : SG G) 
    (k : (x1 = 0 → res = (some (.int (I 1 7)), G, I)) ∧ (¬ x1 = 0 → (x1 = 1 → ∃ (r5 : Int32) (I3 : zI), Cv X d 38 [.ref 1] G I (some (.int r5), G, I3) ∧ (res = (some (.int r5), G, I3))) ∧ (¬ x1 = 1 → (x1 = 2 → res = (some (.int (I 0 7)), G, I)) ∧ (¬ x1 = 2 → (x1 = 3 → res = (some (.int (I 1 8)), G, I)) ∧ (¬ x1 = 3 → (x1 = 4 → res = (some (.int (I 0 9)), G, I)) ∧ (¬ x1 = 4 → res = (some (.int (-2)), G, I))))))) :
    Ev X (d + 1) 37 0 [.ref 0, .int x1] [] G I res := by
  refine Ev_iload_n hq_37 (show decode prog_1_method_2_code 0 = .ok (.iload_n 1, 1) by decide +kernel) rfl ?_
  by_cases c1 : x1 = 0
  · have k := k.1 c1
    refine Ev_tableIn (off := 35) (tgt := 36) hq_37 (show decode prog_1_method_2_code 1 = .ok (.tableswitch 69 0 4 #[35, 43, 51, 56, 64], 35) by decide +kernel) (by rw [c1]; decide) (by rw [c1]; decide) (by rw [c1]; decide) (by decide) ?_
    refine Ev_aload_n hq_37 (show decode prog_1_method_2_code 36 = .ok (.aload_n 0, 1) by decide +kernel) rfl ?_
    refine Ev_getR hq_37 (show decode prog_1_method_2_code 37 = .ok (.getfield 10, 3) by decide +kernel) rfl (SGn hS (by decide)) (SGk hS rfl) (by decide) rfl (SGr hS rfl) ?_
    refine Ev_getI hq_37 (show decode prog_1_method_2_code 40 = .ok (.getfield 100, 3) by decide +kernel) rfl (SGn hS (by decide)) (SGk hS rfl) (by decide) rfl ?_
    exact Ev_iret hq_37 (show decode prog_1_method_2_code 43 = .ok (.ireturn, 1) by decide +kernel) rfl k
  have k := k.2 c1
  by_cases c2 : x1 = 1
  · have k := k.1 c2
    refine Ev_tableIn (off := 43) (tgt := 44) hq_37 (show decode prog_1_method_2_code 1 = .ok (.tableswitch 69 0 4 #[35, 43, 51, 56, 64], 35) by decide +kernel) (by rw [c2]; decide) (by rw [c2]; decide) (by rw [c2]; decide) (by decide) ?_
    refine Ev_aload_n hq_37 (show decode prog_1_method_2_code 44 = .ok (.aload_n 0, 1) by decide +kernel) rfl ?_
    refine Ev_getR hq_37 (show decode prog_1_method_2_code 45 = .ok (.getfield 10, 3) by decide +kernel) rfl (SGn hS (by decide)) (SGk hS rfl) (by decide) rfl (SGr hS rfl) ?_
    obtain ⟨r5, I3, h4, k⟩ := k
    refine Ev_virt (as := []) hq_37 (show decode prog_1_method_2_code 48 = .ok (.invokevirtual 103, 3) by decide +kernel) rfl hq_38 rfl (z_le rfl) ⟨(SGn hS (by decide)), (SGk hS rfl), by decide⟩ h4 ?_
    exact Ev_iret hq_37 (show decode prog_1_method_2_code 51 = .ok (.ireturn, 1) by decide +kernel) rfl k
  have k := k.2 c2
  by_cases c6 : x1 = 2
  · have k := k.1 c6
    refine Ev_tableIn (off := 51) (tgt := 52) hq_37 (show decode prog_1_method_2_code 1 = .ok (.tableswitch 69 0 4 #[35, 43, 51, 56, 64], 35) by decide +kernel) (by rw [c6]; decide) (by rw [c6]; decide) (by rw [c6]; decide) (by decide) ?_
    refine Ev_aload_n hq_37 (show decode prog_1_method_2_code 52 = .ok (.aload_n 0, 1) by decide +kernel) rfl ?_
    refine Ev_getI hq_37 (show decode prog_1_method_2_code 53 = .ok (.getfield 46, 3) by decide +kernel) rfl (SGn hS (by decide)) (SGk hS rfl) (by decide) rfl ?_
    exact Ev_iret hq_37 (show decode prog_1_method_2_code 56 = .ok (.ireturn, 1) by decide +kernel) rfl k
  have k := k.2 c6
  by_cases c7 : x1 = 3
  · have k := k.1 c7
    refine Ev_tableIn (off := 56) (tgt := 57) hq_37 (show decode prog_1_method_2_code 1 = .ok (.tableswitch 69 0 4 #[35, 43, 51, 56, 64], 35) by decide +kernel) (by rw [c7]; decide) (by rw [c7]; decide) (by rw [c7]; decide) (by decide) ?_
    refine Ev_aload_n hq_37 (show decode prog_1_method_2_code 57 = .ok (.aload_n 0, 1) by decide +kernel) rfl ?_
    refine Ev_getR hq_37 (show decode prog_1_method_2_code 58 = .ok (.getfield 10, 3) by decide +kernel) rfl (SGn hS (by decide)) (SGk hS rfl) (by decide) rfl (SGr hS rfl) ?_
    refine Ev_getI hq_37 (show decode prog_1_method_2_code 61 = .ok (.getfield 106, 3) by decide +kernel) rfl (SGn hS (by decide)) (SGk hS rfl) (by decide) rfl ?_
    exact Ev_iret hq_37 (show decode prog_1_method_2_code 64 = .ok (.ireturn, 1) by decide +kernel) rfl k
  have k := k.2 c7
  by_cases c8 : x1 = 4
  · have k := k.1 c8
    refine Ev_tableIn (off := 64) (tgt := 65) hq_37 (show decode prog_1_method_2_code 1 = .ok (.tableswitch 69 0 4 #[35, 43, 51, 56, 64], 35) by decide +kernel) (by rw [c8]; decide) (by rw [c8]; decide) (by rw [c8]; decide) (by decide) ?_
    refine Ev_aload_n hq_37 (show decode prog_1_method_2_code 65 = .ok (.aload_n 0, 1) by decide +kernel) rfl ?_
    refine Ev_getI hq_37 (show decode prog_1_method_2_code 66 = .ok (.getfield 54, 3) by decide +kernel) rfl (SGn hS (by decide)) (SGk hS rfl) (by decide) rfl ?_
    exact Ev_iret hq_37 (show decode prog_1_method_2_code 69 = .ok (.ireturn, 1) by decide +kernel) rfl k
  have k := k.2 c8
  have ec1 : (x1).toInt ≠ 0 := z_ne (k := 0) c1
  have ec2 : (x1).toInt ≠ 1 := z_ne (k := 1) c2
  have ec6 : (x1).toInt ≠ 2 := z_ne (k := 2) c6
  have ec7 : (x1).toInt ≠ 3 := z_ne (k := 3) c7
  have ec8 : (x1).toInt ≠ 4 := z_ne (k := 4) c8
  refine Ev_tableOut (tgt := 70) hq_37 (show decode prog_1_method_2_code 1 = .ok (.tableswitch 69 0 4 #[35, 43, 51, 56, 64], 35) by decide +kernel) (by omega) (by decide) ?_
  refine Ev_bipush (v := (-2)) hq_37 (show decode prog_1_method_2_code 70 = .ok (.bipush (-2), 2) by decide +kernel) (by decide) ?_
  exact Ev_iret hq_37 (show decode prog_1_method_2_code 72 = .ok (.ireturn, 1) by decide +kernel) rfl k
set_option maxRecDepth 20000 in
theorem wp_T_isByte {X : Nat × (Nat → Int32)} {d : Nat} {G : zG} {I : zI} {res : Option Value × zG × zI} (x0 : Int32) 
    (k : res = (some (.int (f_T_within x0 0 255)), G, I)) :
    Ev X (d + 1) 40 0 [.int x0] [] G I res := by
  refine Ev_iload_n hq_40 (show decode prog_1_method_5_code 0 = .ok (.iload_n 0, 1) by decide +kernel) rfl ?_
  refine Ev_iconst (v := 0) hq_40 (show decode prog_1_method_5_code 1 = .ok (.iconst 0, 1) by decide +kernel) (by decide) ?_
  refine Ev_sipush (v := 255) hq_40 (show decode prog_1_method_5_code 2 = .ok (.sipush 255, 3) by decide +kernel) (by decide) ?_
  refine Ev_stat (as := [.int x0, .int 0, .int 255]) hq_40 (show decode prog_1_method_5_code 5 = .ok (.invokestatic 108, 3) by decide +kernel) rfl (Or.inl rfl) hq_32 rfl (z_le rfl) (c_T_within x0 0 255) ?_
  exact Ev_iret hq_40 (show decode prog_1_method_5_code 8 = .ok (.ireturn, 1) by decide +kernel) (z_nb (b_T_within x0 0 255)) k
def f_T_isByte (x0 : Int32) : Int32 := (f_T_within x0 0 255)
theorem c_T_isByte {X : Nat × (Nat → Int32)} {d : Nat} {G : zG} {I : zI} (hd : 1 ≤ d) (x0 : Int32) : Cv X d 40 [.int x0] G I (some (.int (f_T_isByte x0)), G, I) := by
  obtain ⟨d, rfl⟩ : ∃ e, d = e + 1 := ⟨d - 1, by omega⟩
  exact Cv.of hq_40 (z_le rfl) rfl (wp_T_isByte x0 (by rfl))
theorem b_T_isByte (x0 : Int32) : f_T_isByte x0 = 0 ∨ f_T_isByte x0 = 1 := by
  unfold f_T_isByte
  repeat (any_goals split)
  all_goals first | exact Or.inl rfl | exact Or.inr rfl | exact b_T_within ..
set_option maxRecDepth 20000 in
theorem wp_T_feedOne {X : Nat × (Nat → Int32)} {d : Nat} {G : zG} {I : zI} {res : Option Value × zG × zI} (x1 : Int32) (hS : SG G) 
    (k : (160 ≤ (I 0 9) → res = (none, G, I)) ∧ (¬ 160 ≤ (I 0 9) → (∀ I2 : zI, I2 = z_up I 0 9 ((I 0 9) + 1) → z_inr (I 0 9) 160 ∧ (∀ I4 : zI, I4 = z_up I2 44 (I 0 9).toNatClampNeg x1 → res = (none, G, I4))))) :
    Ev X d 41 0 [.ref 0, .int x1] [] G I res := by
  refine Ev_aload_n hq_41 (show decode prog_1_method_4_code 0 = .ok (.aload_n 0, 1) by decide +kernel) rfl ?_
  refine Ev_getI hq_41 (show decode prog_1_method_4_code 1 = .ok (.getfield 54, 3) by decide +kernel) rfl (SGn hS (by decide)) (SGk hS rfl) (by decide) rfl ?_
  refine Ev_sipush (v := 160) hq_41 (show decode prog_1_method_4_code 4 = .ok (.sipush 160, 3) by decide +kernel) (by decide) ?_
  refine Ev_icmp_ge (tgt := 27) hq_41 (show decode prog_1_method_4_code 7 = .ok (.if_icmp .ge 20, 3) by decide +kernel) (by decide) (fun c1 => ?_) (fun c1 => ?_)
  · have k := k.1 c1
    exact Ev_vret hq_41 (show decode prog_1_method_4_code 27 = .ok (.return_, 1) by decide +kernel) k
  · have k := k.2 c1
    refine Ev_aload_n hq_41 (show decode prog_1_method_4_code 10 = .ok (.aload_n 0, 1) by decide +kernel) rfl ?_
    refine Ev_getR hq_41 (show decode prog_1_method_4_code 11 = .ok (.getfield 50, 3) by decide +kernel) rfl (SGn hS (by decide)) (SGk hS rfl) (by decide) rfl (SGr hS rfl) ?_
    refine Ev_aload_n hq_41 (show decode prog_1_method_4_code 14 = .ok (.aload_n 0, 1) by decide +kernel) rfl ?_
    refine Ev_dup hq_41 (show decode prog_1_method_4_code 15 = .ok (.dup, 1) by decide +kernel) rfl ?_
    refine Ev_getI hq_41 (show decode prog_1_method_4_code 16 = .ok (.getfield 54, 3) by decide +kernel) rfl (SGn hS (by decide)) (SGk hS rfl) (by decide) rfl ?_
    refine Ev_dup_x1 hq_41 (show decode prog_1_method_4_code 19 = .ok (.dup_x1, 1) by decide +kernel) ⟨rfl, rfl⟩ ?_
    refine Ev_iconst (v := 1) hq_41 (show decode prog_1_method_4_code 20 = .ok (.iconst 1, 1) by decide +kernel) (by decide) ?_
    refine Ev_iadd hq_41 (show decode prog_1_method_4_code 21 = .ok (.iadd, 1) by decide +kernel) ?_
    refine Ev_putI hq_41 (show decode prog_1_method_4_code 22 = .ok (.putfield 54, 3) by decide +kernel) rfl (SGn hS (by decide)) (SGk hS rfl) (by decide) (by decide) rfl (fun hz => by cases hz) ?_
    obtain ⟨I2, eI2⟩ : ∃ I2 : zI, I2 = z_up I 0 9 ((I 0 9) + 1) := ⟨_, rfl⟩
    have k := k I2 eI2
    rw [← eI2]
    refine Ev_iload_n hq_41 (show decode prog_1_method_4_code 25 = .ok (.iload_n 1, 1) by decide +kernel) rfl ?_
    obtain ⟨h3, k⟩ := k
    refine Ev_iast hq_41 (show decode prog_1_method_4_code 26 = .ok (.iastore, 1) by decide +kernel) (SGn hS (by decide)) (SGk hS rfl) (SGi hS rfl h3) ?_
    obtain ⟨I4, eI4⟩ : ∃ I4 : zI, I4 = z_up I2 44 (I 0 9).toNatClampNeg x1 := ⟨_, rfl⟩
    have k := k I4 eI4
    rw [← eI4]
    exact Ev_vret hq_41 (show decode prog_1_method_4_code 27 = .ok (.return_, 1) by decide +kernel) k
set_option maxRecDepth 20000 in
theorem wp_T_feed {X : Nat × (Nat → Int32)} {d : Nat} {G : zG} {I : zI} {res : Option Value × zG × zI} (x1 : Int32) (x2 : Int32) (x3 : Int32) (x4 : Int32) (x5 : Int32) (x6 : Int32) (hd : 1 ≤ d) (hS : SG G) 
    (k : (¬ (f_T_within x1 1 5) = 0 → ((f_T_isByte x2) = 0 → res = (some (.int (-2)), G, I)) ∧ (¬ (f_T_isByte x2) = 0 → ((f_T_isByte x3) = 0 → res = (some (.int (-2)), G, I)) ∧ (¬ (f_T_isByte x3) = 0 → ((f_T_isByte x4) = 0 → res = (some (.int (-2)), G, I)) ∧ (¬ (f_T_isByte x4) = 0 → ((f_T_isByte x5) = 0 → res = (some (.int (-2)), G, I)) ∧ (¬ (f_T_isByte x5) = 0 → (¬ (f_T_isByte x6) = 0 → ((I 0 9) ≤ (160 - x1) → ∃ (I8 : zI), Cv X d 41 [.ref 0, .int x2] G I (none, G, I8) ∧ ((x1 ≤ 1 → (x1 ≤ 2 → (x1 ≤ 3 → (x1 ≤ 4 → res = (some (.int (I8 0 9)), G, I8)) ∧ (¬ x1 ≤ 4 → ∃ (I14 : zI), Cv X d 41 [.ref 0, .int x6] G I8 (none, G, I14) ∧ (res = (some (.int (I14 0 9)), G, I14)))) ∧ (¬ x1 ≤ 3 → ∃ (I16 : zI), Cv X d 41 [.ref 0, .int x5] G I8 (none, G, I16) ∧ ((x1 ≤ 4 → res = (some (.int (I16 0 9)), G, I16)) ∧ (¬ x1 ≤ 4 → ∃ (I19 : zI), Cv X d 41 [.ref 0, .int x6] G I16 (none, G, I19) ∧ (res = (some (.int (I19 0 9)), G, I19)))))) ∧ (¬ x1 ≤ 2 → ∃ (I21 : zI), Cv X d 41 [.ref 0, .int x4] G I8 (none, G, I21) ∧ ((x1 ≤ 3 → (x1 ≤ 4 → res = (some (.int (I21 0 9)), G, I21)) ∧ (¬ x1 ≤ 4 → ∃ (I25 : zI), Cv X d 41 [.ref 0, .int x6] G I21 (none, G, I25) ∧ (res = (some (.int (I25 0 9)), G, I25)))) ∧ (¬ x1 ≤ 3 → ∃ (I27 : zI), Cv X d 41 [.ref 0, .int x5] G I21 (none, G, I27) ∧ ((x1 ≤ 4 → res = (some (.int (I27 0 9)), G, I27)) ∧ (¬ x1 ≤ 4 → ∃ (I30 : zI), Cv X d 41 [.ref 0, .int x6] G I27 (none, G, I30) ∧ (res = (some (.int (I30 0 9)), G, I30)))))))) ∧ (¬ x1 ≤ 1 → ∃ (I32 : zI), Cv X d 41 [.ref 0, .int x3] G I8 (none, G, I32) ∧ ((x1 ≤ 2 → (x1 ≤ 3 → (x1 ≤ 4 → res = (some (.int (I32 0 9)), G, I32)) ∧ (¬ x1 ≤ 4 → ∃ (I37 : zI), Cv X d 41 [.ref 0, .int x6] G I32 (none, G, I37) ∧ (res = (some (.int (I37 0 9)), G, I37)))) ∧ (¬ x1 ≤ 3 → ∃ (I39 : zI), Cv X d 41 [.ref 0, .int x5] G I32 (none, G, I39) ∧ ((x1 ≤ 4 → res = (some (.int (I39 0 9)), G, I39)) ∧ (¬ x1 ≤ 4 → ∃ (I42 : zI), Cv X d 41 [.ref 0, .int x6] G I39 (none, G, I42) ∧ (res = (some (.int (I42 0 9)), G, I42)))))) ∧ (¬ x1 ≤ 2 → ∃ (I44 : zI), Cv X d 41 [.ref 0, .int x4] G I32 (none, G, I44) ∧ ((x1 ≤ 3 → (x1 ≤ 4 → res = (some (.int (I44 0 9)), G, I44)) ∧ (¬ x1 ≤ 4 → ∃ (I48 : zI), Cv X d 41 [.ref 0, .int x6] G I44 (none, G, I48) ∧ (res = (some (.int (I48 0 9)), G, I48)))) ∧ (¬ x1 ≤ 3 → ∃ (I50 : zI), Cv X d 41 [.ref 0, .int x5] G I44 (none, G, I50) ∧ ((x1 ≤ 4 → res = (some (.int (I50 0 9)), G, I50)) ∧ (¬ x1 ≤ 4 → ∃ (I53 : zI), Cv X d 41 [.ref 0, .int x6] G I50 (none, G, I53) ∧ (res = (some (.int (I53 0 9)), G, I53))))))))))) ∧ (¬ (I 0 9) ≤ (160 - x1) → res = (some (.int (-4)), G, I))) ∧ ((f_T_isByte x6) = 0 → res = (some (.int (-2)), G, I))))))) ∧ ((f_T_within x1 1 5) = 0 → res = (some (.int (-2)), G, I))) :
    Ev X (d + 1) 39 0 [.ref 0, .int x1, .int x2, .int x3, .int x4, .int x5, .int x6] [] G I res := by
  refine Ev_iload_n hq_39 (show decode prog_1_method_3_code 0 = .ok (.iload_n 1, 1) by decide +kernel) rfl ?_
  refine Ev_iconst (v := 1) hq_39 (show decode prog_1_method_3_code 1 = .ok (.iconst 1, 1) by decide +kernel) (by decide) ?_
  refine Ev_iconst (v := 5) hq_39 (show decode prog_1_method_3_code 2 = .ok (.iconst 5, 1) by decide +kernel) (by decide) ?_
  refine Ev_stat (as := [.int x1, .int 1, .int 5]) hq_39 (show decode prog_1_method_3_code 3 = .ok (.invokestatic 108, 3) by decide +kernel) rfl (Or.inl rfl) hq_32 rfl (z_le rfl) (c_T_within x1 1 5) ?_
  refine Ev_if_ne (tgt := 12) hq_39 (show decode prog_1_method_3_code 6 = .ok (.ifCond .ne 6, 3) by decide +kernel) (by decide) (fun c1 => ?_) (fun c1 => ?_)
  · have k := k.1 c1
    refine Ev_iload_n hq_39 (show decode prog_1_method_3_code 12 = .ok (.iload_n 2, 1) by decide +kernel) rfl ?_
    refine Ev_stat (as := [.int x2]) hq_39 (show decode prog_1_method_3_code 13 = .ok (.invokestatic 112, 3) by decide +kernel) rfl (Or.inl rfl) hq_40 rfl (z_le rfl) (c_T_isByte (by omega) x2) ?_
    refine Ev_if_eq (tgt := 50) hq_39 (show decode prog_1_method_3_code 16 = .ok (.ifCond .eq 34, 3) by decide +kernel) (by decide) (fun c2 => ?_) (fun c2 => ?_)
    · have k := k.1 c2
      refine Ev_bipush (v := (-2)) hq_39 (show decode prog_1_method_3_code 50 = .ok (.bipush (-2), 2) by decide +kernel) (by decide) ?_
      exact Ev_iret hq_39 (show decode prog_1_method_3_code 52 = .ok (.ireturn, 1) by decide +kernel) rfl k
    · have k := k.2 c2
      refine Ev_iload_n hq_39 (show decode prog_1_method_3_code 19 = .ok (.iload_n 3, 1) by decide +kernel) rfl ?_
      refine Ev_stat (as := [.int x3]) hq_39 (show decode prog_1_method_3_code 20 = .ok (.invokestatic 112, 3) by decide +kernel) rfl (Or.inl rfl) hq_40 rfl (z_le rfl) (c_T_isByte (by omega) x3) ?_
      refine Ev_if_eq (tgt := 50) hq_39 (show decode prog_1_method_3_code 23 = .ok (.ifCond .eq 27, 3) by decide +kernel) (by decide) (fun c3 => ?_) (fun c3 => ?_)
      · have k := k.1 c3
        refine Ev_bipush (v := (-2)) hq_39 (show decode prog_1_method_3_code 50 = .ok (.bipush (-2), 2) by decide +kernel) (by decide) ?_
        exact Ev_iret hq_39 (show decode prog_1_method_3_code 52 = .ok (.ireturn, 1) by decide +kernel) rfl k
      · have k := k.2 c3
        refine Ev_iload hq_39 (show decode prog_1_method_3_code 26 = .ok (.iload 4, 2) by decide +kernel) rfl ?_
        refine Ev_stat (as := [.int x4]) hq_39 (show decode prog_1_method_3_code 28 = .ok (.invokestatic 112, 3) by decide +kernel) rfl (Or.inl rfl) hq_40 rfl (z_le rfl) (c_T_isByte (by omega) x4) ?_
        refine Ev_if_eq (tgt := 50) hq_39 (show decode prog_1_method_3_code 31 = .ok (.ifCond .eq 19, 3) by decide +kernel) (by decide) (fun c4 => ?_) (fun c4 => ?_)
        · have k := k.1 c4
          refine Ev_bipush (v := (-2)) hq_39 (show decode prog_1_method_3_code 50 = .ok (.bipush (-2), 2) by decide +kernel) (by decide) ?_
          exact Ev_iret hq_39 (show decode prog_1_method_3_code 52 = .ok (.ireturn, 1) by decide +kernel) rfl k
        · have k := k.2 c4
          refine Ev_iload hq_39 (show decode prog_1_method_3_code 34 = .ok (.iload 5, 2) by decide +kernel) rfl ?_
          refine Ev_stat (as := [.int x5]) hq_39 (show decode prog_1_method_3_code 36 = .ok (.invokestatic 112, 3) by decide +kernel) rfl (Or.inl rfl) hq_40 rfl (z_le rfl) (c_T_isByte (by omega) x5) ?_
          refine Ev_if_eq (tgt := 50) hq_39 (show decode prog_1_method_3_code 39 = .ok (.ifCond .eq 11, 3) by decide +kernel) (by decide) (fun c5 => ?_) (fun c5 => ?_)
          · have k := k.1 c5
            refine Ev_bipush (v := (-2)) hq_39 (show decode prog_1_method_3_code 50 = .ok (.bipush (-2), 2) by decide +kernel) (by decide) ?_
            exact Ev_iret hq_39 (show decode prog_1_method_3_code 52 = .ok (.ireturn, 1) by decide +kernel) rfl k
          · have k := k.2 c5
            refine Ev_iload hq_39 (show decode prog_1_method_3_code 42 = .ok (.iload 6, 2) by decide +kernel) rfl ?_
            refine Ev_stat (as := [.int x6]) hq_39 (show decode prog_1_method_3_code 44 = .ok (.invokestatic 112, 3) by decide +kernel) rfl (Or.inl rfl) hq_40 rfl (z_le rfl) (c_T_isByte (by omega) x6) ?_
            refine Ev_if_ne (tgt := 53) hq_39 (show decode prog_1_method_3_code 47 = .ok (.ifCond .ne 6, 3) by decide +kernel) (by decide) (fun c6 => ?_) (fun c6 => ?_)
            · have k := k.1 c6
              refine Ev_aload_n hq_39 (show decode prog_1_method_3_code 53 = .ok (.aload_n 0, 1) by decide +kernel) rfl ?_
              refine Ev_getI hq_39 (show decode prog_1_method_3_code 54 = .ok (.getfield 54, 3) by decide +kernel) rfl (SGn hS (by decide)) (SGk hS rfl) (by decide) rfl ?_
              refine Ev_sipush (v := 160) hq_39 (show decode prog_1_method_3_code 57 = .ok (.sipush 160, 3) by decide +kernel) (by decide) ?_
              refine Ev_iload_n hq_39 (show decode prog_1_method_3_code 60 = .ok (.iload_n 1, 1) by decide +kernel) rfl ?_
              refine Ev_isub hq_39 (show decode prog_1_method_3_code 61 = .ok (.isub, 1) by decide +kernel) ?_
              refine Ev_icmp_le (tgt := 68) hq_39 (show decode prog_1_method_3_code 62 = .ok (.if_icmp .le 6, 3) by decide +kernel) (by decide) (fun c7 => ?_) (fun c7 => ?_)
              · have k := k.1 c7
                refine Ev_aload_n hq_39 (show decode prog_1_method_3_code 68 = .ok (.aload_n 0, 1) by decide +kernel) rfl ?_
                refine Ev_iload_n hq_39 (show decode prog_1_method_3_code 69 = .ok (.iload_n 2, 1) by decide +kernel) rfl ?_
                obtain ⟨I8, h9, k⟩ := k
                refine Ev_virt (as := [.int x2]) hq_39 (show decode prog_1_method_3_code 70 = .ok (.invokevirtual 116, 3) by decide +kernel) rfl hq_41 rfl (z_le rfl) ⟨(SGn hS (by decide)), (SGk hS rfl), by decide⟩ h9 ?_
                refine Ev_iload_n hq_39 (show decode prog_1_method_3_code 73 = .ok (.iload_n 1, 1) by decide +kernel) rfl ?_
                refine Ev_iconst (v := 1) hq_39 (show decode prog_1_method_3_code 74 = .ok (.iconst 1, 1) by decide +kernel) (by decide) ?_
                refine Ev_icmp_le (tgt := 83) hq_39 (show decode prog_1_method_3_code 75 = .ok (.if_icmp .le 8, 3) by decide +kernel) (by decide) (fun c10 => ?_) (fun c10 => ?_)
                · have k := k.1 c10
                  refine Ev_iload_n hq_39 (show decode prog_1_method_3_code 83 = .ok (.iload_n 1, 1) by decide +kernel) rfl ?_
                  refine Ev_iconst (v := 2) hq_39 (show decode prog_1_method_3_code 84 = .ok (.iconst 2, 1) by decide +kernel) (by decide) ?_
                  refine Ev_icmp_le (tgt := 94) hq_39 (show decode prog_1_method_3_code 85 = .ok (.if_icmp .le 9, 3) by decide +kernel) (by decide) (fun c11 => ?_) (fun c11 => ?_)
                  · have k := k.1 c11
                    refine Ev_iload_n hq_39 (show decode prog_1_method_3_code 94 = .ok (.iload_n 1, 1) by decide +kernel) rfl ?_
                    refine Ev_iconst (v := 3) hq_39 (show decode prog_1_method_3_code 95 = .ok (.iconst 3, 1) by decide +kernel) (by decide) ?_
                    refine Ev_icmp_le (tgt := 105) hq_39 (show decode prog_1_method_3_code 96 = .ok (.if_icmp .le 9, 3) by decide +kernel) (by decide) (fun c12 => ?_) (fun c12 => ?_)
                    · have k := k.1 c12
                      refine Ev_iload_n hq_39 (show decode prog_1_method_3_code 105 = .ok (.iload_n 1, 1) by decide +kernel) rfl ?_
                      refine Ev_iconst (v := 4) hq_39 (show decode prog_1_method_3_code 106 = .ok (.iconst 4, 1) by decide +kernel) (by decide) ?_
                      refine Ev_icmp_le (tgt := 116) hq_39 (show decode prog_1_method_3_code 107 = .ok (.if_icmp .le 9, 3) by decide +kernel) (by decide) (fun c13 => ?_) (fun c13 => ?_)
                      · have k := k.1 c13
                        refine Ev_aload_n hq_39 (show decode prog_1_method_3_code 116 = .ok (.aload_n 0, 1) by decide +kernel) rfl ?_
                        refine Ev_getI hq_39 (show decode prog_1_method_3_code 117 = .ok (.getfield 54, 3) by decide +kernel) rfl (SGn hS (by decide)) (SGk hS rfl) (by decide) rfl ?_
                        exact Ev_iret hq_39 (show decode prog_1_method_3_code 120 = .ok (.ireturn, 1) by decide +kernel) rfl k
                      · have k := k.2 c13
                        refine Ev_aload_n hq_39 (show decode prog_1_method_3_code 110 = .ok (.aload_n 0, 1) by decide +kernel) rfl ?_
                        refine Ev_iload hq_39 (show decode prog_1_method_3_code 111 = .ok (.iload 6, 2) by decide +kernel) rfl ?_
                        obtain ⟨I14, h15, k⟩ := k
                        refine Ev_virt (as := [.int x6]) hq_39 (show decode prog_1_method_3_code 113 = .ok (.invokevirtual 116, 3) by decide +kernel) rfl hq_41 rfl (z_le rfl) ⟨(SGn hS (by decide)), (SGk hS rfl), by decide⟩ h15 ?_
                        refine Ev_aload_n hq_39 (show decode prog_1_method_3_code 116 = .ok (.aload_n 0, 1) by decide +kernel) rfl ?_
                        refine Ev_getI hq_39 (show decode prog_1_method_3_code 117 = .ok (.getfield 54, 3) by decide +kernel) rfl (SGn hS (by decide)) (SGk hS rfl) (by decide) rfl ?_
                        exact Ev_iret hq_39 (show decode prog_1_method_3_code 120 = .ok (.ireturn, 1) by decide +kernel) rfl k
                    · have k := k.2 c12
                      refine Ev_aload_n hq_39 (show decode prog_1_method_3_code 99 = .ok (.aload_n 0, 1) by decide +kernel) rfl ?_
                      refine Ev_iload hq_39 (show decode prog_1_method_3_code 100 = .ok (.iload 5, 2) by decide +kernel) rfl ?_
                      obtain ⟨I16, h17, k⟩ := k
                      refine Ev_virt (as := [.int x5]) hq_39 (show decode prog_1_method_3_code 102 = .ok (.invokevirtual 116, 3) by decide +kernel) rfl hq_41 rfl (z_le rfl) ⟨(SGn hS (by decide)), (SGk hS rfl), by decide⟩ h17 ?_
                      refine Ev_iload_n hq_39 (show decode prog_1_method_3_code 105 = .ok (.iload_n 1, 1) by decide +kernel) rfl ?_
                      refine Ev_iconst (v := 4) hq_39 (show decode prog_1_method_3_code 106 = .ok (.iconst 4, 1) by decide +kernel) (by decide) ?_
                      refine Ev_icmp_le (tgt := 116) hq_39 (show decode prog_1_method_3_code 107 = .ok (.if_icmp .le 9, 3) by decide +kernel) (by decide) (fun c18 => ?_) (fun c18 => ?_)
                      · have k := k.1 c18
                        refine Ev_aload_n hq_39 (show decode prog_1_method_3_code 116 = .ok (.aload_n 0, 1) by decide +kernel) rfl ?_
                        refine Ev_getI hq_39 (show decode prog_1_method_3_code 117 = .ok (.getfield 54, 3) by decide +kernel) rfl (SGn hS (by decide)) (SGk hS rfl) (by decide) rfl ?_
                        exact Ev_iret hq_39 (show decode prog_1_method_3_code 120 = .ok (.ireturn, 1) by decide +kernel) rfl k
                      · have k := k.2 c18
                        refine Ev_aload_n hq_39 (show decode prog_1_method_3_code 110 = .ok (.aload_n 0, 1) by decide +kernel) rfl ?_
                        refine Ev_iload hq_39 (show decode prog_1_method_3_code 111 = .ok (.iload 6, 2) by decide +kernel) rfl ?_
                        obtain ⟨I19, h20, k⟩ := k
                        refine Ev_virt (as := [.int x6]) hq_39 (show decode prog_1_method_3_code 113 = .ok (.invokevirtual 116, 3) by decide +kernel) rfl hq_41 rfl (z_le rfl) ⟨(SGn hS (by decide)), (SGk hS rfl), by decide⟩ h20 ?_
                        refine Ev_aload_n hq_39 (show decode prog_1_method_3_code 116 = .ok (.aload_n 0, 1) by decide +kernel) rfl ?_
                        refine Ev_getI hq_39 (show decode prog_1_method_3_code 117 = .ok (.getfield 54, 3) by decide +kernel) rfl (SGn hS (by decide)) (SGk hS rfl) (by decide) rfl ?_
                        exact Ev_iret hq_39 (show decode prog_1_method_3_code 120 = .ok (.ireturn, 1) by decide +kernel) rfl k
                  · have k := k.2 c11
                    refine Ev_aload_n hq_39 (show decode prog_1_method_3_code 88 = .ok (.aload_n 0, 1) by decide +kernel) rfl ?_
                    refine Ev_iload hq_39 (show decode prog_1_method_3_code 89 = .ok (.iload 4, 2) by decide +kernel) rfl ?_
                    obtain ⟨I21, h22, k⟩ := k
                    refine Ev_virt (as := [.int x4]) hq_39 (show decode prog_1_method_3_code 91 = .ok (.invokevirtual 116, 3) by decide +kernel) rfl hq_41 rfl (z_le rfl) ⟨(SGn hS (by decide)), (SGk hS rfl), by decide⟩ h22 ?_
                    refine Ev_iload_n hq_39 (show decode prog_1_method_3_code 94 = .ok (.iload_n 1, 1) by decide +kernel) rfl ?_
                    refine Ev_iconst (v := 3) hq_39 (show decode prog_1_method_3_code 95 = .ok (.iconst 3, 1) by decide +kernel) (by decide) ?_
                    refine Ev_icmp_le (tgt := 105) hq_39 (show decode prog_1_method_3_code 96 = .ok (.if_icmp .le 9, 3) by decide +kernel) (by decide) (fun c23 => ?_) (fun c23 => ?_)
                    · have k := k.1 c23
                      refine Ev_iload_n hq_39 (show decode prog_1_method_3_code 105 = .ok (.iload_n 1, 1) by decide +kernel) rfl ?_
                      refine Ev_iconst (v := 4) hq_39 (show decode prog_1_method_3_code 106 = .ok (.iconst 4, 1) by decide +kernel) (by decide) ?_
                      refine Ev_icmp_le (tgt := 116) hq_39 (show decode prog_1_method_3_code 107 = .ok (.if_icmp .le 9, 3) by decide +kernel) (by decide) (fun c24 => ?_) (fun c24 => ?_)
                      · have k := k.1 c24
                        refine Ev_aload_n hq_39 (show decode prog_1_method_3_code 116 = .ok (.aload_n 0, 1) by decide +kernel) rfl ?_
                        refine Ev_getI hq_39 (show decode prog_1_method_3_code 117 = .ok (.getfield 54, 3) by decide +kernel) rfl (SGn hS (by decide)) (SGk hS rfl) (by decide) rfl ?_
                        exact Ev_iret hq_39 (show decode prog_1_method_3_code 120 = .ok (.ireturn, 1) by decide +kernel) rfl k
                      · have k := k.2 c24
                        refine Ev_aload_n hq_39 (show decode prog_1_method_3_code 110 = .ok (.aload_n 0, 1) by decide +kernel) rfl ?_
                        refine Ev_iload hq_39 (show decode prog_1_method_3_code 111 = .ok (.iload 6, 2) by decide +kernel) rfl ?_
                        obtain ⟨I25, h26, k⟩ := k
                        refine Ev_virt (as := [.int x6]) hq_39 (show decode prog_1_method_3_code 113 = .ok (.invokevirtual 116, 3) by decide +kernel) rfl hq_41 rfl (z_le rfl) ⟨(SGn hS (by decide)), (SGk hS rfl), by decide⟩ h26 ?_
                        refine Ev_aload_n hq_39 (show decode prog_1_method_3_code 116 = .ok (.aload_n 0, 1) by decide +kernel) rfl ?_
                        refine Ev_getI hq_39 (show decode prog_1_method_3_code 117 = .ok (.getfield 54, 3) by decide +kernel) rfl (SGn hS (by decide)) (SGk hS rfl) (by decide) rfl ?_
                        exact Ev_iret hq_39 (show decode prog_1_method_3_code 120 = .ok (.ireturn, 1) by decide +kernel) rfl k
                    · have k := k.2 c23
                      refine Ev_aload_n hq_39 (show decode prog_1_method_3_code 99 = .ok (.aload_n 0, 1) by decide +kernel) rfl ?_
                      refine Ev_iload hq_39 (show decode prog_1_method_3_code 100 = .ok (.iload 5, 2) by decide +kernel) rfl ?_
                      obtain ⟨I27, h28, k⟩ := k
                      refine Ev_virt (as := [.int x5]) hq_39 (show decode prog_1_method_3_code 102 = .ok (.invokevirtual 116, 3) by decide +kernel) rfl hq_41 rfl (z_le rfl) ⟨(SGn hS (by decide)), (SGk hS rfl), by decide⟩ h28 ?_
                      refine Ev_iload_n hq_39 (show decode prog_1_method_3_code 105 = .ok (.iload_n 1, 1) by decide +kernel) rfl ?_
                      refine Ev_iconst (v := 4) hq_39 (show decode prog_1_method_3_code 106 = .ok (.iconst 4, 1) by decide +kernel) (by decide) ?_
                      refine Ev_icmp_le (tgt := 116) hq_39 (show decode prog_1_method_3_code 107 = .ok (.if_icmp .le 9, 3) by decide +kernel) (by decide) (fun c29 => ?_) (fun c29 => ?_)
                      · have k := k.1 c29
                        refine Ev_aload_n hq_39 (show decode prog_1_method_3_code 116 = .ok (.aload_n 0, 1) by decide +kernel) rfl ?_
                        refine Ev_getI hq_39 (show decode prog_1_method_3_code 117 = .ok (.getfield 54, 3) by decide +kernel) rfl (SGn hS (by decide)) (SGk hS rfl) (by decide) rfl ?_
                        exact Ev_iret hq_39 (show decode prog_1_method_3_code 120 = .ok (.ireturn, 1) by decide +kernel) rfl k
                      · have k := k.2 c29
                        refine Ev_aload_n hq_39 (show decode prog_1_method_3_code 110 = .ok (.aload_n 0, 1) by decide +kernel) rfl ?_
                        refine Ev_iload hq_39 (show decode prog_1_method_3_code 111 = .ok (.iload 6, 2) by decide +kernel) rfl ?_
                        obtain ⟨I30, h31, k⟩ := k
                        refine Ev_virt (as := [.int x6]) hq_39 (show decode prog_1_method_3_code 113 = .ok (.invokevirtual 116, 3) by decide +kernel) rfl hq_41 rfl (z_le rfl) ⟨(SGn hS (by decide)), (SGk hS rfl), by decide⟩ h31 ?_
                        refine Ev_aload_n hq_39 (show decode prog_1_method_3_code 116 = .ok (.aload_n 0, 1) by decide +kernel) rfl ?_
                        refine Ev_getI hq_39 (show decode prog_1_method_3_code 117 = .ok (.getfield 54, 3) by decide +kernel) rfl (SGn hS (by decide)) (SGk hS rfl) (by decide) rfl ?_
                        exact Ev_iret hq_39 (show decode prog_1_method_3_code 120 = .ok (.ireturn, 1) by decide +kernel) rfl k
                · have k := k.2 c10
                  refine Ev_aload_n hq_39 (show decode prog_1_method_3_code 78 = .ok (.aload_n 0, 1) by decide +kernel) rfl ?_
                  refine Ev_iload_n hq_39 (show decode prog_1_method_3_code 79 = .ok (.iload_n 3, 1) by decide +kernel) rfl ?_
                  obtain ⟨I32, h33, k⟩ := k
                  refine Ev_virt (as := [.int x3]) hq_39 (show decode prog_1_method_3_code 80 = .ok (.invokevirtual 116, 3) by decide +kernel) rfl hq_41 rfl (z_le rfl) ⟨(SGn hS (by decide)), (SGk hS rfl), by decide⟩ h33 ?_
                  refine Ev_iload_n hq_39 (show decode prog_1_method_3_code 83 = .ok (.iload_n 1, 1) by decide +kernel) rfl ?_
                  refine Ev_iconst (v := 2) hq_39 (show decode prog_1_method_3_code 84 = .ok (.iconst 2, 1) by decide +kernel) (by decide) ?_
                  refine Ev_icmp_le (tgt := 94) hq_39 (show decode prog_1_method_3_code 85 = .ok (.if_icmp .le 9, 3) by decide +kernel) (by decide) (fun c34 => ?_) (fun c34 => ?_)
                  · have k := k.1 c34
                    refine Ev_iload_n hq_39 (show decode prog_1_method_3_code 94 = .ok (.iload_n 1, 1) by decide +kernel) rfl ?_
                    refine Ev_iconst (v := 3) hq_39 (show decode prog_1_method_3_code 95 = .ok (.iconst 3, 1) by decide +kernel) (by decide) ?_
                    refine Ev_icmp_le (tgt := 105) hq_39 (show decode prog_1_method_3_code 96 = .ok (.if_icmp .le 9, 3) by decide +kernel) (by decide) (fun c35 => ?_) (fun c35 => ?_)
                    · have k := k.1 c35
                      refine Ev_iload_n hq_39 (show decode prog_1_method_3_code 105 = .ok (.iload_n 1, 1) by decide +kernel) rfl ?_
                      refine Ev_iconst (v := 4) hq_39 (show decode prog_1_method_3_code 106 = .ok (.iconst 4, 1) by decide +kernel) (by decide) ?_
                      refine Ev_icmp_le (tgt := 116) hq_39 (show decode prog_1_method_3_code 107 = .ok (.if_icmp .le 9, 3) by decide +kernel) (by decide) (fun c36 => ?_) (fun c36 => ?_)
                      · have k := k.1 c36
                        refine Ev_aload_n hq_39 (show decode prog_1_method_3_code 116 = .ok (.aload_n 0, 1) by decide +kernel) rfl ?_
                        refine Ev_getI hq_39 (show decode prog_1_method_3_code 117 = .ok (.getfield 54, 3) by decide +kernel) rfl (SGn hS (by decide)) (SGk hS rfl) (by decide) rfl ?_
                        exact Ev_iret hq_39 (show decode prog_1_method_3_code 120 = .ok (.ireturn, 1) by decide +kernel) rfl k
                      · have k := k.2 c36
                        refine Ev_aload_n hq_39 (show decode prog_1_method_3_code 110 = .ok (.aload_n 0, 1) by decide +kernel) rfl ?_
                        refine Ev_iload hq_39 (show decode prog_1_method_3_code 111 = .ok (.iload 6, 2) by decide +kernel) rfl ?_
                        obtain ⟨I37, h38, k⟩ := k
                        refine Ev_virt (as := [.int x6]) hq_39 (show decode prog_1_method_3_code 113 = .ok (.invokevirtual 116, 3) by decide +kernel) rfl hq_41 rfl (z_le rfl) ⟨(SGn hS (by decide)), (SGk hS rfl), by decide⟩ h38 ?_
                        refine Ev_aload_n hq_39 (show decode prog_1_method_3_code 116 = .ok (.aload_n 0, 1) by decide +kernel) rfl ?_
                        refine Ev_getI hq_39 (show decode prog_1_method_3_code 117 = .ok (.getfield 54, 3) by decide +kernel) rfl (SGn hS (by decide)) (SGk hS rfl) (by decide) rfl ?_
                        exact Ev_iret hq_39 (show decode prog_1_method_3_code 120 = .ok (.ireturn, 1) by decide +kernel) rfl k
                    · have k := k.2 c35
                      refine Ev_aload_n hq_39 (show decode prog_1_method_3_code 99 = .ok (.aload_n 0, 1) by decide +kernel) rfl ?_
                      refine Ev_iload hq_39 (show decode prog_1_method_3_code 100 = .ok (.iload 5, 2) by decide +kernel) rfl ?_
                      obtain ⟨I39, h40, k⟩ := k
                      refine Ev_virt (as := [.int x5]) hq_39 (show decode prog_1_method_3_code 102 = .ok (.invokevirtual 116, 3) by decide +kernel) rfl hq_41 rfl (z_le rfl) ⟨(SGn hS (by decide)), (SGk hS rfl), by decide⟩ h40 ?_
                      refine Ev_iload_n hq_39 (show decode prog_1_method_3_code 105 = .ok (.iload_n 1, 1) by decide +kernel) rfl ?_
                      refine Ev_iconst (v := 4) hq_39 (show decode prog_1_method_3_code 106 = .ok (.iconst 4, 1) by decide +kernel) (by decide) ?_
                      refine Ev_icmp_le (tgt := 116) hq_39 (show decode prog_1_method_3_code 107 = .ok (.if_icmp .le 9, 3) by decide +kernel) (by decide) (fun c41 => ?_) (fun c41 => ?_)
                      · have k := k.1 c41
                        refine Ev_aload_n hq_39 (show decode prog_1_method_3_code 116 = .ok (.aload_n 0, 1) by decide +kernel) rfl ?_
                        refine Ev_getI hq_39 (show decode prog_1_method_3_code 117 = .ok (.getfield 54, 3) by decide +kernel) rfl (SGn hS (by decide)) (SGk hS rfl) (by decide) rfl ?_
                        exact Ev_iret hq_39 (show decode prog_1_method_3_code 120 = .ok (.ireturn, 1) by decide +kernel) rfl k
                      · have k := k.2 c41
                        refine Ev_aload_n hq_39 (show decode prog_1_method_3_code 110 = .ok (.aload_n 0, 1) by decide +kernel) rfl ?_
                        refine Ev_iload hq_39 (show decode prog_1_method_3_code 111 = .ok (.iload 6, 2) by decide +kernel) rfl ?_
                        obtain ⟨I42, h43, k⟩ := k
                        refine Ev_virt (as := [.int x6]) hq_39 (show decode prog_1_method_3_code 113 = .ok (.invokevirtual 116, 3) by decide +kernel) rfl hq_41 rfl (z_le rfl) ⟨(SGn hS (by decide)), (SGk hS rfl), by decide⟩ h43 ?_
                        refine Ev_aload_n hq_39 (show decode prog_1_method_3_code 116 = .ok (.aload_n 0, 1) by decide +kernel) rfl ?_
                        refine Ev_getI hq_39 (show decode prog_1_method_3_code 117 = .ok (.getfield 54, 3) by decide +kernel) rfl (SGn hS (by decide)) (SGk hS rfl) (by decide) rfl ?_
                        exact Ev_iret hq_39 (show decode prog_1_method_3_code 120 = .ok (.ireturn, 1) by decide +kernel) rfl k
                  · have k := k.2 c34
                    refine Ev_aload_n hq_39 (show decode prog_1_method_3_code 88 = .ok (.aload_n 0, 1) by decide +kernel) rfl ?_
                    refine Ev_iload hq_39 (show decode prog_1_method_3_code 89 = .ok (.iload 4, 2) by decide +kernel) rfl ?_
                    obtain ⟨I44, h45, k⟩ := k
                    refine Ev_virt (as := [.int x4]) hq_39 (show decode prog_1_method_3_code 91 = .ok (.invokevirtual 116, 3) by decide +kernel) rfl hq_41 rfl (z_le rfl) ⟨(SGn hS (by decide)), (SGk hS rfl), by decide⟩ h45 ?_
                    refine Ev_iload_n hq_39 (show decode prog_1_method_3_code 94 = .ok (.iload_n 1, 1) by decide +kernel) rfl ?_
                    refine Ev_iconst (v := 3) hq_39 (show decode prog_1_method_3_code 95 = .ok (.iconst 3, 1) by decide +kernel) (by decide) ?_
                    refine Ev_icmp_le (tgt := 105) hq_39 (show decode prog_1_method_3_code 96 = .ok (.if_icmp .le 9, 3) by decide +kernel) (by decide) (fun c46 => ?_) (fun c46 => ?_)
                    · have k := k.1 c46
                      refine Ev_iload_n hq_39 (show decode prog_1_method_3_code 105 = .ok (.iload_n 1, 1) by decide +kernel) rfl ?_
                      refine Ev_iconst (v := 4) hq_39 (show decode prog_1_method_3_code 106 = .ok (.iconst 4, 1) by decide +kernel) (by decide) ?_
                      refine Ev_icmp_le (tgt := 116) hq_39 (show decode prog_1_method_3_code 107 = .ok (.if_icmp .le 9, 3) by decide +kernel) (by decide) (fun c47 => ?_) (fun c47 => ?_)
                      · have k := k.1 c47
                        refine Ev_aload_n hq_39 (show decode prog_1_method_3_code 116 = .ok (.aload_n 0, 1) by decide +kernel) rfl ?_
                        refine Ev_getI hq_39 (show decode prog_1_method_3_code 117 = .ok (.getfield 54, 3) by decide +kernel) rfl (SGn hS (by decide)) (SGk hS rfl) (by decide) rfl ?_
                        exact Ev_iret hq_39 (show decode prog_1_method_3_code 120 = .ok (.ireturn, 1) by decide +kernel) rfl k
                      · have k := k.2 c47
                        refine Ev_aload_n hq_39 (show decode prog_1_method_3_code 110 = .ok (.aload_n 0, 1) by decide +kernel) rfl ?_
                        refine Ev_iload hq_39 (show decode prog_1_method_3_code 111 = .ok (.iload 6, 2) by decide +kernel) rfl ?_
                        obtain ⟨I48, h49, k⟩ := k
                        refine Ev_virt (as := [.int x6]) hq_39 (show decode prog_1_method_3_code 113 = .ok (.invokevirtual 116, 3) by decide +kernel) rfl hq_41 rfl (z_le rfl) ⟨(SGn hS (by decide)), (SGk hS rfl), by decide⟩ h49 ?_
                        refine Ev_aload_n hq_39 (show decode prog_1_method_3_code 116 = .ok (.aload_n 0, 1) by decide +kernel) rfl ?_
                        refine Ev_getI hq_39 (show decode prog_1_method_3_code 117 = .ok (.getfield 54, 3) by decide +kernel) rfl (SGn hS (by decide)) (SGk hS rfl) (by decide) rfl ?_
                        exact Ev_iret hq_39 (show decode prog_1_method_3_code 120 = .ok (.ireturn, 1) by decide +kernel) rfl k
                    · have k := k.2 c46
                      refine Ev_aload_n hq_39 (show decode prog_1_method_3_code 99 = .ok (.aload_n 0, 1) by decide +kernel) rfl ?_
                      refine Ev_iload hq_39 (show decode prog_1_method_3_code 100 = .ok (.iload 5, 2) by decide +kernel) rfl ?_
                      obtain ⟨I50, h51, k⟩ := k
                      refine Ev_virt (as := [.int x5]) hq_39 (show decode prog_1_method_3_code 102 = .ok (.invokevirtual 116, 3) by decide +kernel) rfl hq_41 rfl (z_le rfl) ⟨(SGn hS (by decide)), (SGk hS rfl), by decide⟩ h51 ?_
                      refine Ev_iload_n hq_39 (show decode prog_1_method_3_code 105 = .ok (.iload_n 1, 1) by decide +kernel) rfl ?_
                      refine Ev_iconst (v := 4) hq_39 (show decode prog_1_method_3_code 106 = .ok (.iconst 4, 1) by decide +kernel) (by decide) ?_
                      refine Ev_icmp_le (tgt := 116) hq_39 (show decode prog_1_method_3_code 107 = .ok (.if_icmp .le 9, 3) by decide +kernel) (by decide) (fun c52 => ?_) (fun c52 => ?_)
                      · have k := k.1 c52
                        refine Ev_aload_n hq_39 (show decode prog_1_method_3_code 116 = .ok (.aload_n 0, 1) by decide +kernel) rfl ?_
                        refine Ev_getI hq_39 (show decode prog_1_method_3_code 117 = .ok (.getfield 54, 3) by decide +kernel) rfl (SGn hS (by decide)) (SGk hS rfl) (by decide) rfl ?_
                        exact Ev_iret hq_39 (show decode prog_1_method_3_code 120 = .ok (.ireturn, 1) by decide +kernel) rfl k
                      · have k := k.2 c52
                        refine Ev_aload_n hq_39 (show decode prog_1_method_3_code 110 = .ok (.aload_n 0, 1) by decide +kernel) rfl ?_
                        refine Ev_iload hq_39 (show decode prog_1_method_3_code 111 = .ok (.iload 6, 2) by decide +kernel) rfl ?_
                        obtain ⟨I53, h54, k⟩ := k
                        refine Ev_virt (as := [.int x6]) hq_39 (show decode prog_1_method_3_code 113 = .ok (.invokevirtual 116, 3) by decide +kernel) rfl hq_41 rfl (z_le rfl) ⟨(SGn hS (by decide)), (SGk hS rfl), by decide⟩ h54 ?_
                        refine Ev_aload_n hq_39 (show decode prog_1_method_3_code 116 = .ok (.aload_n 0, 1) by decide +kernel) rfl ?_
                        refine Ev_getI hq_39 (show decode prog_1_method_3_code 117 = .ok (.getfield 54, 3) by decide +kernel) rfl (SGn hS (by decide)) (SGk hS rfl) (by decide) rfl ?_
                        exact Ev_iret hq_39 (show decode prog_1_method_3_code 120 = .ok (.ireturn, 1) by decide +kernel) rfl k
              · have k := k.2 c7
                refine Ev_bipush (v := (-4)) hq_39 (show decode prog_1_method_3_code 65 = .ok (.bipush (-4), 2) by decide +kernel) (by decide) ?_
                exact Ev_iret hq_39 (show decode prog_1_method_3_code 67 = .ok (.ireturn, 1) by decide +kernel) rfl k
            · have k := k.2 (Classical.not_not.mp c6)
              refine Ev_bipush (v := (-2)) hq_39 (show decode prog_1_method_3_code 50 = .ok (.bipush (-2), 2) by decide +kernel) (by decide) ?_
              exact Ev_iret hq_39 (show decode prog_1_method_3_code 52 = .ok (.ireturn, 1) by decide +kernel) rfl k
  · have k := k.2 (Classical.not_not.mp c1)
    refine Ev_bipush (v := (-2)) hq_39 (show decode prog_1_method_3_code 9 = .ok (.bipush (-2), 2) by decide +kernel) (by decide) ?_
    exact Ev_iret hq_39 (show decode prog_1_method_3_code 11 = .ok (.ireturn, 1) by decide +kernel) rfl k
set_option maxRecDepth 20000 in
theorem wp_T_force {X : Nat × (Nat → Int32)} {d : Nat} {G : zG} {I : zI} {res : Option Value × zG × zI} (x1 : Int32) (hS : SG G) 
    (k : (¬ (f_T_within x1 0 ((I 0 7) - 1)) = 0 → ∀ y2 : Int32, y2 = (I 1 8) → (∀ I3 : zI, I3 = z_up I 1 8 x1 → res = (some (.int y2), G, I3))) ∧ ((f_T_within x1 0 ((I 0 7) - 1)) = 0 → res = (some (.int (-2)), G, I))) :
    Ev X (d + 1) 43 0 [.ref 0, .int x1, zU] [] G I res := by
  refine Ev_iload_n hq_43 (show decode prog_1_method_7_code 0 = .ok (.iload_n 1, 1) by decide +kernel) rfl ?_
  refine Ev_iconst (v := 0) hq_43 (show decode prog_1_method_7_code 1 = .ok (.iconst 0, 1) by decide +kernel) (by decide) ?_
  refine Ev_aload_n hq_43 (show decode prog_1_method_7_code 2 = .ok (.aload_n 0, 1) by decide +kernel) rfl ?_
  refine Ev_getI hq_43 (show decode prog_1_method_7_code 3 = .ok (.getfield 46, 3) by decide +kernel) rfl (SGn hS (by decide)) (SGk hS rfl) (by decide) rfl ?_
  refine Ev_iconst (v := 1) hq_43 (show decode prog_1_method_7_code 6 = .ok (.iconst 1, 1) by decide +kernel) (by decide) ?_
  refine Ev_isub hq_43 (show decode prog_1_method_7_code 7 = .ok (.isub, 1) by decide +kernel) ?_
  refine Ev_stat (as := [.int x1, .int 0, .int ((I 0 7) - 1)]) hq_43 (show decode prog_1_method_7_code 8 = .ok (.invokestatic 108, 3) by decide +kernel) rfl (Or.inl rfl) hq_32 rfl (z_le rfl) (c_T_within x1 0 ((I 0 7) - 1)) ?_
  refine Ev_if_ne (tgt := 17) hq_43 (show decode prog_1_method_7_code 11 = .ok (.ifCond .ne 6, 3) by decide +kernel) (by decide) (fun c1 => ?_) (fun c1 => ?_)
  · have k := k.1 c1
    refine Ev_aload_n hq_43 (show decode prog_1_method_7_code 17 = .ok (.aload_n 0, 1) by decide +kernel) rfl ?_
    refine Ev_getR hq_43 (show decode prog_1_method_7_code 18 = .ok (.getfield 10, 3) by decide +kernel) rfl (SGn hS (by decide)) (SGk hS rfl) (by decide) rfl (SGr hS rfl) ?_
    refine Ev_getI hq_43 (show decode prog_1_method_7_code 21 = .ok (.getfield 106, 3) by decide +kernel) rfl (SGn hS (by decide)) (SGk hS rfl) (by decide) rfl ?_
    obtain ⟨y2, ey2⟩ : ∃ y2 : Int32, y2 = (I 1 8) := ⟨_, rfl⟩
    have k := k y2 ey2
    rw [← ey2]
    refine Ev_istore_n (lo2 := [.ref 0, .int x1, .int y2]) hq_43 (show decode prog_1_method_7_code 24 = .ok (.istore_n 2, 1) by decide +kernel) (z_le rfl) rfl ?_
    refine Ev_aload_n hq_43 (show decode prog_1_method_7_code 25 = .ok (.aload_n 0, 1) by decide +kernel) rfl ?_
    refine Ev_getR hq_43 (show decode prog_1_method_7_code 26 = .ok (.getfield 10, 3) by decide +kernel) rfl (SGn hS (by decide)) (SGk hS rfl) (by decide) rfl (SGr hS rfl) ?_
    refine Ev_iload_n hq_43 (show decode prog_1_method_7_code 29 = .ok (.iload_n 1, 1) by decide +kernel) rfl ?_
    refine Ev_putI hq_43 (show decode prog_1_method_7_code 30 = .ok (.putfield 106, 3) by decide +kernel) rfl (SGn hS (by decide)) (SGk hS rfl) (by decide) (by decide) rfl (fun hz => by cases hz) ?_
    obtain ⟨I3, eI3⟩ : ∃ I3 : zI, I3 = z_up I 1 8 x1 := ⟨_, rfl⟩
    have k := k I3 eI3
    rw [← eI3]
    refine Ev_iload_n hq_43 (show decode prog_1_method_7_code 33 = .ok (.iload_n 2, 1) by decide +kernel) rfl ?_
    exact Ev_iret hq_43 (show decode prog_1_method_7_code 34 = .ok (.ireturn, 1) by decide +kernel) rfl k
  · have k := k.2 (Classical.not_not.mp c1)
    refine Ev_bipush (v := (-2)) hq_43 (show decode prog_1_method_7_code 14 = .ok (.bipush (-2), 2) by decide +kernel) (by decide) ?_
    exact Ev_iret hq_43 (show decode prog_1_method_7_code 16 = .ok (.ireturn, 1) by decide +kernel) rfl k
set_option maxRecDepth 20000 in
theorem wp_T_isShower {X : Nat × (Nat → Int32)} {d : Nat} {G : zG} {I : zI} {res : Option Value × zG × zI} (x1 : Int32) (hS : SG G) 
    (k : res = (some (.int (f_T_within x1 0 ((I 1 7) - 1))), G, I)) :
    Ev X (d + 1) 45 0 [.ref 0, .int x1] [] G I res := by
  refine Ev_iload_n hq_45 (show decode prog_1_method_14_code 0 = .ok (.iload_n 1, 1) by decide +kernel) rfl ?_
  refine Ev_iconst (v := 0) hq_45 (show decode prog_1_method_14_code 1 = .ok (.iconst 0, 1) by decide +kernel) (by decide) ?_
  refine Ev_aload_n hq_45 (show decode prog_1_method_14_code 2 = .ok (.aload_n 0, 1) by decide +kernel) rfl ?_
  refine Ev_getR hq_45 (show decode prog_1_method_14_code 3 = .ok (.getfield 10, 3) by decide +kernel) rfl (SGn hS (by decide)) (SGk hS rfl) (by decide) rfl (SGr hS rfl) ?_
  refine Ev_getI hq_45 (show decode prog_1_method_14_code 6 = .ok (.getfield 100, 3) by decide +kernel) rfl (SGn hS (by decide)) (SGk hS rfl) (by decide) rfl ?_
  refine Ev_iconst (v := 1) hq_45 (show decode prog_1_method_14_code 9 = .ok (.iconst 1, 1) by decide +kernel) (by decide) ?_
  refine Ev_isub hq_45 (show decode prog_1_method_14_code 10 = .ok (.isub, 1) by decide +kernel) ?_
  refine Ev_stat (as := [.int x1, .int 0, .int ((I 1 7) - 1)]) hq_45 (show decode prog_1_method_14_code 11 = .ok (.invokestatic 108, 3) by decide +kernel) rfl (Or.inl rfl) hq_32 rfl (z_le rfl) (c_T_within x1 0 ((I 1 7) - 1)) ?_
  exact Ev_iret hq_45 (show decode prog_1_method_14_code 14 = .ok (.ireturn, 1) by decide +kernel) (z_nb (b_T_within x1 0 ((I 1 7) - 1))) k
def f_T_isShower (I : zI) (x1 : Int32) : Int32 := (f_T_within x1 0 ((I 1 7) - 1))
theorem c_T_isShower {X : Nat × (Nat → Int32)} {d : Nat} {G : zG} {I : zI} (hd : 1 ≤ d) (hS : SG G) (x1 : Int32) : Cv X d 45 [.ref 0, .int x1] G I (some (.int (f_T_isShower I x1)), G, I) := by
  obtain ⟨d, rfl⟩ : ∃ e, d = e + 1 := ⟨d - 1, by omega⟩
  exact Cv.of hq_45 (z_le rfl) rfl (wp_T_isShower x1 hS (by rfl))
theorem b_T_isShower (I : zI) (x1 : Int32) : f_T_isShower I x1 = 0 ∨ f_T_isShower I x1 = 1 := by
  unfold f_T_isShower
  repeat (any_goals split)
  all_goals first | exact Or.inl rfl | exact Or.inr rfl | exact b_T_within ..
set_option maxRecDepth 20000 in
theorem wp_T_isWarm {X : Nat × (Nat → Int32)} {d : Nat} {G : zG} {I : zI} {res : Option Value × zG × zI} (x0 : Int32) 
    (k : res = (some (.int (f_T_within x0 0 999)), G, I)) :
    Ev X (d + 1) 46 0 [.int x0] [] G I res := by
  refine Ev_iload_n hq_46 (show decode prog_1_method_15_code 0 = .ok (.iload_n 0, 1) by decide +kernel) rfl ?_
  refine Ev_iconst (v := 0) hq_46 (show decode prog_1_method_15_code 1 = .ok (.iconst 0, 1) by decide +kernel) (by decide) ?_
  refine Ev_sipush (v := 999) hq_46 (show decode prog_1_method_15_code 2 = .ok (.sipush 999, 3) by decide +kernel) (by decide) ?_
  refine Ev_stat (as := [.int x0, .int 0, .int 999]) hq_46 (show decode prog_1_method_15_code 5 = .ok (.invokestatic 108, 3) by decide +kernel) rfl (Or.inl rfl) hq_32 rfl (z_le rfl) (c_T_within x0 0 999) ?_
  exact Ev_iret hq_46 (show decode prog_1_method_15_code 8 = .ok (.ireturn, 1) by decide +kernel) (z_nb (b_T_within x0 0 999)) k
def f_T_isWarm (x0 : Int32) : Int32 := (f_T_within x0 0 999)
theorem c_T_isWarm {X : Nat × (Nat → Int32)} {d : Nat} {G : zG} {I : zI} (hd : 1 ≤ d) (x0 : Int32) : Cv X d 46 [.int x0] G I (some (.int (f_T_isWarm x0)), G, I) := by
  obtain ⟨d, rfl⟩ : ∃ e, d = e + 1 := ⟨d - 1, by omega⟩
  exact Cv.of hq_46 (z_le rfl) rfl (wp_T_isWarm x0 (by rfl))
theorem b_T_isWarm (x0 : Int32) : f_T_isWarm x0 = 0 ∨ f_T_isWarm x0 = 1 := by
  unfold f_T_isWarm
  repeat (any_goals split)
  all_goals first | exact Or.inl rfl | exact Or.inr rfl | exact b_T_within ..
set_option maxRecDepth 20000 in
theorem wp_T_isBeat {X : Nat × (Nat → Int32)} {d : Nat} {G : zG} {I : zI} {res : Option Value × zG × zI} (x0 : Int32) 
    (k : res = (some (.int (f_T_within x0 0 29)), G, I)) :
    Ev X (d + 1) 47 0 [.int x0] [] G I res := by
  refine Ev_iload_n hq_47 (show decode prog_1_method_16_code 0 = .ok (.iload_n 0, 1) by decide +kernel) rfl ?_
  refine Ev_iconst (v := 0) hq_47 (show decode prog_1_method_16_code 1 = .ok (.iconst 0, 1) by decide +kernel) (by decide) ?_
  refine Ev_bipush (v := 29) hq_47 (show decode prog_1_method_16_code 2 = .ok (.bipush 29, 2) by decide +kernel) (by decide) ?_
  refine Ev_stat (as := [.int x0, .int 0, .int 29]) hq_47 (show decode prog_1_method_16_code 4 = .ok (.invokestatic 108, 3) by decide +kernel) rfl (Or.inl rfl) hq_32 rfl (z_le rfl) (c_T_within x0 0 29) ?_
  exact Ev_iret hq_47 (show decode prog_1_method_16_code 7 = .ok (.ireturn, 1) by decide +kernel) (z_nb (b_T_within x0 0 29)) k
def f_T_isBeat (x0 : Int32) : Int32 := (f_T_within x0 0 29)
theorem c_T_isBeat {X : Nat × (Nat → Int32)} {d : Nat} {G : zG} {I : zI} (hd : 1 ≤ d) (x0 : Int32) : Cv X d 47 [.int x0] G I (some (.int (f_T_isBeat x0)), G, I) := by
  obtain ⟨d, rfl⟩ : ∃ e, d = e + 1 := ⟨d - 1, by omega⟩
  exact Cv.of hq_47 (z_le rfl) rfl (wp_T_isBeat x0 (by rfl))
theorem b_T_isBeat (x0 : Int32) : f_T_isBeat x0 = 0 ∨ f_T_isBeat x0 = 1 := by
  unfold f_T_isBeat
  repeat (any_goals split)
  all_goals first | exact Or.inl rfl | exact Or.inr rfl | exact b_T_within ..
set_option maxRecDepth 20000 in
theorem wp_L_hear {X : Nat × (Nat → Int32)} {d : Nat} {G : zG} {I : zI} {res : Option Value × zG × zI} (w : Nat) (x1 : Int32) (x2 : Int32) (x3 : Int32) (x4 : Int32) (x5 : Int32) (x6 : Int32) (hw : LW G w) 
    (k : (∀ I1 : zI, I1 = z_up I (w + (2 + 1)) (0 : Int32).toNatClampNeg x1 → (∀ I2 : zI, I2 = z_up I1 (w + (2 + 1)) (1 : Int32).toNatClampNeg x2 → (∀ I3 : zI, I3 = z_up I2 (w + (2 + 1)) (2 : Int32).toNatClampNeg x3 → (∀ I4 : zI, I4 = z_up I3 (w + (2 + 1)) (3 : Int32).toNatClampNeg x4 → (∀ I5 : zI, I5 = z_up I4 (w + (2 + 1)) (4 : Int32).toNatClampNeg x5 → (∀ I6 : zI, I6 = z_up I5 (w + (2 + 1)) (5 : Int32).toNatClampNeg x6 → res = (none, G, I6)))))))) :
    Ev X d 49 0 [.ref w, .int x1, .int x2, .int x3, .int x4, .int x5, .int x6] [] G I res := by
  refine Ev_aload_n hq_49 (show decode prog_3_method_2_code 0 = .ok (.aload_n 0, 1) by decide +kernel) rfl ?_
  refine Ev_getR hq_49 (show decode prog_3_method_2_code 1 = .ok (.getfield 9, 3) by decide +kernel) rfl (VB.lt hw (by omega)) hw.2.1 (by decide) rfl (hw.2.2 2 (by decide)).1 ?_
  refine Ev_iconst (v := 0) hq_49 (show decode prog_3_method_2_code 4 = .ok (.iconst 0, 1) by decide +kernel) (by decide) ?_
  refine Ev_iload_n hq_49 (show decode prog_3_method_2_code 5 = .ok (.iload_n 1, 1) by decide +kernel) rfl ?_
  refine Ev_iast hq_49 (show decode prog_3_method_2_code 6 = .ok (.iastore, 1) by decide +kernel) (VB.lt hw (by omega)) (hw.2.2 2 (by decide)).2.1 (VB.inr hw (j := 2) (n := 6) (by decide) rfl (by decide)) ?_
  obtain ⟨I1, eI1⟩ : ∃ I1 : zI, I1 = z_up I (w + (2 + 1)) (0 : Int32).toNatClampNeg x1 := ⟨_, rfl⟩
  have k := k I1 eI1
  rw [← eI1]
  refine Ev_aload_n hq_49 (show decode prog_3_method_2_code 7 = .ok (.aload_n 0, 1) by decide +kernel) rfl ?_
  refine Ev_getR hq_49 (show decode prog_3_method_2_code 8 = .ok (.getfield 9, 3) by decide +kernel) rfl (VB.lt hw (by omega)) hw.2.1 (by decide) rfl (hw.2.2 2 (by decide)).1 ?_
  refine Ev_iconst (v := 1) hq_49 (show decode prog_3_method_2_code 11 = .ok (.iconst 1, 1) by decide +kernel) (by decide) ?_
  refine Ev_iload_n hq_49 (show decode prog_3_method_2_code 12 = .ok (.iload_n 2, 1) by decide +kernel) rfl ?_
  refine Ev_iast hq_49 (show decode prog_3_method_2_code 13 = .ok (.iastore, 1) by decide +kernel) (VB.lt hw (by omega)) (hw.2.2 2 (by decide)).2.1 (VB.inr hw (j := 2) (n := 6) (by decide) rfl (by decide)) ?_
  obtain ⟨I2, eI2⟩ : ∃ I2 : zI, I2 = z_up I1 (w + (2 + 1)) (1 : Int32).toNatClampNeg x2 := ⟨_, rfl⟩
  have k := k I2 eI2
  rw [← eI2]
  refine Ev_aload_n hq_49 (show decode prog_3_method_2_code 14 = .ok (.aload_n 0, 1) by decide +kernel) rfl ?_
  refine Ev_getR hq_49 (show decode prog_3_method_2_code 15 = .ok (.getfield 9, 3) by decide +kernel) rfl (VB.lt hw (by omega)) hw.2.1 (by decide) rfl (hw.2.2 2 (by decide)).1 ?_
  refine Ev_iconst (v := 2) hq_49 (show decode prog_3_method_2_code 18 = .ok (.iconst 2, 1) by decide +kernel) (by decide) ?_
  refine Ev_iload_n hq_49 (show decode prog_3_method_2_code 19 = .ok (.iload_n 3, 1) by decide +kernel) rfl ?_
  refine Ev_iast hq_49 (show decode prog_3_method_2_code 20 = .ok (.iastore, 1) by decide +kernel) (VB.lt hw (by omega)) (hw.2.2 2 (by decide)).2.1 (VB.inr hw (j := 2) (n := 6) (by decide) rfl (by decide)) ?_
  obtain ⟨I3, eI3⟩ : ∃ I3 : zI, I3 = z_up I2 (w + (2 + 1)) (2 : Int32).toNatClampNeg x3 := ⟨_, rfl⟩
  have k := k I3 eI3
  rw [← eI3]
  refine Ev_aload_n hq_49 (show decode prog_3_method_2_code 21 = .ok (.aload_n 0, 1) by decide +kernel) rfl ?_
  refine Ev_getR hq_49 (show decode prog_3_method_2_code 22 = .ok (.getfield 9, 3) by decide +kernel) rfl (VB.lt hw (by omega)) hw.2.1 (by decide) rfl (hw.2.2 2 (by decide)).1 ?_
  refine Ev_iconst (v := 3) hq_49 (show decode prog_3_method_2_code 25 = .ok (.iconst 3, 1) by decide +kernel) (by decide) ?_
  refine Ev_iload hq_49 (show decode prog_3_method_2_code 26 = .ok (.iload 4, 2) by decide +kernel) rfl ?_
  refine Ev_iast hq_49 (show decode prog_3_method_2_code 28 = .ok (.iastore, 1) by decide +kernel) (VB.lt hw (by omega)) (hw.2.2 2 (by decide)).2.1 (VB.inr hw (j := 2) (n := 6) (by decide) rfl (by decide)) ?_
  obtain ⟨I4, eI4⟩ : ∃ I4 : zI, I4 = z_up I3 (w + (2 + 1)) (3 : Int32).toNatClampNeg x4 := ⟨_, rfl⟩
  have k := k I4 eI4
  rw [← eI4]
  refine Ev_aload_n hq_49 (show decode prog_3_method_2_code 29 = .ok (.aload_n 0, 1) by decide +kernel) rfl ?_
  refine Ev_getR hq_49 (show decode prog_3_method_2_code 30 = .ok (.getfield 9, 3) by decide +kernel) rfl (VB.lt hw (by omega)) hw.2.1 (by decide) rfl (hw.2.2 2 (by decide)).1 ?_
  refine Ev_iconst (v := 4) hq_49 (show decode prog_3_method_2_code 33 = .ok (.iconst 4, 1) by decide +kernel) (by decide) ?_
  refine Ev_iload hq_49 (show decode prog_3_method_2_code 34 = .ok (.iload 5, 2) by decide +kernel) rfl ?_
  refine Ev_iast hq_49 (show decode prog_3_method_2_code 36 = .ok (.iastore, 1) by decide +kernel) (VB.lt hw (by omega)) (hw.2.2 2 (by decide)).2.1 (VB.inr hw (j := 2) (n := 6) (by decide) rfl (by decide)) ?_
  obtain ⟨I5, eI5⟩ : ∃ I5 : zI, I5 = z_up I4 (w + (2 + 1)) (4 : Int32).toNatClampNeg x5 := ⟨_, rfl⟩
  have k := k I5 eI5
  rw [← eI5]
  refine Ev_aload_n hq_49 (show decode prog_3_method_2_code 37 = .ok (.aload_n 0, 1) by decide +kernel) rfl ?_
  refine Ev_getR hq_49 (show decode prog_3_method_2_code 38 = .ok (.getfield 9, 3) by decide +kernel) rfl (VB.lt hw (by omega)) hw.2.1 (by decide) rfl (hw.2.2 2 (by decide)).1 ?_
  refine Ev_iconst (v := 5) hq_49 (show decode prog_3_method_2_code 41 = .ok (.iconst 5, 1) by decide +kernel) (by decide) ?_
  refine Ev_iload hq_49 (show decode prog_3_method_2_code 42 = .ok (.iload 6, 2) by decide +kernel) rfl ?_
  refine Ev_iast hq_49 (show decode prog_3_method_2_code 44 = .ok (.iastore, 1) by decide +kernel) (VB.lt hw (by omega)) (hw.2.2 2 (by decide)).2.1 (VB.inr hw (j := 2) (n := 6) (by decide) rfl (by decide)) ?_
  obtain ⟨I6, eI6⟩ : ∃ I6 : zI, I6 = z_up I5 (w + (2 + 1)) (5 : Int32).toNatClampNeg x6 := ⟨_, rfl⟩
  have k := k I6 eI6
  rw [← eI6]
  exact Ev_vret hq_49 (show decode prog_3_method_2_code 45 = .ok (.return_, 1) by decide +kernel) k
set_option maxRecDepth 20000 in
theorem wp_L_known {X : Nat × (Nat → Int32)} {d : Nat} {G : zG} {I : zI} {res : Option Value × zG × zI} (w : Nat) (x1 : Int32) (hw : LW G w) 
    (k : ∀ y1 : Int32, y1 = (x1 - 10000) → (y1 < 0 → res = (some (.int x1), G, I)) ∧ (¬ y1 < 0 → (6 ≤ y1 → res = (some (.int x1), G, I)) ∧ (¬ 6 ≤ y1 → z_inr y1 6 ∧ (res = (some (.int (I (w + (2 + 1)) y1.toNatClampNeg)), G, I))))) :
    Ev X d 51 0 [.ref w, .int x1, zU] [] G I res := by
  refine Ev_iload_n hq_51 (show decode prog_3_method_4_code 0 = .ok (.iload_n 1, 1) by decide +kernel) rfl ?_
  refine Ev_sipush (v := 10000) hq_51 (show decode prog_3_method_4_code 1 = .ok (.sipush 10000, 3) by decide +kernel) (by decide) ?_
  refine Ev_isub hq_51 (show decode prog_3_method_4_code 4 = .ok (.isub, 1) by decide +kernel) ?_
  obtain ⟨y1, ey1⟩ : ∃ y1 : Int32, y1 = (x1 - 10000) := ⟨_, rfl⟩
  have k := k y1 ey1
  rw [← ey1]
  refine Ev_istore_n (lo2 := [.ref w, .int x1, .int y1]) hq_51 (show decode prog_3_method_4_code 5 = .ok (.istore_n 2, 1) by decide +kernel) (z_le rfl) rfl ?_
  refine Ev_iload_n hq_51 (show decode prog_3_method_4_code 6 = .ok (.iload_n 2, 1) by decide +kernel) rfl ?_
  refine Ev_if_lt (tgt := 25) hq_51 (show decode prog_3_method_4_code 7 = .ok (.ifCond .lt 18, 3) by decide +kernel) (by decide) (fun c2 => ?_) (fun c2 => ?_)
  · have k := k.1 c2
    refine Ev_iload_n hq_51 (show decode prog_3_method_4_code 25 = .ok (.iload_n 1, 1) by decide +kernel) rfl ?_
    exact Ev_iret hq_51 (show decode prog_3_method_4_code 26 = .ok (.ireturn, 1) by decide +kernel) rfl k
  · have k := k.2 c2
    refine Ev_iload_n hq_51 (show decode prog_3_method_4_code 10 = .ok (.iload_n 2, 1) by decide +kernel) rfl ?_
    refine Ev_bipush (v := 6) hq_51 (show decode prog_3_method_4_code 11 = .ok (.bipush 6, 2) by decide +kernel) (by decide) ?_
    refine Ev_icmp_ge (tgt := 25) hq_51 (show decode prog_3_method_4_code 13 = .ok (.if_icmp .ge 12, 3) by decide +kernel) (by decide) (fun c3 => ?_) (fun c3 => ?_)
    · have k := k.1 c3
      refine Ev_iload_n hq_51 (show decode prog_3_method_4_code 25 = .ok (.iload_n 1, 1) by decide +kernel) rfl ?_
      exact Ev_iret hq_51 (show decode prog_3_method_4_code 26 = .ok (.ireturn, 1) by decide +kernel) rfl k
    · have k := k.2 c3
      refine Ev_aload_n hq_51 (show decode prog_3_method_4_code 16 = .ok (.aload_n 0, 1) by decide +kernel) rfl ?_
      refine Ev_getR hq_51 (show decode prog_3_method_4_code 17 = .ok (.getfield 9, 3) by decide +kernel) rfl (VB.lt hw (by omega)) hw.2.1 (by decide) rfl (hw.2.2 2 (by decide)).1 ?_
      refine Ev_iload_n hq_51 (show decode prog_3_method_4_code 20 = .ok (.iload_n 2, 1) by decide +kernel) rfl ?_
      obtain ⟨h4, k⟩ := k
      refine Ev_iald hq_51 (show decode prog_3_method_4_code 21 = .ok (.iaload, 1) by decide +kernel) (VB.lt hw (by omega)) (hw.2.2 2 (by decide)).2.1 (VB.inr hw (j := 2) (n := 6) (by decide) rfl h4) ?_
      refine Ev_goto (tgt := 26) hq_51 (show decode prog_3_method_4_code 22 = .ok (.goto 4, 3) by decide +kernel) (by decide) ?_
      exact Ev_iret hq_51 (show decode prog_3_method_4_code 26 = .ok (.ireturn, 1) by decide +kernel) rfl k
set_option maxRecDepth 20000 in
theorem wp_L_joined {X : Nat × (Nat → Int32)} {d : Nat} {G : zG} {I : zI} {res : Option Value × zG × zI} (x0 : Int32) (x1 : Int32) (x2 : Int32) 
    (k : (x0 = 20000 → (¬ x1 = 0 → res = (some (.int 1), G, I)) ∧ (x1 = 0 → (x2 = 0 → res = (some (.int 0), G, I)) ∧ (¬ x2 = 0 → res = (some (.int 1), G, I)))) ∧ (¬ x0 = 20000 → (x0 = 20001 → (x1 = 0 → res = (some (.int 0), G, I)) ∧ (¬ x1 = 0 → (x2 = 0 → res = (some (.int 0), G, I)) ∧ (¬ x2 = 0 → res = (some (.int 1), G, I)))) ∧ (¬ x0 = 20001 → (x0 = 20002 → (x2 ≤ x1 → res = (some (.int 0), G, I)) ∧ (¬ x2 ≤ x1 → res = (some (.int 1), G, I))) ∧ (¬ x0 = 20002 → (x0 = 20003 → (¬ x1 = x2 → res = (some (.int 0), G, I)) ∧ (x1 = x2 → res = (some (.int 1), G, I))) ∧ (¬ x0 = 20003 → (x0 = 20004 → res = (some (.int (x1 + x2)), G, I)) ∧ (¬ x0 = 20004 → (x0 = 20005 → res = (some (.int (x1 - x2)), G, I)) ∧ (¬ x0 = 20005 → res = (some (.int (x1 * x2)), G, I)))))))) :
    Ev X d 52 0 [.int x0, .int x1, .int x2] [] G I res := by
  refine Ev_iload_n hq_52 (show decode prog_3_method_5_code 0 = .ok (.iload_n 0, 1) by decide +kernel) rfl ?_
  by_cases c1 : x0 = 20000
  · have k := k.1 c1
    refine Ev_tableIn (off := 39) (tgt := 40) hq_52 (show decode prog_3_method_5_code 1 = .ok (.tableswitch 97 20000 20005 #[39, 53, 67, 78, 89, 93], 39) by decide +kernel) (by rw [c1]; decide) (by rw [c1]; decide) (by rw [c1]; decide) (by decide) ?_
    refine Ev_iload_n hq_52 (show decode prog_3_method_5_code 40 = .ok (.iload_n 1, 1) by decide +kernel) rfl ?_
    refine Ev_if_ne (tgt := 48) hq_52 (show decode prog_3_method_5_code 41 = .ok (.ifCond .ne 7, 3) by decide +kernel) (by decide) (fun c2 => ?_) (fun c2 => ?_)
    · have k := k.1 c2
      refine Ev_iconst (v := 1) hq_52 (show decode prog_3_method_5_code 48 = .ok (.iconst 1, 1) by decide +kernel) (by decide) ?_
      refine Ev_goto (tgt := 53) hq_52 (show decode prog_3_method_5_code 49 = .ok (.goto 4, 3) by decide +kernel) (by decide) ?_
      exact Ev_iret hq_52 (show decode prog_3_method_5_code 53 = .ok (.ireturn, 1) by decide +kernel) rfl k
    · have k := k.2 (Classical.not_not.mp c2)
      refine Ev_iload_n hq_52 (show decode prog_3_method_5_code 44 = .ok (.iload_n 2, 1) by decide +kernel) rfl ?_
      refine Ev_if_eq (tgt := 52) hq_52 (show decode prog_3_method_5_code 45 = .ok (.ifCond .eq 7, 3) by decide +kernel) (by decide) (fun c3 => ?_) (fun c3 => ?_)
      · have k := k.1 c3
        refine Ev_iconst (v := 0) hq_52 (show decode prog_3_method_5_code 52 = .ok (.iconst 0, 1) by decide +kernel) (by decide) ?_
        exact Ev_iret hq_52 (show decode prog_3_method_5_code 53 = .ok (.ireturn, 1) by decide +kernel) rfl k
      · have k := k.2 c3
        refine Ev_iconst (v := 1) hq_52 (show decode prog_3_method_5_code 48 = .ok (.iconst 1, 1) by decide +kernel) (by decide) ?_
        refine Ev_goto (tgt := 53) hq_52 (show decode prog_3_method_5_code 49 = .ok (.goto 4, 3) by decide +kernel) (by decide) ?_
        exact Ev_iret hq_52 (show decode prog_3_method_5_code 53 = .ok (.ireturn, 1) by decide +kernel) rfl k
  have k := k.2 c1
  by_cases c4 : x0 = 20001
  · have k := k.1 c4
    refine Ev_tableIn (off := 53) (tgt := 54) hq_52 (show decode prog_3_method_5_code 1 = .ok (.tableswitch 97 20000 20005 #[39, 53, 67, 78, 89, 93], 39) by decide +kernel) (by rw [c4]; decide) (by rw [c4]; decide) (by rw [c4]; decide) (by decide) ?_
    refine Ev_iload_n hq_52 (show decode prog_3_method_5_code 54 = .ok (.iload_n 1, 1) by decide +kernel) rfl ?_
    refine Ev_if_eq (tgt := 66) hq_52 (show decode prog_3_method_5_code 55 = .ok (.ifCond .eq 11, 3) by decide +kernel) (by decide) (fun c5 => ?_) (fun c5 => ?_)
    · have k := k.1 c5
      refine Ev_iconst (v := 0) hq_52 (show decode prog_3_method_5_code 66 = .ok (.iconst 0, 1) by decide +kernel) (by decide) ?_
      exact Ev_iret hq_52 (show decode prog_3_method_5_code 67 = .ok (.ireturn, 1) by decide +kernel) rfl k
    · have k := k.2 c5
      refine Ev_iload_n hq_52 (show decode prog_3_method_5_code 58 = .ok (.iload_n 2, 1) by decide +kernel) rfl ?_
      refine Ev_if_eq (tgt := 66) hq_52 (show decode prog_3_method_5_code 59 = .ok (.ifCond .eq 7, 3) by decide +kernel) (by decide) (fun c6 => ?_) (fun c6 => ?_)
      · have k := k.1 c6
        refine Ev_iconst (v := 0) hq_52 (show decode prog_3_method_5_code 66 = .ok (.iconst 0, 1) by decide +kernel) (by decide) ?_
        exact Ev_iret hq_52 (show decode prog_3_method_5_code 67 = .ok (.ireturn, 1) by decide +kernel) rfl k
      · have k := k.2 c6
        refine Ev_iconst (v := 1) hq_52 (show decode prog_3_method_5_code 62 = .ok (.iconst 1, 1) by decide +kernel) (by decide) ?_
        refine Ev_goto (tgt := 67) hq_52 (show decode prog_3_method_5_code 63 = .ok (.goto 4, 3) by decide +kernel) (by decide) ?_
        exact Ev_iret hq_52 (show decode prog_3_method_5_code 67 = .ok (.ireturn, 1) by decide +kernel) rfl k
  have k := k.2 c4
  by_cases c7 : x0 = 20002
  · have k := k.1 c7
    refine Ev_tableIn (off := 67) (tgt := 68) hq_52 (show decode prog_3_method_5_code 1 = .ok (.tableswitch 97 20000 20005 #[39, 53, 67, 78, 89, 93], 39) by decide +kernel) (by rw [c7]; decide) (by rw [c7]; decide) (by rw [c7]; decide) (by decide) ?_
    refine Ev_iload_n hq_52 (show decode prog_3_method_5_code 68 = .ok (.iload_n 1, 1) by decide +kernel) rfl ?_
    refine Ev_iload_n hq_52 (show decode prog_3_method_5_code 69 = .ok (.iload_n 2, 1) by decide +kernel) rfl ?_
    refine Ev_icmp_ge (tgt := 77) hq_52 (show decode prog_3_method_5_code 70 = .ok (.if_icmp .ge 7, 3) by decide +kernel) (by decide) (fun c8 => ?_) (fun c8 => ?_)
    · have k := k.1 c8
      refine Ev_iconst (v := 0) hq_52 (show decode prog_3_method_5_code 77 = .ok (.iconst 0, 1) by decide +kernel) (by decide) ?_
      exact Ev_iret hq_52 (show decode prog_3_method_5_code 78 = .ok (.ireturn, 1) by decide +kernel) rfl k
    · have k := k.2 c8
      refine Ev_iconst (v := 1) hq_52 (show decode prog_3_method_5_code 73 = .ok (.iconst 1, 1) by decide +kernel) (by decide) ?_
      refine Ev_goto (tgt := 78) hq_52 (show decode prog_3_method_5_code 74 = .ok (.goto 4, 3) by decide +kernel) (by decide) ?_
      exact Ev_iret hq_52 (show decode prog_3_method_5_code 78 = .ok (.ireturn, 1) by decide +kernel) rfl k
  have k := k.2 c7
  by_cases c9 : x0 = 20003
  · have k := k.1 c9
    refine Ev_tableIn (off := 78) (tgt := 79) hq_52 (show decode prog_3_method_5_code 1 = .ok (.tableswitch 97 20000 20005 #[39, 53, 67, 78, 89, 93], 39) by decide +kernel) (by rw [c9]; decide) (by rw [c9]; decide) (by rw [c9]; decide) (by decide) ?_
    refine Ev_iload_n hq_52 (show decode prog_3_method_5_code 79 = .ok (.iload_n 1, 1) by decide +kernel) rfl ?_
    refine Ev_iload_n hq_52 (show decode prog_3_method_5_code 80 = .ok (.iload_n 2, 1) by decide +kernel) rfl ?_
    refine Ev_icmp_ne (tgt := 88) hq_52 (show decode prog_3_method_5_code 81 = .ok (.if_icmp .ne 7, 3) by decide +kernel) (by decide) (fun c10 => ?_) (fun c10 => ?_)
    · have k := k.1 c10
      refine Ev_iconst (v := 0) hq_52 (show decode prog_3_method_5_code 88 = .ok (.iconst 0, 1) by decide +kernel) (by decide) ?_
      exact Ev_iret hq_52 (show decode prog_3_method_5_code 89 = .ok (.ireturn, 1) by decide +kernel) rfl k
    · have k := k.2 (Classical.not_not.mp c10)
      refine Ev_iconst (v := 1) hq_52 (show decode prog_3_method_5_code 84 = .ok (.iconst 1, 1) by decide +kernel) (by decide) ?_
      refine Ev_goto (tgt := 89) hq_52 (show decode prog_3_method_5_code 85 = .ok (.goto 4, 3) by decide +kernel) (by decide) ?_
      exact Ev_iret hq_52 (show decode prog_3_method_5_code 89 = .ok (.ireturn, 1) by decide +kernel) rfl k
  have k := k.2 c9
  by_cases c11 : x0 = 20004
  · have k := k.1 c11
    refine Ev_tableIn (off := 89) (tgt := 90) hq_52 (show decode prog_3_method_5_code 1 = .ok (.tableswitch 97 20000 20005 #[39, 53, 67, 78, 89, 93], 39) by decide +kernel) (by rw [c11]; decide) (by rw [c11]; decide) (by rw [c11]; decide) (by decide) ?_
    refine Ev_iload_n hq_52 (show decode prog_3_method_5_code 90 = .ok (.iload_n 1, 1) by decide +kernel) rfl ?_
    refine Ev_iload_n hq_52 (show decode prog_3_method_5_code 91 = .ok (.iload_n 2, 1) by decide +kernel) rfl ?_
    refine Ev_iadd hq_52 (show decode prog_3_method_5_code 92 = .ok (.iadd, 1) by decide +kernel) ?_
    exact Ev_iret hq_52 (show decode prog_3_method_5_code 93 = .ok (.ireturn, 1) by decide +kernel) rfl k
  have k := k.2 c11
  by_cases c12 : x0 = 20005
  · have k := k.1 c12
    refine Ev_tableIn (off := 93) (tgt := 94) hq_52 (show decode prog_3_method_5_code 1 = .ok (.tableswitch 97 20000 20005 #[39, 53, 67, 78, 89, 93], 39) by decide +kernel) (by rw [c12]; decide) (by rw [c12]; decide) (by rw [c12]; decide) (by decide) ?_
    refine Ev_iload_n hq_52 (show decode prog_3_method_5_code 94 = .ok (.iload_n 1, 1) by decide +kernel) rfl ?_
    refine Ev_iload_n hq_52 (show decode prog_3_method_5_code 95 = .ok (.iload_n 2, 1) by decide +kernel) rfl ?_
    refine Ev_isub hq_52 (show decode prog_3_method_5_code 96 = .ok (.isub, 1) by decide +kernel) ?_
    exact Ev_iret hq_52 (show decode prog_3_method_5_code 97 = .ok (.ireturn, 1) by decide +kernel) rfl k
  have k := k.2 c12
  have ec1 : (x0).toInt ≠ 20000 := z_ne (k := 20000) c1
  have ec4 : (x0).toInt ≠ 20001 := z_ne (k := 20001) c4
  have ec7 : (x0).toInt ≠ 20002 := z_ne (k := 20002) c7
  have ec9 : (x0).toInt ≠ 20003 := z_ne (k := 20003) c9
  have ec11 : (x0).toInt ≠ 20004 := z_ne (k := 20004) c11
  have ec12 : (x0).toInt ≠ 20005 := z_ne (k := 20005) c12
  refine Ev_tableOut (tgt := 98) hq_52 (show decode prog_3_method_5_code 1 = .ok (.tableswitch 97 20000 20005 #[39, 53, 67, 78, 89, 93], 39) by decide +kernel) (by omega) (by decide) ?_
  refine Ev_iload_n hq_52 (show decode prog_3_method_5_code 98 = .ok (.iload_n 1, 1) by decide +kernel) rfl ?_
  refine Ev_iload_n hq_52 (show decode prog_3_method_5_code 99 = .ok (.iload_n 2, 1) by decide +kernel) rfl ?_
  refine Ev_imul hq_52 (show decode prog_3_method_5_code 100 = .ok (.imul, 1) by decide +kernel) ?_
  exact Ev_iret hq_52 (show decode prog_3_method_5_code 101 = .ok (.ireturn, 1) by decide +kernel) rfl k
def f_L_joined (x0 x1 x2 : Int32) : Int32 := (if x0 = 20000 then (if x1 = 0 then (if x2 = 0 then 0 else 1) else 1) else (if x0 = 20001 then (if x1 = 0 then 0 else (if x2 = 0 then 0 else 1)) else (if x0 = 20002 then (if x2 ≤ x1 then 0 else 1) else (if x0 = 20003 then (if x1 = x2 then 1 else 0) else (if x0 = 20004 then (x1 + x2) else (if x0 = 20005 then (x1 - x2) else (x1 * x2)))))))
theorem c_L_joined {X : Nat × (Nat → Int32)} {d : Nat} {G : zG} {I : zI} (x0 x1 x2 : Int32) : Cv X d 52 [.int x0, .int x1, .int x2] G I (some (.int (f_L_joined x0 x1 x2)), G, I) := by
  exact Cv.of hq_52 (z_le rfl) rfl (wp_L_joined x0 x1 x2 ⟨fun h0 => ⟨fun h1 => (by simp only [f_L_joined]; rw [if_pos h0]; rw [if_neg h1]), fun h1 => ⟨fun h2 => (by simp only [f_L_joined]; rw [if_pos h0]; rw [if_pos h1]; rw [if_pos h2]), fun h2 => (by simp only [f_L_joined]; rw [if_pos h0]; rw [if_pos h1]; rw [if_neg h2])⟩⟩, fun h0 => ⟨fun h1 => ⟨fun h2 => (by simp only [f_L_joined]; rw [if_neg h0]; rw [if_pos h1]; rw [if_pos h2]), fun h2 => ⟨fun h3 => (by simp only [f_L_joined]; rw [if_neg h0]; rw [if_pos h1]; rw [if_neg h2]; rw [if_pos h3]), fun h3 => (by simp only [f_L_joined]; rw [if_neg h0]; rw [if_pos h1]; rw [if_neg h2]; rw [if_neg h3])⟩⟩, fun h1 => ⟨fun h2 => ⟨fun h3 => (by simp only [f_L_joined]; rw [if_neg h0]; rw [if_neg h1]; rw [if_pos h2]; rw [if_pos h3]), fun h3 => (by simp only [f_L_joined]; rw [if_neg h0]; rw [if_neg h1]; rw [if_pos h2]; rw [if_neg h3])⟩, fun h2 => ⟨fun h3 => ⟨fun h4 => (by simp only [f_L_joined]; rw [if_neg h0]; rw [if_neg h1]; rw [if_neg h2]; rw [if_pos h3]; rw [if_neg h4]), fun h4 => (by simp only [f_L_joined]; rw [if_neg h0]; rw [if_neg h1]; rw [if_neg h2]; rw [if_pos h3]; rw [if_pos h4])⟩, fun h3 => ⟨fun h4 => (by simp only [f_L_joined]; rw [if_neg h0]; rw [if_neg h1]; rw [if_neg h2]; rw [if_neg h3]; rw [if_pos h4]), fun h4 => ⟨fun h5 => (by simp only [f_L_joined]; rw [if_neg h0]; rw [if_neg h1]; rw [if_neg h2]; rw [if_neg h3]; rw [if_neg h4]; rw [if_pos h5]), fun h5 => (by simp only [f_L_joined]; rw [if_neg h0]; rw [if_neg h1]; rw [if_neg h2]; rw [if_neg h3]; rw [if_neg h4]; rw [if_neg h5])⟩⟩⟩⟩⟩⟩)
set_option maxRecDepth 20000 in
theorem wp_L_says {X : Nat × (Nat → Int32)} {d : Nat} {G : zG} {I : zI} {res : Option Value × zG × zI} (w : Nat) (x1 : Int32) (hw : LW G w) 
    (k : (x1 < 0 → res = (some (.int 0), G, I)) ∧ (¬ x1 < 0 → (x1 ≤ 2 → z_inr (x1 + 1) 4 ∧ (∀ y4 : Int32, y4 = (if (Int32.ofNat (zl G (w + (0 + 1)))) < (I (w + (1 + 1)) (x1 + 1).toNatClampNeg) then (Int32.ofNat (zl G (w + (0 + 1)))) else (I (w + (1 + 1)) (x1 + 1).toNatClampNeg)) → z_inr x1 4 ∧ (∀ y6 : Int32, y6 = (if 0 < (I (w + (1 + 1)) x1.toNatClampNeg) then (I (w + (1 + 1)) x1.toNatClampNeg) else 0) → Ev X (d + 1) 50 42 [.ref w, .int x1, .int 0, .int y4, .int y6, zU] [] G I res))) ∧ (¬ x1 ≤ 2 → res = (some (.int 0), G, I)))) :
    Ev X (d + 1) 50 0 [.ref w, .int x1, zU, zU, zU, zU] [] G I res := by
  refine Ev_iload_n hq_50 (show decode prog_3_method_3_code 0 = .ok (.iload_n 1, 1) by decide +kernel) rfl ?_
  refine Ev_if_lt (tgt := 9) hq_50 (show decode prog_3_method_3_code 1 = .ok (.ifCond .lt 8, 3) by decide +kernel) (by decide) (fun c1 => ?_) (fun c1 => ?_)
  · have k := k.1 c1
    refine Ev_iconst (v := 0) hq_50 (show decode prog_3_method_3_code 9 = .ok (.iconst 0, 1) by decide +kernel) (by decide) ?_
    exact Ev_iret hq_50 (show decode prog_3_method_3_code 10 = .ok (.ireturn, 1) by decide +kernel) rfl k
  · have k := k.2 c1
    refine Ev_iload_n hq_50 (show decode prog_3_method_3_code 4 = .ok (.iload_n 1, 1) by decide +kernel) rfl ?_
    refine Ev_iconst (v := 2) hq_50 (show decode prog_3_method_3_code 5 = .ok (.iconst 2, 1) by decide +kernel) (by decide) ?_
    refine Ev_icmp_le (tgt := 11) hq_50 (show decode prog_3_method_3_code 6 = .ok (.if_icmp .le 5, 3) by decide +kernel) (by decide) (fun c2 => ?_) (fun c2 => ?_)
    · have k := k.1 c2
      refine Ev_iconst (v := 0) hq_50 (show decode prog_3_method_3_code 11 = .ok (.iconst 0, 1) by decide +kernel) (by decide) ?_
      refine Ev_istore_n (lo2 := [.ref w, .int x1, .int 0, zU, zU, zU]) hq_50 (show decode prog_3_method_3_code 12 = .ok (.istore_n 2, 1) by decide +kernel) (z_le rfl) rfl ?_
      refine Ev_aload_n hq_50 (show decode prog_3_method_3_code 13 = .ok (.aload_n 0, 1) by decide +kernel) rfl ?_
      refine Ev_getR hq_50 (show decode prog_3_method_3_code 14 = .ok (.getfield 19, 3) by decide +kernel) rfl (VB.lt hw (by omega)) hw.2.1 (by decide) rfl (hw.2.2 1 (by decide)).1 ?_
      refine Ev_iload_n hq_50 (show decode prog_3_method_3_code 17 = .ok (.iload_n 1, 1) by decide +kernel) rfl ?_
      refine Ev_iconst (v := 1) hq_50 (show decode prog_3_method_3_code 18 = .ok (.iconst 1, 1) by decide +kernel) (by decide) ?_
      refine Ev_iadd hq_50 (show decode prog_3_method_3_code 19 = .ok (.iadd, 1) by decide +kernel) ?_
      obtain ⟨h3, k⟩ := k
      refine Ev_iald hq_50 (show decode prog_3_method_3_code 20 = .ok (.iaload, 1) by decide +kernel) (VB.lt hw (by omega)) (hw.2.2 1 (by decide)).2.1 (VB.inr hw (j := 1) (n := 4) (by decide) rfl h3) ?_
      refine Ev_aload_n hq_50 (show decode prog_3_method_3_code 21 = .ok (.aload_n 0, 1) by decide +kernel) rfl ?_
      refine Ev_getR hq_50 (show decode prog_3_method_3_code 22 = .ok (.getfield 16, 3) by decide +kernel) rfl (VB.lt hw (by omega)) hw.2.1 (by decide) rfl (hw.2.2 0 (by decide)).1 ?_
      refine Ev_alen hq_50 (show decode prog_3_method_3_code 25 = .ok (.arraylength, 1) by decide +kernel) (VB.lt hw (by omega)) (by rw [(hw.2.2 0 (by decide)).2.1]; decide) (by rw [(hw.2.2 0 (by decide)).2.1]; decide) ?_
      refine Ev_min hq_50 (show decode prog_3_method_3_code 26 = .ok (.invokestatic 22, 3) by decide +kernel) rfl (z_le rfl) ?_
      obtain ⟨y4, ey4⟩ : ∃ y4 : Int32, y4 = (if (Int32.ofNat (zl G (w + (0 + 1)))) < (I (w + (1 + 1)) (x1 + 1).toNatClampNeg) then (Int32.ofNat (zl G (w + (0 + 1)))) else (I (w + (1 + 1)) (x1 + 1).toNatClampNeg)) := ⟨_, rfl⟩
      have k := k y4 ey4
      rw [← ey4]
      refine Ev_istore_n (lo2 := [.ref w, .int x1, .int 0, .int y4, zU, zU]) hq_50 (show decode prog_3_method_3_code 29 = .ok (.istore_n 3, 1) by decide +kernel) (z_le rfl) rfl ?_
      refine Ev_iconst (v := 0) hq_50 (show decode prog_3_method_3_code 30 = .ok (.iconst 0, 1) by decide +kernel) (by decide) ?_
      refine Ev_aload_n hq_50 (show decode prog_3_method_3_code 31 = .ok (.aload_n 0, 1) by decide +kernel) rfl ?_
      refine Ev_getR hq_50 (show decode prog_3_method_3_code 32 = .ok (.getfield 19, 3) by decide +kernel) rfl (VB.lt hw (by omega)) hw.2.1 (by decide) rfl (hw.2.2 1 (by decide)).1 ?_
      refine Ev_iload_n hq_50 (show decode prog_3_method_3_code 35 = .ok (.iload_n 1, 1) by decide +kernel) rfl ?_
      obtain ⟨h5, k⟩ := k
      refine Ev_iald hq_50 (show decode prog_3_method_3_code 36 = .ok (.iaload, 1) by decide +kernel) (VB.lt hw (by omega)) (hw.2.2 1 (by decide)).2.1 (VB.inr hw (j := 1) (n := 4) (by decide) rfl h5) ?_
      refine Ev_max hq_50 (show decode prog_3_method_3_code 37 = .ok (.invokestatic 28, 3) by decide +kernel) rfl (z_le rfl) ?_
      obtain ⟨y6, ey6⟩ : ∃ y6 : Int32, y6 = (if 0 < (I (w + (1 + 1)) x1.toNatClampNeg) then (I (w + (1 + 1)) x1.toNatClampNeg) else 0) := ⟨_, rfl⟩
      have k := k y6 ey6
      rw [← ey6]
      refine Ev_istore (lo2 := [.ref w, .int x1, .int 0, .int y4, .int y6, zU]) hq_50 (show decode prog_3_method_3_code 40 = .ok (.istore 4, 2) by decide +kernel) (z_le rfl) rfl ?_
      exact k
    · have k := k.2 c2
      refine Ev_iconst (v := 0) hq_50 (show decode prog_3_method_3_code 9 = .ok (.iconst 0, 1) by decide +kernel) (by decide) ?_
      exact Ev_iret hq_50 (show decode prog_3_method_3_code 10 = .ok (.ireturn, 1) by decide +kernel) rfl k
set_option maxRecDepth 20000 in
theorem wp_L_says_42 {X : Nat × (Nat → Int32)} {d : Nat} {G : zG} {I : zI} {res : Option Value × zG × zI} (w : Nat) (x1 : Int32) (x2 : Int32) (x3 : Int32) (x4 : Int32) (v5 : Value) (cv5 : v5.category = 1) (hw : LW G w) 
    (k : (x3 ≤ x4 → (x2 ≤ 0 → (¬ x1 = 0 → (¬ x1 = 1 → res = (some (.int 0), G, I)) ∧ (x1 = 1 → res = (some (.int (f_T_bounded 0 0 99)), G, I))) ∧ (x1 = 0 → res = (some (.int (f_T_bounded 0 (-99) 99)), G, I))) ∧ (¬ x2 ≤ 0 → z_inr (x2 - 1) 40 ∧ (∀ y6 : Int32, y6 = (I (w + (3 + 1)) (x2 - 1).toNatClampNeg) → (¬ x1 = 0 → (¬ x1 = 1 → (y6 = 0 → res = (some (.int 0), G, I)) ∧ (¬ y6 = 0 → res = (some (.int 1), G, I))) ∧ (x1 = 1 → res = (some (.int (f_T_bounded y6 0 99)), G, I))) ∧ (x1 = 0 → res = (some (.int (f_T_bounded y6 (-99) 99)), G, I))))) ∧ (¬ x3 ≤ x4 → z_inr x4 (zl G (w + 1)) ∧ (∀ y11 : Int32, y11 = (I (w + (0 + 1)) x4.toNatClampNeg) → (20000 ≤ y11 → (¬ y11 = 20007 → (¬ y11 = 20008 → (x2 ≤ 1 → ∀ y16 : Int32, y16 = x4 + 1 → Ev X (d + 1) 50 42 [.ref w, .int x1, .int x2, .int x3, .int y16, .int y11] [] G I res) ∧ (¬ x2 ≤ 1 → ∀ y17 : Int32, y17 = x2 + (-1) → z_inr (y17 - 1) 40 ∧ (z_inr y17 40 ∧ (z_inr (y17 - 1) 40 ∧ (∀ I21 : zI, I21 = z_up I (w + (3 + 1)) (y17 - 1).toNatClampNeg (f_L_joined y11 (I (w + (3 + 1)) (y17 - 1).toNatClampNeg) (I (w + (3 + 1)) y17.toNatClampNeg)) → ∀ y22 : Int32, y22 = x4 + 1 → Ev X (d + 1) 50 42 [.ref w, .int x1, .int y17, .int x3, .int y22, .int y11] [] G I21 res))))) ∧ (y11 = 20008 → (x2 ≤ 0 → ∀ y24 : Int32, y24 = x4 + 1 → Ev X (d + 1) 50 42 [.ref w, .int x1, .int x2, .int x3, .int y24, .int y11] [] G I res) ∧ (¬ x2 ≤ 0 → z_inr (x2 - 1) 40 ∧ (z_inr (x2 - 1) 40 ∧ (∀ I27 : zI, I27 = z_up I (w + (3 + 1)) (x2 - 1).toNatClampNeg (-(I (w + (3 + 1)) (x2 - 1).toNatClampNeg)) → ∀ y28 : Int32, y28 = x4 + 1 → Ev X (d + 1) 50 42 [.ref w, .int x1, .int x2, .int x3, .int y28, .int y11] [] G I27 res))))) ∧ (y11 = 20007 → (x2 ≤ 0 → ∀ y30 : Int32, y30 = x4 + 1 → Ev X (d + 1) 50 42 [.ref w, .int x1, .int x2, .int x3, .int y30, .int y11] [] G I res) ∧ (¬ x2 ≤ 0 → z_inr (x2 - 1) 40 ∧ ((¬ (I (w + (3 + 1)) (x2 - 1).toNatClampNeg) = 0 → z_inr (x2 - 1) 40 ∧ (∀ I34 : zI, I34 = z_up I (w + (3 + 1)) (x2 - 1).toNatClampNeg 0 → ∀ y35 : Int32, y35 = x4 + 1 → Ev X (d + 1) 50 42 [.ref w, .int x1, .int x2, .int x3, .int y35, .int y11] [] G I34 res)) ∧ ((I (w + (3 + 1)) (x2 - 1).toNatClampNeg) = 0 → z_inr (x2 - 1) 40 ∧ (∀ I37 : zI, I37 = z_up I (w + (3 + 1)) (x2 - 1).toNatClampNeg 1 → ∀ y38 : Int32, y38 = x4 + 1 → Ev X (d + 1) 50 42 [.ref w, .int x1, .int x2, .int x3, .int y38, .int y11] [] G I37 res)))))) ∧ (¬ 20000 ≤ y11 → (40 ≤ x2 → ∀ y40 : Int32, y40 = x4 + 1 → Ev X (d + 1) 50 42 [.ref w, .int x1, .int x2, .int x3, .int y40, .int y11] [] G I res) ∧ (¬ 40 ≤ x2 → ∀ y41 : Int32, y41 = x2 + 1 → ∃ (r44 : Int32) (I42 : zI), Cv X d 51 [.ref w, .int y11] G I (some (.int r44), G, I42) ∧ (z_inr x2 40 ∧ (∀ I46 : zI, I46 = z_up I42 (w + (3 + 1)) x2.toNatClampNeg r44 → ∀ y47 : Int32, y47 = x4 + 1 → Ev X (d + 1) 50 42 [.ref w, .int x1, .int y41, .int x3, .int y47, .int y11] [] G I46 res))))))) :
    Ev X (d + 1) 50 42 [.ref w, .int x1, .int x2, .int x3, .int x4, v5] [] G I res := by
  refine Ev_iload hq_50 (show decode prog_3_method_3_code 42 = .ok (.iload 4, 2) by decide +kernel) rfl ?_
  refine Ev_iload_n hq_50 (show decode prog_3_method_3_code 44 = .ok (.iload_n 3, 1) by decide +kernel) rfl ?_
  refine Ev_icmp_ge (tgt := 201) hq_50 (show decode prog_3_method_3_code 45 = .ok (.if_icmp .ge 156, 3) by decide +kernel) (by decide) (fun c1 => ?_) (fun c1 => ?_)
  · have k := k.1 c1
    refine Ev_iload_n hq_50 (show decode prog_3_method_3_code 201 = .ok (.iload_n 2, 1) by decide +kernel) rfl ?_
    refine Ev_if_le (tgt := 216) hq_50 (show decode prog_3_method_3_code 202 = .ok (.ifCond .le 14, 3) by decide +kernel) (by decide) (fun c2 => ?_) (fun c2 => ?_)
    · have k := k.1 c2
      refine Ev_iconst (v := 0) hq_50 (show decode prog_3_method_3_code 216 = .ok (.iconst 0, 1) by decide +kernel) (by decide) ?_
      refine Ev_istore (lo2 := [.ref w, .int x1, .int x2, .int x3, .int 0, v5]) hq_50 (show decode prog_3_method_3_code 217 = .ok (.istore 4, 2) by decide +kernel) (z_le rfl) rfl ?_
      refine Ev_iload_n hq_50 (show decode prog_3_method_3_code 219 = .ok (.iload_n 1, 1) by decide +kernel) rfl ?_
      refine Ev_if_ne (tgt := 233) hq_50 (show decode prog_3_method_3_code 220 = .ok (.ifCond .ne 13, 3) by decide +kernel) (by decide) (fun c3 => ?_) (fun c3 => ?_)
      · have k := k.1 c3
        refine Ev_iload_n hq_50 (show decode prog_3_method_3_code 233 = .ok (.iload_n 1, 1) by decide +kernel) rfl ?_
        refine Ev_iconst (v := 1) hq_50 (show decode prog_3_method_3_code 234 = .ok (.iconst 1, 1) by decide +kernel) (by decide) ?_
        refine Ev_icmp_ne (tgt := 247) hq_50 (show decode prog_3_method_3_code 235 = .ok (.if_icmp .ne 12, 3) by decide +kernel) (by decide) (fun c4 => ?_) (fun c4 => ?_)
        · have k := k.1 c4
          refine Ev_iload hq_50 (show decode prog_3_method_3_code 247 = .ok (.iload 4, 2) by decide +kernel) rfl ?_
          refine Ev_if_eq (tgt := 256) hq_50 (show decode prog_3_method_3_code 249 = .ok (.ifCond .eq 7, 3) by decide +kernel) (by decide) (fun _ => ?_) (fun hz => absurd (by decide) hz)
          refine Ev_iconst (v := 0) hq_50 (show decode prog_3_method_3_code 256 = .ok (.iconst 0, 1) by decide +kernel) (by decide) ?_
          exact Ev_iret hq_50 (show decode prog_3_method_3_code 257 = .ok (.ireturn, 1) by decide +kernel) rfl k
        · have k := k.2 (Classical.not_not.mp c4)
          refine Ev_iload hq_50 (show decode prog_3_method_3_code 238 = .ok (.iload 4, 2) by decide +kernel) rfl ?_
          refine Ev_iconst (v := 0) hq_50 (show decode prog_3_method_3_code 240 = .ok (.iconst 0, 1) by decide +kernel) (by decide) ?_
          refine Ev_bipush (v := 99) hq_50 (show decode prog_3_method_3_code 241 = .ok (.bipush 99, 2) by decide +kernel) (by decide) ?_
          refine Ev_stat (as := [.int 0, .int 0, .int 99]) hq_50 (show decode prog_3_method_3_code 243 = .ok (.invokestatic 39, 3) by decide +kernel) rfl (Or.inr rfl) hq_13 rfl (z_le rfl) (c_T_bounded 0 0 99) ?_
          exact Ev_iret hq_50 (show decode prog_3_method_3_code 246 = .ok (.ireturn, 1) by decide +kernel) rfl k
      · have k := k.2 (Classical.not_not.mp c3)
        refine Ev_iload hq_50 (show decode prog_3_method_3_code 223 = .ok (.iload 4, 2) by decide +kernel) rfl ?_
        refine Ev_bipush (v := (-99)) hq_50 (show decode prog_3_method_3_code 225 = .ok (.bipush (-99), 2) by decide +kernel) (by decide) ?_
        refine Ev_bipush (v := 99) hq_50 (show decode prog_3_method_3_code 227 = .ok (.bipush 99, 2) by decide +kernel) (by decide) ?_
        refine Ev_stat (as := [.int 0, .int (-99), .int 99]) hq_50 (show decode prog_3_method_3_code 229 = .ok (.invokestatic 39, 3) by decide +kernel) rfl (Or.inr rfl) hq_13 rfl (z_le rfl) (c_T_bounded 0 (-99) 99) ?_
        exact Ev_iret hq_50 (show decode prog_3_method_3_code 232 = .ok (.ireturn, 1) by decide +kernel) rfl k
    · have k := k.2 c2
      refine Ev_aload_n hq_50 (show decode prog_3_method_3_code 205 = .ok (.aload_n 0, 1) by decide +kernel) rfl ?_
      refine Ev_getR hq_50 (show decode prog_3_method_3_code 206 = .ok (.getfield 13, 3) by decide +kernel) rfl (VB.lt hw (by omega)) hw.2.1 (by decide) rfl (hw.2.2 3 (by decide)).1 ?_
      refine Ev_iload_n hq_50 (show decode prog_3_method_3_code 209 = .ok (.iload_n 2, 1) by decide +kernel) rfl ?_
      refine Ev_iconst (v := 1) hq_50 (show decode prog_3_method_3_code 210 = .ok (.iconst 1, 1) by decide +kernel) (by decide) ?_
      refine Ev_isub hq_50 (show decode prog_3_method_3_code 211 = .ok (.isub, 1) by decide +kernel) ?_
      obtain ⟨h5, k⟩ := k
      refine Ev_iald hq_50 (show decode prog_3_method_3_code 212 = .ok (.iaload, 1) by decide +kernel) (VB.lt hw (by omega)) (hw.2.2 3 (by decide)).2.1 (VB.inr hw (j := 3) (n := 40) (by decide) rfl h5) ?_
      refine Ev_goto (tgt := 217) hq_50 (show decode prog_3_method_3_code 213 = .ok (.goto 4, 3) by decide +kernel) (by decide) ?_
      obtain ⟨y6, ey6⟩ : ∃ y6 : Int32, y6 = (I (w + (3 + 1)) (x2 - 1).toNatClampNeg) := ⟨_, rfl⟩
      have k := k y6 ey6
      rw [← ey6]
      refine Ev_istore (lo2 := [.ref w, .int x1, .int x2, .int x3, .int y6, v5]) hq_50 (show decode prog_3_method_3_code 217 = .ok (.istore 4, 2) by decide +kernel) (z_le rfl) rfl ?_
      refine Ev_iload_n hq_50 (show decode prog_3_method_3_code 219 = .ok (.iload_n 1, 1) by decide +kernel) rfl ?_
      refine Ev_if_ne (tgt := 233) hq_50 (show decode prog_3_method_3_code 220 = .ok (.ifCond .ne 13, 3) by decide +kernel) (by decide) (fun c7 => ?_) (fun c7 => ?_)
      · have k := k.1 c7
        refine Ev_iload_n hq_50 (show decode prog_3_method_3_code 233 = .ok (.iload_n 1, 1) by decide +kernel) rfl ?_
        refine Ev_iconst (v := 1) hq_50 (show decode prog_3_method_3_code 234 = .ok (.iconst 1, 1) by decide +kernel) (by decide) ?_
        refine Ev_icmp_ne (tgt := 247) hq_50 (show decode prog_3_method_3_code 235 = .ok (.if_icmp .ne 12, 3) by decide +kernel) (by decide) (fun c8 => ?_) (fun c8 => ?_)
        · have k := k.1 c8
          refine Ev_iload hq_50 (show decode prog_3_method_3_code 247 = .ok (.iload 4, 2) by decide +kernel) rfl ?_
          refine Ev_if_eq (tgt := 256) hq_50 (show decode prog_3_method_3_code 249 = .ok (.ifCond .eq 7, 3) by decide +kernel) (by decide) (fun c9 => ?_) (fun c9 => ?_)
          · have k := k.1 c9
            refine Ev_iconst (v := 0) hq_50 (show decode prog_3_method_3_code 256 = .ok (.iconst 0, 1) by decide +kernel) (by decide) ?_
            exact Ev_iret hq_50 (show decode prog_3_method_3_code 257 = .ok (.ireturn, 1) by decide +kernel) rfl k
          · have k := k.2 c9
            refine Ev_iconst (v := 1) hq_50 (show decode prog_3_method_3_code 252 = .ok (.iconst 1, 1) by decide +kernel) (by decide) ?_
            refine Ev_goto (tgt := 257) hq_50 (show decode prog_3_method_3_code 253 = .ok (.goto 4, 3) by decide +kernel) (by decide) ?_
            exact Ev_iret hq_50 (show decode prog_3_method_3_code 257 = .ok (.ireturn, 1) by decide +kernel) rfl k
        · have k := k.2 (Classical.not_not.mp c8)
          refine Ev_iload hq_50 (show decode prog_3_method_3_code 238 = .ok (.iload 4, 2) by decide +kernel) rfl ?_
          refine Ev_iconst (v := 0) hq_50 (show decode prog_3_method_3_code 240 = .ok (.iconst 0, 1) by decide +kernel) (by decide) ?_
          refine Ev_bipush (v := 99) hq_50 (show decode prog_3_method_3_code 241 = .ok (.bipush 99, 2) by decide +kernel) (by decide) ?_
          refine Ev_stat (as := [.int y6, .int 0, .int 99]) hq_50 (show decode prog_3_method_3_code 243 = .ok (.invokestatic 39, 3) by decide +kernel) rfl (Or.inr rfl) hq_13 rfl (z_le rfl) (c_T_bounded y6 0 99) ?_
          exact Ev_iret hq_50 (show decode prog_3_method_3_code 246 = .ok (.ireturn, 1) by decide +kernel) rfl k
      · have k := k.2 (Classical.not_not.mp c7)
        refine Ev_iload hq_50 (show decode prog_3_method_3_code 223 = .ok (.iload 4, 2) by decide +kernel) rfl ?_
        refine Ev_bipush (v := (-99)) hq_50 (show decode prog_3_method_3_code 225 = .ok (.bipush (-99), 2) by decide +kernel) (by decide) ?_
        refine Ev_bipush (v := 99) hq_50 (show decode prog_3_method_3_code 227 = .ok (.bipush 99, 2) by decide +kernel) (by decide) ?_
        refine Ev_stat (as := [.int y6, .int (-99), .int 99]) hq_50 (show decode prog_3_method_3_code 229 = .ok (.invokestatic 39, 3) by decide +kernel) rfl (Or.inr rfl) hq_13 rfl (z_le rfl) (c_T_bounded y6 (-99) 99) ?_
        exact Ev_iret hq_50 (show decode prog_3_method_3_code 232 = .ok (.ireturn, 1) by decide +kernel) rfl k
  · have k := k.2 c1
    refine Ev_aload_n hq_50 (show decode prog_3_method_3_code 48 = .ok (.aload_n 0, 1) by decide +kernel) rfl ?_
    refine Ev_getR hq_50 (show decode prog_3_method_3_code 49 = .ok (.getfield 16, 3) by decide +kernel) rfl (VB.lt hw (by omega)) hw.2.1 (by decide) rfl (hw.2.2 0 (by decide)).1 ?_
    refine Ev_iload hq_50 (show decode prog_3_method_3_code 52 = .ok (.iload 4, 2) by decide +kernel) rfl ?_
    obtain ⟨h10, k⟩ := k
    refine Ev_iald hq_50 (show decode prog_3_method_3_code 54 = .ok (.iaload, 1) by decide +kernel) (VB.lt hw (by omega)) (hw.2.2 0 (by decide)).2.1 h10 ?_
    obtain ⟨y11, ey11⟩ : ∃ y11 : Int32, y11 = (I (w + (0 + 1)) x4.toNatClampNeg) := ⟨_, rfl⟩
    have k := k y11 ey11
    rw [← ey11]
    refine Ev_istore (lo2 := [.ref w, .int x1, .int x2, .int x3, .int x4, .int y11]) hq_50 (show decode prog_3_method_3_code 55 = .ok (.istore 5, 2) by decide +kernel) (z_le rfl) rfl ?_
    refine Ev_iload hq_50 (show decode prog_3_method_3_code 57 = .ok (.iload 5, 2) by decide +kernel) rfl ?_
    refine Ev_sipush (v := 20000) hq_50 (show decode prog_3_method_3_code 59 = .ok (.sipush 20000, 3) by decide +kernel) (by decide) ?_
    refine Ev_icmp_ge (tgt := 89) hq_50 (show decode prog_3_method_3_code 62 = .ok (.if_icmp .ge 27, 3) by decide +kernel) (by decide) (fun c12 => ?_) (fun c12 => ?_)
    · have k := k.1 c12
      refine Ev_iload hq_50 (show decode prog_3_method_3_code 89 = .ok (.iload 5, 2) by decide +kernel) rfl ?_
      refine Ev_sipush (v := 20007) hq_50 (show decode prog_3_method_3_code 91 = .ok (.sipush 20007, 3) by decide +kernel) (by decide) ?_
      refine Ev_icmp_ne (tgt := 128) hq_50 (show decode prog_3_method_3_code 94 = .ok (.if_icmp .ne 34, 3) by decide +kernel) (by decide) (fun c13 => ?_) (fun c13 => ?_)
      · have k := k.1 c13
        refine Ev_iload hq_50 (show decode prog_3_method_3_code 128 = .ok (.iload 5, 2) by decide +kernel) rfl ?_
        refine Ev_sipush (v := 20008) hq_50 (show decode prog_3_method_3_code 130 = .ok (.sipush 20008, 3) by decide +kernel) (by decide) ?_
        refine Ev_icmp_ne (tgt := 160) hq_50 (show decode prog_3_method_3_code 133 = .ok (.if_icmp .ne 27, 3) by decide +kernel) (by decide) (fun c14 => ?_) (fun c14 => ?_)
        · have k := k.1 c14
          refine Ev_iload_n hq_50 (show decode prog_3_method_3_code 160 = .ok (.iload_n 2, 1) by decide +kernel) rfl ?_
          refine Ev_iconst (v := 1) hq_50 (show decode prog_3_method_3_code 161 = .ok (.iconst 1, 1) by decide +kernel) (by decide) ?_
          refine Ev_icmp_le (tgt := 195) hq_50 (show decode prog_3_method_3_code 162 = .ok (.if_icmp .le 33, 3) by decide +kernel) (by decide) (fun c15 => ?_) (fun c15 => ?_)
          · have k := k.1 c15
            obtain ⟨y16, ey16⟩ : ∃ y16 : Int32, y16 = x4 + 1 := ⟨_, rfl⟩
            have k := k y16 ey16
            refine Ev_iinc (v := y16) (lo2 := [.ref w, .int x1, .int x2, .int x3, .int y16, .int y11]) hq_50 (show decode prog_3_method_3_code 195 = .ok (.iinc 4 1, 3) by decide +kernel) rfl (by rw [ey16]; rfl) rfl ?_
            refine Ev_goto (tgt := 42) hq_50 (show decode prog_3_method_3_code 198 = .ok (.goto (-156), 3) by decide +kernel) (by decide) ?_
            exact k
          · have k := k.2 c15
            obtain ⟨y17, ey17⟩ : ∃ y17 : Int32, y17 = x2 + (-1) := ⟨_, rfl⟩
            have k := k y17 ey17
            refine Ev_iinc (v := y17) (lo2 := [.ref w, .int x1, .int y17, .int x3, .int x4, .int y11]) hq_50 (show decode prog_3_method_3_code 165 = .ok (.iinc 2 (-1), 3) by decide +kernel) rfl (by rw [ey17]; rfl) rfl ?_
            refine Ev_aload_n hq_50 (show decode prog_3_method_3_code 168 = .ok (.aload_n 0, 1) by decide +kernel) rfl ?_
            refine Ev_getR hq_50 (show decode prog_3_method_3_code 169 = .ok (.getfield 13, 3) by decide +kernel) rfl (VB.lt hw (by omega)) hw.2.1 (by decide) rfl (hw.2.2 3 (by decide)).1 ?_
            refine Ev_iload_n hq_50 (show decode prog_3_method_3_code 172 = .ok (.iload_n 2, 1) by decide +kernel) rfl ?_
            refine Ev_iconst (v := 1) hq_50 (show decode prog_3_method_3_code 173 = .ok (.iconst 1, 1) by decide +kernel) (by decide) ?_
            refine Ev_isub hq_50 (show decode prog_3_method_3_code 174 = .ok (.isub, 1) by decide +kernel) ?_
            refine Ev_iload hq_50 (show decode prog_3_method_3_code 175 = .ok (.iload 5, 2) by decide +kernel) rfl ?_
            refine Ev_aload_n hq_50 (show decode prog_3_method_3_code 177 = .ok (.aload_n 0, 1) by decide +kernel) rfl ?_
            refine Ev_getR hq_50 (show decode prog_3_method_3_code 178 = .ok (.getfield 13, 3) by decide +kernel) rfl (VB.lt hw (by omega)) hw.2.1 (by decide) rfl (hw.2.2 3 (by decide)).1 ?_
            refine Ev_iload_n hq_50 (show decode prog_3_method_3_code 181 = .ok (.iload_n 2, 1) by decide +kernel) rfl ?_
            refine Ev_iconst (v := 1) hq_50 (show decode prog_3_method_3_code 182 = .ok (.iconst 1, 1) by decide +kernel) (by decide) ?_
            refine Ev_isub hq_50 (show decode prog_3_method_3_code 183 = .ok (.isub, 1) by decide +kernel) ?_
            obtain ⟨h18, k⟩ := k
            refine Ev_iald hq_50 (show decode prog_3_method_3_code 184 = .ok (.iaload, 1) by decide +kernel) (VB.lt hw (by omega)) (hw.2.2 3 (by decide)).2.1 (VB.inr hw (j := 3) (n := 40) (by decide) rfl h18) ?_
            refine Ev_aload_n hq_50 (show decode prog_3_method_3_code 185 = .ok (.aload_n 0, 1) by decide +kernel) rfl ?_
            refine Ev_getR hq_50 (show decode prog_3_method_3_code 186 = .ok (.getfield 13, 3) by decide +kernel) rfl (VB.lt hw (by omega)) hw.2.1 (by decide) rfl (hw.2.2 3 (by decide)).1 ?_
            refine Ev_iload_n hq_50 (show decode prog_3_method_3_code 189 = .ok (.iload_n 2, 1) by decide +kernel) rfl ?_
            obtain ⟨h19, k⟩ := k
            refine Ev_iald hq_50 (show decode prog_3_method_3_code 190 = .ok (.iaload, 1) by decide +kernel) (VB.lt hw (by omega)) (hw.2.2 3 (by decide)).2.1 (VB.inr hw (j := 3) (n := 40) (by decide) rfl h19) ?_
            refine Ev_stat (as := [.int y11, .int (I (w + (3 + 1)) (y17 - 1).toNatClampNeg), .int (I (w + (3 + 1)) y17.toNatClampNeg)]) hq_50 (show decode prog_3_method_3_code 191 = .ok (.invokestatic 35, 3) by decide +kernel) rfl (Or.inl rfl) hq_52 rfl (z_le rfl) (c_L_joined y11 (I (w + (3 + 1)) (y17 - 1).toNatClampNeg) (I (w + (3 + 1)) y17.toNatClampNeg)) ?_
            obtain ⟨h20, k⟩ := k
            refine Ev_iast hq_50 (show decode prog_3_method_3_code 194 = .ok (.iastore, 1) by decide +kernel) (VB.lt hw (by omega)) (hw.2.2 3 (by decide)).2.1 (VB.inr hw (j := 3) (n := 40) (by decide) rfl h20) ?_
            obtain ⟨I21, eI21⟩ : ∃ I21 : zI, I21 = z_up I (w + (3 + 1)) (y17 - 1).toNatClampNeg (f_L_joined y11 (I (w + (3 + 1)) (y17 - 1).toNatClampNeg) (I (w + (3 + 1)) y17.toNatClampNeg)) := ⟨_, rfl⟩
            have k := k I21 eI21
            rw [← eI21]
            obtain ⟨y22, ey22⟩ : ∃ y22 : Int32, y22 = x4 + 1 := ⟨_, rfl⟩
            have k := k y22 ey22
            refine Ev_iinc (v := y22) (lo2 := [.ref w, .int x1, .int y17, .int x3, .int y22, .int y11]) hq_50 (show decode prog_3_method_3_code 195 = .ok (.iinc 4 1, 3) by decide +kernel) rfl (by rw [ey22]; rfl) rfl ?_
            refine Ev_goto (tgt := 42) hq_50 (show decode prog_3_method_3_code 198 = .ok (.goto (-156), 3) by decide +kernel) (by decide) ?_
            exact k
        · have k := k.2 (Classical.not_not.mp c14)
          refine Ev_iload_n hq_50 (show decode prog_3_method_3_code 136 = .ok (.iload_n 2, 1) by decide +kernel) rfl ?_
          refine Ev_if_le (tgt := 195) hq_50 (show decode prog_3_method_3_code 137 = .ok (.ifCond .le 58, 3) by decide +kernel) (by decide) (fun c23 => ?_) (fun c23 => ?_)
          · have k := k.1 c23
            obtain ⟨y24, ey24⟩ : ∃ y24 : Int32, y24 = x4 + 1 := ⟨_, rfl⟩
            have k := k y24 ey24
            refine Ev_iinc (v := y24) (lo2 := [.ref w, .int x1, .int x2, .int x3, .int y24, .int y11]) hq_50 (show decode prog_3_method_3_code 195 = .ok (.iinc 4 1, 3) by decide +kernel) rfl (by rw [ey24]; rfl) rfl ?_
            refine Ev_goto (tgt := 42) hq_50 (show decode prog_3_method_3_code 198 = .ok (.goto (-156), 3) by decide +kernel) (by decide) ?_
            exact k
          · have k := k.2 c23
            refine Ev_aload_n hq_50 (show decode prog_3_method_3_code 140 = .ok (.aload_n 0, 1) by decide +kernel) rfl ?_
            refine Ev_getR hq_50 (show decode prog_3_method_3_code 141 = .ok (.getfield 13, 3) by decide +kernel) rfl (VB.lt hw (by omega)) hw.2.1 (by decide) rfl (hw.2.2 3 (by decide)).1 ?_
            refine Ev_iload_n hq_50 (show decode prog_3_method_3_code 144 = .ok (.iload_n 2, 1) by decide +kernel) rfl ?_
            refine Ev_iconst (v := 1) hq_50 (show decode prog_3_method_3_code 145 = .ok (.iconst 1, 1) by decide +kernel) (by decide) ?_
            refine Ev_isub hq_50 (show decode prog_3_method_3_code 146 = .ok (.isub, 1) by decide +kernel) ?_
            refine Ev_aload_n hq_50 (show decode prog_3_method_3_code 147 = .ok (.aload_n 0, 1) by decide +kernel) rfl ?_
            refine Ev_getR hq_50 (show decode prog_3_method_3_code 148 = .ok (.getfield 13, 3) by decide +kernel) rfl (VB.lt hw (by omega)) hw.2.1 (by decide) rfl (hw.2.2 3 (by decide)).1 ?_
            refine Ev_iload_n hq_50 (show decode prog_3_method_3_code 151 = .ok (.iload_n 2, 1) by decide +kernel) rfl ?_
            refine Ev_iconst (v := 1) hq_50 (show decode prog_3_method_3_code 152 = .ok (.iconst 1, 1) by decide +kernel) (by decide) ?_
            refine Ev_isub hq_50 (show decode prog_3_method_3_code 153 = .ok (.isub, 1) by decide +kernel) ?_
            obtain ⟨h25, k⟩ := k
            refine Ev_iald hq_50 (show decode prog_3_method_3_code 154 = .ok (.iaload, 1) by decide +kernel) (VB.lt hw (by omega)) (hw.2.2 3 (by decide)).2.1 (VB.inr hw (j := 3) (n := 40) (by decide) rfl h25) ?_
            refine Ev_ineg hq_50 (show decode prog_3_method_3_code 155 = .ok (.ineg, 1) by decide +kernel) ?_
            obtain ⟨h26, k⟩ := k
            refine Ev_iast hq_50 (show decode prog_3_method_3_code 156 = .ok (.iastore, 1) by decide +kernel) (VB.lt hw (by omega)) (hw.2.2 3 (by decide)).2.1 (VB.inr hw (j := 3) (n := 40) (by decide) rfl h26) ?_
            obtain ⟨I27, eI27⟩ : ∃ I27 : zI, I27 = z_up I (w + (3 + 1)) (x2 - 1).toNatClampNeg (-(I (w + (3 + 1)) (x2 - 1).toNatClampNeg)) := ⟨_, rfl⟩
            have k := k I27 eI27
            rw [← eI27]
            refine Ev_goto (tgt := 195) hq_50 (show decode prog_3_method_3_code 157 = .ok (.goto 38, 3) by decide +kernel) (by decide) ?_
            obtain ⟨y28, ey28⟩ : ∃ y28 : Int32, y28 = x4 + 1 := ⟨_, rfl⟩
            have k := k y28 ey28
            refine Ev_iinc (v := y28) (lo2 := [.ref w, .int x1, .int x2, .int x3, .int y28, .int y11]) hq_50 (show decode prog_3_method_3_code 195 = .ok (.iinc 4 1, 3) by decide +kernel) rfl (by rw [ey28]; rfl) rfl ?_
            refine Ev_goto (tgt := 42) hq_50 (show decode prog_3_method_3_code 198 = .ok (.goto (-156), 3) by decide +kernel) (by decide) ?_
            exact k
      · have k := k.2 (Classical.not_not.mp c13)
        refine Ev_iload_n hq_50 (show decode prog_3_method_3_code 97 = .ok (.iload_n 2, 1) by decide +kernel) rfl ?_
        refine Ev_if_le (tgt := 195) hq_50 (show decode prog_3_method_3_code 98 = .ok (.ifCond .le 97, 3) by decide +kernel) (by decide) (fun c29 => ?_) (fun c29 => ?_)
        · have k := k.1 c29
          obtain ⟨y30, ey30⟩ : ∃ y30 : Int32, y30 = x4 + 1 := ⟨_, rfl⟩
          have k := k y30 ey30
          refine Ev_iinc (v := y30) (lo2 := [.ref w, .int x1, .int x2, .int x3, .int y30, .int y11]) hq_50 (show decode prog_3_method_3_code 195 = .ok (.iinc 4 1, 3) by decide +kernel) rfl (by rw [ey30]; rfl) rfl ?_
          refine Ev_goto (tgt := 42) hq_50 (show decode prog_3_method_3_code 198 = .ok (.goto (-156), 3) by decide +kernel) (by decide) ?_
          exact k
        · have k := k.2 c29
          refine Ev_aload_n hq_50 (show decode prog_3_method_3_code 101 = .ok (.aload_n 0, 1) by decide +kernel) rfl ?_
          refine Ev_getR hq_50 (show decode prog_3_method_3_code 102 = .ok (.getfield 13, 3) by decide +kernel) rfl (VB.lt hw (by omega)) hw.2.1 (by decide) rfl (hw.2.2 3 (by decide)).1 ?_
          refine Ev_iload_n hq_50 (show decode prog_3_method_3_code 105 = .ok (.iload_n 2, 1) by decide +kernel) rfl ?_
          refine Ev_iconst (v := 1) hq_50 (show decode prog_3_method_3_code 106 = .ok (.iconst 1, 1) by decide +kernel) (by decide) ?_
          refine Ev_isub hq_50 (show decode prog_3_method_3_code 107 = .ok (.isub, 1) by decide +kernel) ?_
          refine Ev_aload_n hq_50 (show decode prog_3_method_3_code 108 = .ok (.aload_n 0, 1) by decide +kernel) rfl ?_
          refine Ev_getR hq_50 (show decode prog_3_method_3_code 109 = .ok (.getfield 13, 3) by decide +kernel) rfl (VB.lt hw (by omega)) hw.2.1 (by decide) rfl (hw.2.2 3 (by decide)).1 ?_
          refine Ev_iload_n hq_50 (show decode prog_3_method_3_code 112 = .ok (.iload_n 2, 1) by decide +kernel) rfl ?_
          refine Ev_iconst (v := 1) hq_50 (show decode prog_3_method_3_code 113 = .ok (.iconst 1, 1) by decide +kernel) (by decide) ?_
          refine Ev_isub hq_50 (show decode prog_3_method_3_code 114 = .ok (.isub, 1) by decide +kernel) ?_
          obtain ⟨h31, k⟩ := k
          refine Ev_iald hq_50 (show decode prog_3_method_3_code 115 = .ok (.iaload, 1) by decide +kernel) (VB.lt hw (by omega)) (hw.2.2 3 (by decide)).2.1 (VB.inr hw (j := 3) (n := 40) (by decide) rfl h31) ?_
          refine Ev_if_ne (tgt := 123) hq_50 (show decode prog_3_method_3_code 116 = .ok (.ifCond .ne 7, 3) by decide +kernel) (by decide) (fun c32 => ?_) (fun c32 => ?_)
          · have k := k.1 c32
            refine Ev_iconst (v := 0) hq_50 (show decode prog_3_method_3_code 123 = .ok (.iconst 0, 1) by decide +kernel) (by decide) ?_
            obtain ⟨h33, k⟩ := k
            refine Ev_iast hq_50 (show decode prog_3_method_3_code 124 = .ok (.iastore, 1) by decide +kernel) (VB.lt hw (by omega)) (hw.2.2 3 (by decide)).2.1 (VB.inr hw (j := 3) (n := 40) (by decide) rfl h33) ?_
            obtain ⟨I34, eI34⟩ : ∃ I34 : zI, I34 = z_up I (w + (3 + 1)) (x2 - 1).toNatClampNeg 0 := ⟨_, rfl⟩
            have k := k I34 eI34
            rw [← eI34]
            refine Ev_goto (tgt := 195) hq_50 (show decode prog_3_method_3_code 125 = .ok (.goto 70, 3) by decide +kernel) (by decide) ?_
            obtain ⟨y35, ey35⟩ : ∃ y35 : Int32, y35 = x4 + 1 := ⟨_, rfl⟩
            have k := k y35 ey35
            refine Ev_iinc (v := y35) (lo2 := [.ref w, .int x1, .int x2, .int x3, .int y35, .int y11]) hq_50 (show decode prog_3_method_3_code 195 = .ok (.iinc 4 1, 3) by decide +kernel) rfl (by rw [ey35]; rfl) rfl ?_
            refine Ev_goto (tgt := 42) hq_50 (show decode prog_3_method_3_code 198 = .ok (.goto (-156), 3) by decide +kernel) (by decide) ?_
            exact k
          · have k := k.2 (Classical.not_not.mp c32)
            refine Ev_iconst (v := 1) hq_50 (show decode prog_3_method_3_code 119 = .ok (.iconst 1, 1) by decide +kernel) (by decide) ?_
            refine Ev_goto (tgt := 124) hq_50 (show decode prog_3_method_3_code 120 = .ok (.goto 4, 3) by decide +kernel) (by decide) ?_
            obtain ⟨h36, k⟩ := k
            refine Ev_iast hq_50 (show decode prog_3_method_3_code 124 = .ok (.iastore, 1) by decide +kernel) (VB.lt hw (by omega)) (hw.2.2 3 (by decide)).2.1 (VB.inr hw (j := 3) (n := 40) (by decide) rfl h36) ?_
            obtain ⟨I37, eI37⟩ : ∃ I37 : zI, I37 = z_up I (w + (3 + 1)) (x2 - 1).toNatClampNeg 1 := ⟨_, rfl⟩
            have k := k I37 eI37
            rw [← eI37]
            refine Ev_goto (tgt := 195) hq_50 (show decode prog_3_method_3_code 125 = .ok (.goto 70, 3) by decide +kernel) (by decide) ?_
            obtain ⟨y38, ey38⟩ : ∃ y38 : Int32, y38 = x4 + 1 := ⟨_, rfl⟩
            have k := k y38 ey38
            refine Ev_iinc (v := y38) (lo2 := [.ref w, .int x1, .int x2, .int x3, .int y38, .int y11]) hq_50 (show decode prog_3_method_3_code 195 = .ok (.iinc 4 1, 3) by decide +kernel) rfl (by rw [ey38]; rfl) rfl ?_
            refine Ev_goto (tgt := 42) hq_50 (show decode prog_3_method_3_code 198 = .ok (.goto (-156), 3) by decide +kernel) (by decide) ?_
            exact k
    · have k := k.2 c12
      refine Ev_iload_n hq_50 (show decode prog_3_method_3_code 65 = .ok (.iload_n 2, 1) by decide +kernel) rfl ?_
      refine Ev_bipush (v := 40) hq_50 (show decode prog_3_method_3_code 66 = .ok (.bipush 40, 2) by decide +kernel) (by decide) ?_
      refine Ev_icmp_ge (tgt := 195) hq_50 (show decode prog_3_method_3_code 68 = .ok (.if_icmp .ge 127, 3) by decide +kernel) (by decide) (fun c39 => ?_) (fun c39 => ?_)
      · have k := k.1 c39
        obtain ⟨y40, ey40⟩ : ∃ y40 : Int32, y40 = x4 + 1 := ⟨_, rfl⟩
        have k := k y40 ey40
        refine Ev_iinc (v := y40) (lo2 := [.ref w, .int x1, .int x2, .int x3, .int y40, .int y11]) hq_50 (show decode prog_3_method_3_code 195 = .ok (.iinc 4 1, 3) by decide +kernel) rfl (by rw [ey40]; rfl) rfl ?_
        refine Ev_goto (tgt := 42) hq_50 (show decode prog_3_method_3_code 198 = .ok (.goto (-156), 3) by decide +kernel) (by decide) ?_
        exact k
      · have k := k.2 c39
        refine Ev_aload_n hq_50 (show decode prog_3_method_3_code 71 = .ok (.aload_n 0, 1) by decide +kernel) rfl ?_
        refine Ev_getR hq_50 (show decode prog_3_method_3_code 72 = .ok (.getfield 13, 3) by decide +kernel) rfl (VB.lt hw (by omega)) hw.2.1 (by decide) rfl (hw.2.2 3 (by decide)).1 ?_
        refine Ev_iload_n hq_50 (show decode prog_3_method_3_code 75 = .ok (.iload_n 2, 1) by decide +kernel) rfl ?_
        obtain ⟨y41, ey41⟩ : ∃ y41 : Int32, y41 = x2 + 1 := ⟨_, rfl⟩
        have k := k y41 ey41
        refine Ev_iinc (v := y41) (lo2 := [.ref w, .int x1, .int y41, .int x3, .int x4, .int y11]) hq_50 (show decode prog_3_method_3_code 76 = .ok (.iinc 2 1, 3) by decide +kernel) rfl (by rw [ey41]; rfl) rfl ?_
        refine Ev_aload_n hq_50 (show decode prog_3_method_3_code 79 = .ok (.aload_n 0, 1) by decide +kernel) rfl ?_
        refine Ev_iload hq_50 (show decode prog_3_method_3_code 80 = .ok (.iload 5, 2) by decide +kernel) rfl ?_
        obtain ⟨r44, I42, h43, k⟩ := k
        refine Ev_virt (as := [.int y11]) hq_50 (show decode prog_3_method_3_code 82 = .ok (.invokevirtual 31, 3) by decide +kernel) rfl hq_51 rfl (z_le rfl) ⟨(VB.lt hw (by omega)), hw.2.1, by decide⟩ h43 ?_
        obtain ⟨h45, k⟩ := k
        refine Ev_iast hq_50 (show decode prog_3_method_3_code 85 = .ok (.iastore, 1) by decide +kernel) (VB.lt hw (by omega)) (hw.2.2 3 (by decide)).2.1 (VB.inr hw (j := 3) (n := 40) (by decide) rfl h45) ?_
        obtain ⟨I46, eI46⟩ : ∃ I46 : zI, I46 = z_up I42 (w + (3 + 1)) x2.toNatClampNeg r44 := ⟨_, rfl⟩
        have k := k I46 eI46
        rw [← eI46]
        refine Ev_goto (tgt := 195) hq_50 (show decode prog_3_method_3_code 86 = .ok (.goto 109, 3) by decide +kernel) (by decide) ?_
        obtain ⟨y47, ey47⟩ : ∃ y47 : Int32, y47 = x4 + 1 := ⟨_, rfl⟩
        have k := k y47 ey47
        refine Ev_iinc (v := y47) (lo2 := [.ref w, .int x1, .int y41, .int x3, .int y47, .int y11]) hq_50 (show decode prog_3_method_3_code 195 = .ok (.iinc 4 1, 3) by decide +kernel) rfl (by rw [ey47]; rfl) rfl ?_
        refine Ev_goto (tgt := 42) hq_50 (show decode prog_3_method_3_code 198 = .ok (.goto (-156), 3) by decide +kernel) (by decide) ?_
        exact k
set_option maxRecDepth 20000 in
theorem wp_H_enter {X : Nat × (Nat → Int32)} {d : Nat} {G : zG} {I : zI} {res : Option Value × zG × zI} (o : Nat) (x1 : Int32) (x2 : Int32) (x3 : Int32) (x4 : Int32) (ho : HH G o) 
    (k : ((I o 7) < 4 → z_inr (I o 7) 4 ∧ (∀ I3 : zI, I3 = z_up I (o + (0 + 1)) (I o 7).toNatClampNeg x1 → z_inr (I3 o 7) 4 ∧ (∀ I5 : zI, I5 = z_up I3 (o + (1 + 1)) (I3 o 7).toNatClampNeg x2 → z_inr (I5 o 7) 4 ∧ (∀ I7 : zI, I7 = z_up I5 (o + (2 + 1)) (I5 o 7).toNatClampNeg x3 → z_inr (I7 o 7) 4 ∧ (∀ I9 : zI, I9 = z_up I7 (o + (3 + 1)) (I7 o 7).toNatClampNeg x4 → z_inr (I9 o 7) 4 ∧ (∀ I11 : zI, I11 = z_up I9 (o + (4 + 1)) (I9 o 7).toNatClampNeg 0 → z_inr (I11 o 7) 4 ∧ (∀ I13 : zI, I13 = z_up I11 (o + (5 + 1)) (I11 o 7).toNatClampNeg 8 → z_inr (I13 o 7) 4 ∧ (∀ I15 : zI, I15 = z_up I13 (o + (6 + 1)) (I13 o 7).toNatClampNeg 1 → (∀ I16 : zI, I16 = z_up I15 o 7 ((I15 o 7) + 1) → res = (none, G, I16)))))))))) ∧ (¬ (I o 7) < 4 → res = (none, G, I))) :
    Ev X d 54 0 [.ref o, .int x1, .int x2, .int x3, .int x4] [] G I res := by
  refine Ev_aload_n hq_54 (show decode prog_2_method_3_code 0 = .ok (.aload_n 0, 1) by decide +kernel) rfl ?_
  refine Ev_getI hq_54 (show decode prog_2_method_3_code 1 = .ok (.getfield 33, 3) by decide +kernel) rfl (VB.lt ho (by omega)) ho.2.1 (by decide) rfl ?_
  refine Ev_iconst (v := 4) hq_54 (show decode prog_2_method_3_code 4 = .ok (.iconst 4, 1) by decide +kernel) (by decide) ?_
  refine Ev_icmp_lt (tgt := 9) hq_54 (show decode prog_2_method_3_code 5 = .ok (.if_icmp .lt 4, 3) by decide +kernel) (by decide) (fun c1 => ?_) (fun c1 => ?_)
  · have k := k.1 c1
    refine Ev_aload_n hq_54 (show decode prog_2_method_3_code 9 = .ok (.aload_n 0, 1) by decide +kernel) rfl ?_
    refine Ev_getR hq_54 (show decode prog_2_method_3_code 10 = .ok (.getfield 9, 3) by decide +kernel) rfl (VB.lt ho (by omega)) ho.2.1 (by decide) rfl (ho.2.2 0 (by decide)).1 ?_
    refine Ev_aload_n hq_54 (show decode prog_2_method_3_code 13 = .ok (.aload_n 0, 1) by decide +kernel) rfl ?_
    refine Ev_getI hq_54 (show decode prog_2_method_3_code 14 = .ok (.getfield 33, 3) by decide +kernel) rfl (VB.lt ho (by omega)) ho.2.1 (by decide) rfl ?_
    refine Ev_iload_n hq_54 (show decode prog_2_method_3_code 17 = .ok (.iload_n 1, 1) by decide +kernel) rfl ?_
    obtain ⟨h2, k⟩ := k
    refine Ev_iast hq_54 (show decode prog_2_method_3_code 18 = .ok (.iastore, 1) by decide +kernel) (VB.lt ho (by omega)) (ho.2.2 0 (by decide)).2.1 (VB.inr ho (j := 0) (n := 4) (by decide) rfl h2) ?_
    obtain ⟨I3, eI3⟩ : ∃ I3 : zI, I3 = z_up I (o + (0 + 1)) (I o 7).toNatClampNeg x1 := ⟨_, rfl⟩
    have k := k I3 eI3
    rw [← eI3]
    refine Ev_aload_n hq_54 (show decode prog_2_method_3_code 19 = .ok (.aload_n 0, 1) by decide +kernel) rfl ?_
    refine Ev_getR hq_54 (show decode prog_2_method_3_code 20 = .ok (.getfield 15, 3) by decide +kernel) rfl (VB.lt ho (by omega)) ho.2.1 (by decide) rfl (ho.2.2 1 (by decide)).1 ?_
    refine Ev_aload_n hq_54 (show decode prog_2_method_3_code 23 = .ok (.aload_n 0, 1) by decide +kernel) rfl ?_
    refine Ev_getI hq_54 (show decode prog_2_method_3_code 24 = .ok (.getfield 33, 3) by decide +kernel) rfl (VB.lt ho (by omega)) ho.2.1 (by decide) rfl ?_
    refine Ev_iload_n hq_54 (show decode prog_2_method_3_code 27 = .ok (.iload_n 2, 1) by decide +kernel) rfl ?_
    obtain ⟨h4, k⟩ := k
    refine Ev_iast hq_54 (show decode prog_2_method_3_code 28 = .ok (.iastore, 1) by decide +kernel) (VB.lt ho (by omega)) (ho.2.2 1 (by decide)).2.1 (VB.inr ho (j := 1) (n := 4) (by decide) rfl h4) ?_
    obtain ⟨I5, eI5⟩ : ∃ I5 : zI, I5 = z_up I3 (o + (1 + 1)) (I3 o 7).toNatClampNeg x2 := ⟨_, rfl⟩
    have k := k I5 eI5
    rw [← eI5]
    refine Ev_aload_n hq_54 (show decode prog_2_method_3_code 29 = .ok (.aload_n 0, 1) by decide +kernel) rfl ?_
    refine Ev_getR hq_54 (show decode prog_2_method_3_code 30 = .ok (.getfield 18, 3) by decide +kernel) rfl (VB.lt ho (by omega)) ho.2.1 (by decide) rfl (ho.2.2 2 (by decide)).1 ?_
    refine Ev_aload_n hq_54 (show decode prog_2_method_3_code 33 = .ok (.aload_n 0, 1) by decide +kernel) rfl ?_
    refine Ev_getI hq_54 (show decode prog_2_method_3_code 34 = .ok (.getfield 33, 3) by decide +kernel) rfl (VB.lt ho (by omega)) ho.2.1 (by decide) rfl ?_
    refine Ev_iload_n hq_54 (show decode prog_2_method_3_code 37 = .ok (.iload_n 3, 1) by decide +kernel) rfl ?_
    obtain ⟨h6, k⟩ := k
    refine Ev_iast hq_54 (show decode prog_2_method_3_code 38 = .ok (.iastore, 1) by decide +kernel) (VB.lt ho (by omega)) (ho.2.2 2 (by decide)).2.1 (VB.inr ho (j := 2) (n := 4) (by decide) rfl h6) ?_
    obtain ⟨I7, eI7⟩ : ∃ I7 : zI, I7 = z_up I5 (o + (2 + 1)) (I5 o 7).toNatClampNeg x3 := ⟨_, rfl⟩
    have k := k I7 eI7
    rw [← eI7]
    refine Ev_aload_n hq_54 (show decode prog_2_method_3_code 39 = .ok (.aload_n 0, 1) by decide +kernel) rfl ?_
    refine Ev_getR hq_54 (show decode prog_2_method_3_code 40 = .ok (.getfield 21, 3) by decide +kernel) rfl (VB.lt ho (by omega)) ho.2.1 (by decide) rfl (ho.2.2 3 (by decide)).1 ?_
    refine Ev_aload_n hq_54 (show decode prog_2_method_3_code 43 = .ok (.aload_n 0, 1) by decide +kernel) rfl ?_
    refine Ev_getI hq_54 (show decode prog_2_method_3_code 44 = .ok (.getfield 33, 3) by decide +kernel) rfl (VB.lt ho (by omega)) ho.2.1 (by decide) rfl ?_
    refine Ev_iload hq_54 (show decode prog_2_method_3_code 47 = .ok (.iload 4, 2) by decide +kernel) rfl ?_
    obtain ⟨h8, k⟩ := k
    refine Ev_iast hq_54 (show decode prog_2_method_3_code 49 = .ok (.iastore, 1) by decide +kernel) (VB.lt ho (by omega)) (ho.2.2 3 (by decide)).2.1 (VB.inr ho (j := 3) (n := 4) (by decide) rfl h8) ?_
    obtain ⟨I9, eI9⟩ : ∃ I9 : zI, I9 = z_up I7 (o + (3 + 1)) (I7 o 7).toNatClampNeg x4 := ⟨_, rfl⟩
    have k := k I9 eI9
    rw [← eI9]
    refine Ev_aload_n hq_54 (show decode prog_2_method_3_code 50 = .ok (.aload_n 0, 1) by decide +kernel) rfl ?_
    refine Ev_getR hq_54 (show decode prog_2_method_3_code 51 = .ok (.getfield 24, 3) by decide +kernel) rfl (VB.lt ho (by omega)) ho.2.1 (by decide) rfl (ho.2.2 4 (by decide)).1 ?_
    refine Ev_aload_n hq_54 (show decode prog_2_method_3_code 54 = .ok (.aload_n 0, 1) by decide +kernel) rfl ?_
    refine Ev_getI hq_54 (show decode prog_2_method_3_code 55 = .ok (.getfield 33, 3) by decide +kernel) rfl (VB.lt ho (by omega)) ho.2.1 (by decide) rfl ?_
    refine Ev_iconst (v := 0) hq_54 (show decode prog_2_method_3_code 58 = .ok (.iconst 0, 1) by decide +kernel) (by decide) ?_
    obtain ⟨h10, k⟩ := k
    refine Ev_iast hq_54 (show decode prog_2_method_3_code 59 = .ok (.iastore, 1) by decide +kernel) (VB.lt ho (by omega)) (ho.2.2 4 (by decide)).2.1 (VB.inr ho (j := 4) (n := 4) (by decide) rfl h10) ?_
    obtain ⟨I11, eI11⟩ : ∃ I11 : zI, I11 = z_up I9 (o + (4 + 1)) (I9 o 7).toNatClampNeg 0 := ⟨_, rfl⟩
    have k := k I11 eI11
    rw [← eI11]
    refine Ev_aload_n hq_54 (show decode prog_2_method_3_code 60 = .ok (.aload_n 0, 1) by decide +kernel) rfl ?_
    refine Ev_getR hq_54 (show decode prog_2_method_3_code 61 = .ok (.getfield 27, 3) by decide +kernel) rfl (VB.lt ho (by omega)) ho.2.1 (by decide) rfl (ho.2.2 5 (by decide)).1 ?_
    refine Ev_aload_n hq_54 (show decode prog_2_method_3_code 64 = .ok (.aload_n 0, 1) by decide +kernel) rfl ?_
    refine Ev_getI hq_54 (show decode prog_2_method_3_code 65 = .ok (.getfield 33, 3) by decide +kernel) rfl (VB.lt ho (by omega)) ho.2.1 (by decide) rfl ?_
    refine Ev_bipush (v := 8) hq_54 (show decode prog_2_method_3_code 68 = .ok (.bipush 8, 2) by decide +kernel) (by decide) ?_
    obtain ⟨h12, k⟩ := k
    refine Ev_iast hq_54 (show decode prog_2_method_3_code 70 = .ok (.iastore, 1) by decide +kernel) (VB.lt ho (by omega)) (ho.2.2 5 (by decide)).2.1 (VB.inr ho (j := 5) (n := 4) (by decide) rfl h12) ?_
    obtain ⟨I13, eI13⟩ : ∃ I13 : zI, I13 = z_up I11 (o + (5 + 1)) (I11 o 7).toNatClampNeg 8 := ⟨_, rfl⟩
    have k := k I13 eI13
    rw [← eI13]
    refine Ev_aload_n hq_54 (show decode prog_2_method_3_code 71 = .ok (.aload_n 0, 1) by decide +kernel) rfl ?_
    refine Ev_getR hq_54 (show decode prog_2_method_3_code 72 = .ok (.getfield 30, 3) by decide +kernel) rfl (VB.lt ho (by omega)) ho.2.1 (by decide) rfl (ho.2.2 6 (by decide)).1 ?_
    refine Ev_aload_n hq_54 (show decode prog_2_method_3_code 75 = .ok (.aload_n 0, 1) by decide +kernel) rfl ?_
    refine Ev_getI hq_54 (show decode prog_2_method_3_code 76 = .ok (.getfield 33, 3) by decide +kernel) rfl (VB.lt ho (by omega)) ho.2.1 (by decide) rfl ?_
    refine Ev_iconst (v := 1) hq_54 (show decode prog_2_method_3_code 79 = .ok (.iconst 1, 1) by decide +kernel) (by decide) ?_
    obtain ⟨h14, k⟩ := k
    refine Ev_iast hq_54 (show decode prog_2_method_3_code 80 = .ok (.iastore, 1) by decide +kernel) (VB.lt ho (by omega)) (ho.2.2 6 (by decide)).2.1 (VB.inr ho (j := 6) (n := 4) (by decide) rfl h14) ?_
    obtain ⟨I15, eI15⟩ : ∃ I15 : zI, I15 = z_up I13 (o + (6 + 1)) (I13 o 7).toNatClampNeg 1 := ⟨_, rfl⟩
    have k := k I15 eI15
    rw [← eI15]
    refine Ev_aload_n hq_54 (show decode prog_2_method_3_code 81 = .ok (.aload_n 0, 1) by decide +kernel) rfl ?_
    refine Ev_dup hq_54 (show decode prog_2_method_3_code 82 = .ok (.dup, 1) by decide +kernel) rfl ?_
    refine Ev_getI hq_54 (show decode prog_2_method_3_code 83 = .ok (.getfield 33, 3) by decide +kernel) rfl (VB.lt ho (by omega)) ho.2.1 (by decide) rfl ?_
    refine Ev_iconst (v := 1) hq_54 (show decode prog_2_method_3_code 86 = .ok (.iconst 1, 1) by decide +kernel) (by decide) ?_
    refine Ev_iadd hq_54 (show decode prog_2_method_3_code 87 = .ok (.iadd, 1) by decide +kernel) ?_
    refine Ev_putI hq_54 (show decode prog_2_method_3_code 88 = .ok (.putfield 33, 3) by decide +kernel) rfl (VB.lt ho (by omega)) ho.2.1 (by decide) (by decide) rfl (fun hz => by cases hz) ?_
    obtain ⟨I16, eI16⟩ : ∃ I16 : zI, I16 = z_up I15 o 7 ((I15 o 7) + 1) := ⟨_, rfl⟩
    have k := k I16 eI16
    rw [← eI16]
    exact Ev_vret hq_54 (show decode prog_2_method_3_code 91 = .ok (.return_, 1) by decide +kernel) k
  · have k := k.2 c1
    exact Ev_vret hq_54 (show decode prog_2_method_3_code 8 = .ok (.return_, 1) by decide +kernel) k
set_option maxRecDepth 20000 in
theorem wp_T_shower {X : Nat × (Nat → Int32)} {d : Nat} {G : zG} {I : zI} {res : Option Value × zG × zI} (x1 : Int32) (x2 : Int32) (x3 : Int32) (hd : 1 ≤ d) (hS : SG G) 
    (k : ((f_T_within x1 0 59) = 0 → res = (some (.int (-2)), G, I)) ∧ (¬ (f_T_within x1 0 59) = 0 → ((f_T_within x2 0 4) = 0 → res = (some (.int (-2)), G, I)) ∧ (¬ (f_T_within x2 0 4) = 0 → (¬ (f_T_isWarm x3) = 0 → ((I 1 7) < 4 → ∃ (I5 : zI), Cv X d 54 [.ref 1, .int (x1 / 10), .int (x1 - x1 / 10 * 10), .int x2, .int x3] G I (none, G, I5) ∧ (res = (some (.int ((I5 1 7) - 1)), G, I5))) ∧ (¬ (I 1 7) < 4 → res = (some (.int (-4)), G, I))) ∧ ((f_T_isWarm x3) = 0 → res = (some (.int (-2)), G, I))))) :
    Ev X (d + 1) 53 0 [.ref 0, .int x1, .int x2, .int x3] [] G I res := by
  refine Ev_iload_n hq_53 (show decode prog_1_method_10_code 0 = .ok (.iload_n 1, 1) by decide +kernel) rfl ?_
  refine Ev_iconst (v := 0) hq_53 (show decode prog_1_method_10_code 1 = .ok (.iconst 0, 1) by decide +kernel) (by decide) ?_
  refine Ev_bipush (v := 59) hq_53 (show decode prog_1_method_10_code 2 = .ok (.bipush 59, 2) by decide +kernel) (by decide) ?_
  refine Ev_stat (as := [.int x1, .int 0, .int 59]) hq_53 (show decode prog_1_method_10_code 4 = .ok (.invokestatic 108, 3) by decide +kernel) rfl (Or.inl rfl) hq_32 rfl (z_le rfl) (c_T_within x1 0 59) ?_
  refine Ev_if_eq (tgt := 26) hq_53 (show decode prog_1_method_10_code 7 = .ok (.ifCond .eq 19, 3) by decide +kernel) (by decide) (fun c1 => ?_) (fun c1 => ?_)
  · have k := k.1 c1
    refine Ev_bipush (v := (-2)) hq_53 (show decode prog_1_method_10_code 26 = .ok (.bipush (-2), 2) by decide +kernel) (by decide) ?_
    exact Ev_iret hq_53 (show decode prog_1_method_10_code 28 = .ok (.ireturn, 1) by decide +kernel) rfl k
  · have k := k.2 c1
    refine Ev_iload_n hq_53 (show decode prog_1_method_10_code 10 = .ok (.iload_n 2, 1) by decide +kernel) rfl ?_
    refine Ev_iconst (v := 0) hq_53 (show decode prog_1_method_10_code 11 = .ok (.iconst 0, 1) by decide +kernel) (by decide) ?_
    refine Ev_iconst (v := 4) hq_53 (show decode prog_1_method_10_code 12 = .ok (.iconst 4, 1) by decide +kernel) (by decide) ?_
    refine Ev_stat (as := [.int x2, .int 0, .int 4]) hq_53 (show decode prog_1_method_10_code 13 = .ok (.invokestatic 108, 3) by decide +kernel) rfl (Or.inl rfl) hq_32 rfl (z_le rfl) (c_T_within x2 0 4) ?_
    refine Ev_if_eq (tgt := 26) hq_53 (show decode prog_1_method_10_code 16 = .ok (.ifCond .eq 10, 3) by decide +kernel) (by decide) (fun c2 => ?_) (fun c2 => ?_)
    · have k := k.1 c2
      refine Ev_bipush (v := (-2)) hq_53 (show decode prog_1_method_10_code 26 = .ok (.bipush (-2), 2) by decide +kernel) (by decide) ?_
      exact Ev_iret hq_53 (show decode prog_1_method_10_code 28 = .ok (.ireturn, 1) by decide +kernel) rfl k
    · have k := k.2 c2
      refine Ev_iload_n hq_53 (show decode prog_1_method_10_code 19 = .ok (.iload_n 3, 1) by decide +kernel) rfl ?_
      refine Ev_stat (as := [.int x3]) hq_53 (show decode prog_1_method_10_code 20 = .ok (.invokestatic 124, 3) by decide +kernel) rfl (Or.inl rfl) hq_46 rfl (z_le rfl) (c_T_isWarm (by omega) x3) ?_
      refine Ev_if_ne (tgt := 29) hq_53 (show decode prog_1_method_10_code 23 = .ok (.ifCond .ne 6, 3) by decide +kernel) (by decide) (fun c3 => ?_) (fun c3 => ?_)
      · have k := k.1 c3
        refine Ev_aload_n hq_53 (show decode prog_1_method_10_code 29 = .ok (.aload_n 0, 1) by decide +kernel) rfl ?_
        refine Ev_getR hq_53 (show decode prog_1_method_10_code 30 = .ok (.getfield 10, 3) by decide +kernel) rfl (SGn hS (by decide)) (SGk hS rfl) (by decide) rfl (SGr hS rfl) ?_
        refine Ev_getI hq_53 (show decode prog_1_method_10_code 33 = .ok (.getfield 100, 3) by decide +kernel) rfl (SGn hS (by decide)) (SGk hS rfl) (by decide) rfl ?_
        refine Ev_iconst (v := 4) hq_53 (show decode prog_1_method_10_code 36 = .ok (.iconst 4, 1) by decide +kernel) (by decide) ?_
        refine Ev_icmp_lt (tgt := 43) hq_53 (show decode prog_1_method_10_code 37 = .ok (.if_icmp .lt 6, 3) by decide +kernel) (by decide) (fun c4 => ?_) (fun c4 => ?_)
        · have k := k.1 c4
          refine Ev_aload_n hq_53 (show decode prog_1_method_10_code 43 = .ok (.aload_n 0, 1) by decide +kernel) rfl ?_
          refine Ev_getR hq_53 (show decode prog_1_method_10_code 44 = .ok (.getfield 10, 3) by decide +kernel) rfl (SGn hS (by decide)) (SGk hS rfl) (by decide) rfl (SGr hS rfl) ?_
          refine Ev_iload_n hq_53 (show decode prog_1_method_10_code 47 = .ok (.iload_n 1, 1) by decide +kernel) rfl ?_
          refine Ev_bipush (v := 10) hq_53 (show decode prog_1_method_10_code 48 = .ok (.bipush 10, 2) by decide +kernel) (by decide) ?_
          refine Ev_idiv hq_53 (show decode prog_1_method_10_code 50 = .ok (.idiv, 1) by decide +kernel) (by decide) ?_
          refine Ev_iload_n hq_53 (show decode prog_1_method_10_code 51 = .ok (.iload_n 1, 1) by decide +kernel) rfl ?_
          refine Ev_bipush (v := 10) hq_53 (show decode prog_1_method_10_code 52 = .ok (.bipush 10, 2) by decide +kernel) (by decide) ?_
          refine Ev_irem hq_53 (show decode prog_1_method_10_code 54 = .ok (.irem, 1) by decide +kernel) (by decide) ?_
          refine Ev_iload_n hq_53 (show decode prog_1_method_10_code 55 = .ok (.iload_n 2, 1) by decide +kernel) rfl ?_
          refine Ev_iload_n hq_53 (show decode prog_1_method_10_code 56 = .ok (.iload_n 3, 1) by decide +kernel) rfl ?_
          obtain ⟨I5, h6, k⟩ := k
          refine Ev_virt (as := [.int (x1 / 10), .int (x1 - x1 / 10 * 10), .int x2, .int x3]) hq_53 (show decode prog_1_method_10_code 57 = .ok (.invokevirtual 148, 3) by decide +kernel) rfl hq_54 rfl (z_le rfl) ⟨(SGn hS (by decide)), (SGk hS rfl), by decide⟩ h6 ?_
          refine Ev_aload_n hq_53 (show decode prog_1_method_10_code 60 = .ok (.aload_n 0, 1) by decide +kernel) rfl ?_
          refine Ev_getR hq_53 (show decode prog_1_method_10_code 61 = .ok (.getfield 10, 3) by decide +kernel) rfl (SGn hS (by decide)) (SGk hS rfl) (by decide) rfl (SGr hS rfl) ?_
          refine Ev_getI hq_53 (show decode prog_1_method_10_code 64 = .ok (.getfield 100, 3) by decide +kernel) rfl (SGn hS (by decide)) (SGk hS rfl) (by decide) rfl ?_
          refine Ev_iconst (v := 1) hq_53 (show decode prog_1_method_10_code 67 = .ok (.iconst 1, 1) by decide +kernel) (by decide) ?_
          refine Ev_isub hq_53 (show decode prog_1_method_10_code 68 = .ok (.isub, 1) by decide +kernel) ?_
          exact Ev_iret hq_53 (show decode prog_1_method_10_code 69 = .ok (.ireturn, 1) by decide +kernel) rfl k
        · have k := k.2 c4
          refine Ev_bipush (v := (-4)) hq_53 (show decode prog_1_method_10_code 40 = .ok (.bipush (-4), 2) by decide +kernel) (by decide) ?_
          exact Ev_iret hq_53 (show decode prog_1_method_10_code 42 = .ok (.ireturn, 1) by decide +kernel) rfl k
      · have k := k.2 (Classical.not_not.mp c3)
        refine Ev_bipush (v := (-2)) hq_53 (show decode prog_1_method_10_code 26 = .ok (.bipush (-2), 2) by decide +kernel) (by decide) ?_
        exact Ev_iret hq_53 (show decode prog_1_method_10_code 28 = .ok (.ireturn, 1) by decide +kernel) rfl k
set_option maxRecDepth 20000 in
theorem wp_T_mostOf {X : Nat × (Nat → Int32)} {d : Nat} {G : zG} {I : zI} {res : Option Value × zG × zI} (x0 : Int32) 
    (k : (x0 = 0 → res = (some (.int 4), G, I)) ∧ (¬ x0 = 0 → (x0 = 1 → res = (some (.int 999), G, I)) ∧ (¬ x0 = 1 → (x0 = 2 → res = (some (.int 999), G, I)) ∧ (¬ x0 = 2 → (x0 = 3 → res = (some (.int 16), G, I)) ∧ (¬ x0 = 3 → (x0 = 4 → res = (some (.int 1), G, I)) ∧ (¬ x0 = 4 → res = (some (.int 999), G, I))))))) :
    Ev X d 56 0 [.int x0] [] G I res := by
  refine Ev_iload_n hq_56 (show decode prog_1_method_12_code 0 = .ok (.iload_n 0, 1) by decide +kernel) rfl ?_
  by_cases c1 : x0 = 0
  · have k := k.1 c1
    refine Ev_tableIn (off := 35) (tgt := 36) hq_56 (show decode prog_1_method_12_code 1 = .ok (.tableswitch 42 0 4 #[35, 42, 42, 37, 40], 35) by decide +kernel) (by rw [c1]; decide) (by rw [c1]; decide) (by rw [c1]; decide) (by decide) ?_
    refine Ev_iconst (v := 4) hq_56 (show decode prog_1_method_12_code 36 = .ok (.iconst 4, 1) by decide +kernel) (by decide) ?_
    exact Ev_iret hq_56 (show decode prog_1_method_12_code 37 = .ok (.ireturn, 1) by decide +kernel) rfl k
  have k := k.2 c1
  by_cases c2 : x0 = 1
  · have k := k.1 c2
    refine Ev_tableIn (off := 42) (tgt := 43) hq_56 (show decode prog_1_method_12_code 1 = .ok (.tableswitch 42 0 4 #[35, 42, 42, 37, 40], 35) by decide +kernel) (by rw [c2]; decide) (by rw [c2]; decide) (by rw [c2]; decide) (by decide) ?_
    refine Ev_sipush (v := 999) hq_56 (show decode prog_1_method_12_code 43 = .ok (.sipush 999, 3) by decide +kernel) (by decide) ?_
    exact Ev_iret hq_56 (show decode prog_1_method_12_code 46 = .ok (.ireturn, 1) by decide +kernel) rfl k
  have k := k.2 c2
  by_cases c3 : x0 = 2
  · have k := k.1 c3
    refine Ev_tableIn (off := 42) (tgt := 43) hq_56 (show decode prog_1_method_12_code 1 = .ok (.tableswitch 42 0 4 #[35, 42, 42, 37, 40], 35) by decide +kernel) (by rw [c3]; decide) (by rw [c3]; decide) (by rw [c3]; decide) (by decide) ?_
    refine Ev_sipush (v := 999) hq_56 (show decode prog_1_method_12_code 43 = .ok (.sipush 999, 3) by decide +kernel) (by decide) ?_
    exact Ev_iret hq_56 (show decode prog_1_method_12_code 46 = .ok (.ireturn, 1) by decide +kernel) rfl k
  have k := k.2 c3
  by_cases c4 : x0 = 3
  · have k := k.1 c4
    refine Ev_tableIn (off := 37) (tgt := 38) hq_56 (show decode prog_1_method_12_code 1 = .ok (.tableswitch 42 0 4 #[35, 42, 42, 37, 40], 35) by decide +kernel) (by rw [c4]; decide) (by rw [c4]; decide) (by rw [c4]; decide) (by decide) ?_
    refine Ev_bipush (v := 16) hq_56 (show decode prog_1_method_12_code 38 = .ok (.bipush 16, 2) by decide +kernel) (by decide) ?_
    exact Ev_iret hq_56 (show decode prog_1_method_12_code 40 = .ok (.ireturn, 1) by decide +kernel) rfl k
  have k := k.2 c4
  by_cases c5 : x0 = 4
  · have k := k.1 c5
    refine Ev_tableIn (off := 40) (tgt := 41) hq_56 (show decode prog_1_method_12_code 1 = .ok (.tableswitch 42 0 4 #[35, 42, 42, 37, 40], 35) by decide +kernel) (by rw [c5]; decide) (by rw [c5]; decide) (by rw [c5]; decide) (by decide) ?_
    refine Ev_iconst (v := 1) hq_56 (show decode prog_1_method_12_code 41 = .ok (.iconst 1, 1) by decide +kernel) (by decide) ?_
    exact Ev_iret hq_56 (show decode prog_1_method_12_code 42 = .ok (.ireturn, 1) by decide +kernel) rfl k
  have k := k.2 c5
  have ec1 : (x0).toInt ≠ 0 := z_ne (k := 0) c1
  have ec2 : (x0).toInt ≠ 1 := z_ne (k := 1) c2
  have ec3 : (x0).toInt ≠ 2 := z_ne (k := 2) c3
  have ec4 : (x0).toInt ≠ 3 := z_ne (k := 3) c4
  have ec5 : (x0).toInt ≠ 4 := z_ne (k := 4) c5
  refine Ev_tableOut (tgt := 43) hq_56 (show decode prog_1_method_12_code 1 = .ok (.tableswitch 42 0 4 #[35, 42, 42, 37, 40], 35) by decide +kernel) (by omega) (by decide) ?_
  refine Ev_sipush (v := 999) hq_56 (show decode prog_1_method_12_code 43 = .ok (.sipush 999, 3) by decide +kernel) (by decide) ?_
  exact Ev_iret hq_56 (show decode prog_1_method_12_code 46 = .ok (.ireturn, 1) by decide +kernel) rfl k
def f_T_mostOf (x0 : Int32) : Int32 := (if x0 = 0 then 4 else (if x0 = 1 then 999 else (if x0 = 2 then 999 else (if x0 = 3 then 16 else (if x0 = 4 then 1 else 999)))))
theorem c_T_mostOf {X : Nat × (Nat → Int32)} {d : Nat} {G : zG} {I : zI} (x0 : Int32) : Cv X d 56 [.int x0] G I (some (.int (f_T_mostOf x0)), G, I) := by
  exact Cv.of hq_56 (z_le rfl) rfl (wp_T_mostOf x0 ⟨fun h0 => (by simp only [f_T_mostOf]; rw [if_pos h0]), fun h0 => ⟨fun h1 => (by simp only [f_T_mostOf]; rw [if_neg h0]; rw [if_pos h1]), fun h1 => ⟨fun h2 => (by simp only [f_T_mostOf]; rw [if_neg h0]; rw [if_neg h1]; rw [if_pos h2]), fun h2 => ⟨fun h3 => (by simp only [f_T_mostOf]; rw [if_neg h0]; rw [if_neg h1]; rw [if_neg h2]; rw [if_pos h3]), fun h3 => ⟨fun h4 => (by simp only [f_T_mostOf]; rw [if_neg h0]; rw [if_neg h1]; rw [if_neg h2]; rw [if_neg h3]; rw [if_pos h4]), fun h4 => (by simp only [f_T_mostOf]; rw [if_neg h0]; rw [if_neg h1]; rw [if_neg h2]; rw [if_neg h3]; rw [if_neg h4])⟩⟩⟩⟩⟩)
set_option maxRecDepth 20000 in
theorem wp_H_numberOf {X : Nat × (Nat → Int32)} {d : Nat} {G : zG} {I : zI} {res : Option Value × zG × zI} (o : Nat) (x1 : Int32) (x2 : Int32) (ho : HH G o) 
    (k : (x2 = 0 → z_inr x1 4 ∧ (res = (some (.int (I (o + (2 + 1)) x1.toNatClampNeg)), G, I))) ∧ (¬ x2 = 0 → (x2 = 1 → z_inr x1 4 ∧ (res = (some (.int (I (o + (3 + 1)) x1.toNatClampNeg)), G, I))) ∧ (¬ x2 = 1 → (x2 = 2 → z_inr x1 4 ∧ (res = (some (.int (I (o + (4 + 1)) x1.toNatClampNeg)), G, I))) ∧ (¬ x2 = 2 → (x2 = 3 → z_inr x1 4 ∧ (res = (some (.int (I (o + (5 + 1)) x1.toNatClampNeg)), G, I))) ∧ (¬ x2 = 3 → z_inr x1 4 ∧ (res = (some (.int (I (o + (6 + 1)) x1.toNatClampNeg)), G, I))))))) :
    Ev X d 57 0 [.ref o, .int x1, .int x2] [] G I res := by
  refine Ev_iload_n hq_57 (show decode prog_2_method_4_code 0 = .ok (.iload_n 2, 1) by decide +kernel) rfl ?_
  by_cases c1 : x2 = 0
  · have k := k.1 c1
    refine Ev_tableIn (off := 31) (tgt := 32) hq_57 (show decode prog_2_method_4_code 1 = .ok (.tableswitch 59 0 3 #[31, 38, 45, 52], 31) by decide +kernel) (by rw [c1]; decide) (by rw [c1]; decide) (by rw [c1]; decide) (by decide) ?_
    refine Ev_aload_n hq_57 (show decode prog_2_method_4_code 32 = .ok (.aload_n 0, 1) by decide +kernel) rfl ?_
    refine Ev_getR hq_57 (show decode prog_2_method_4_code 33 = .ok (.getfield 18, 3) by decide +kernel) rfl (VB.lt ho (by omega)) ho.2.1 (by decide) rfl (ho.2.2 2 (by decide)).1 ?_
    refine Ev_iload_n hq_57 (show decode prog_2_method_4_code 36 = .ok (.iload_n 1, 1) by decide +kernel) rfl ?_
    obtain ⟨h2, k⟩ := k
    refine Ev_iald hq_57 (show decode prog_2_method_4_code 37 = .ok (.iaload, 1) by decide +kernel) (VB.lt ho (by omega)) (ho.2.2 2 (by decide)).2.1 (VB.inr ho (j := 2) (n := 4) (by decide) rfl h2) ?_
    exact Ev_iret hq_57 (show decode prog_2_method_4_code 38 = .ok (.ireturn, 1) by decide +kernel) rfl k
  have k := k.2 c1
  by_cases c3 : x2 = 1
  · have k := k.1 c3
    refine Ev_tableIn (off := 38) (tgt := 39) hq_57 (show decode prog_2_method_4_code 1 = .ok (.tableswitch 59 0 3 #[31, 38, 45, 52], 31) by decide +kernel) (by rw [c3]; decide) (by rw [c3]; decide) (by rw [c3]; decide) (by decide) ?_
    refine Ev_aload_n hq_57 (show decode prog_2_method_4_code 39 = .ok (.aload_n 0, 1) by decide +kernel) rfl ?_
    refine Ev_getR hq_57 (show decode prog_2_method_4_code 40 = .ok (.getfield 21, 3) by decide +kernel) rfl (VB.lt ho (by omega)) ho.2.1 (by decide) rfl (ho.2.2 3 (by decide)).1 ?_
    refine Ev_iload_n hq_57 (show decode prog_2_method_4_code 43 = .ok (.iload_n 1, 1) by decide +kernel) rfl ?_
    obtain ⟨h4, k⟩ := k
    refine Ev_iald hq_57 (show decode prog_2_method_4_code 44 = .ok (.iaload, 1) by decide +kernel) (VB.lt ho (by omega)) (ho.2.2 3 (by decide)).2.1 (VB.inr ho (j := 3) (n := 4) (by decide) rfl h4) ?_
    exact Ev_iret hq_57 (show decode prog_2_method_4_code 45 = .ok (.ireturn, 1) by decide +kernel) rfl k
  have k := k.2 c3
  by_cases c5 : x2 = 2
  · have k := k.1 c5
    refine Ev_tableIn (off := 45) (tgt := 46) hq_57 (show decode prog_2_method_4_code 1 = .ok (.tableswitch 59 0 3 #[31, 38, 45, 52], 31) by decide +kernel) (by rw [c5]; decide) (by rw [c5]; decide) (by rw [c5]; decide) (by decide) ?_
    refine Ev_aload_n hq_57 (show decode prog_2_method_4_code 46 = .ok (.aload_n 0, 1) by decide +kernel) rfl ?_
    refine Ev_getR hq_57 (show decode prog_2_method_4_code 47 = .ok (.getfield 24, 3) by decide +kernel) rfl (VB.lt ho (by omega)) ho.2.1 (by decide) rfl (ho.2.2 4 (by decide)).1 ?_
    refine Ev_iload_n hq_57 (show decode prog_2_method_4_code 50 = .ok (.iload_n 1, 1) by decide +kernel) rfl ?_
    obtain ⟨h6, k⟩ := k
    refine Ev_iald hq_57 (show decode prog_2_method_4_code 51 = .ok (.iaload, 1) by decide +kernel) (VB.lt ho (by omega)) (ho.2.2 4 (by decide)).2.1 (VB.inr ho (j := 4) (n := 4) (by decide) rfl h6) ?_
    exact Ev_iret hq_57 (show decode prog_2_method_4_code 52 = .ok (.ireturn, 1) by decide +kernel) rfl k
  have k := k.2 c5
  by_cases c7 : x2 = 3
  · have k := k.1 c7
    refine Ev_tableIn (off := 52) (tgt := 53) hq_57 (show decode prog_2_method_4_code 1 = .ok (.tableswitch 59 0 3 #[31, 38, 45, 52], 31) by decide +kernel) (by rw [c7]; decide) (by rw [c7]; decide) (by rw [c7]; decide) (by decide) ?_
    refine Ev_aload_n hq_57 (show decode prog_2_method_4_code 53 = .ok (.aload_n 0, 1) by decide +kernel) rfl ?_
    refine Ev_getR hq_57 (show decode prog_2_method_4_code 54 = .ok (.getfield 27, 3) by decide +kernel) rfl (VB.lt ho (by omega)) ho.2.1 (by decide) rfl (ho.2.2 5 (by decide)).1 ?_
    refine Ev_iload_n hq_57 (show decode prog_2_method_4_code 57 = .ok (.iload_n 1, 1) by decide +kernel) rfl ?_
    obtain ⟨h8, k⟩ := k
    refine Ev_iald hq_57 (show decode prog_2_method_4_code 58 = .ok (.iaload, 1) by decide +kernel) (VB.lt ho (by omega)) (ho.2.2 5 (by decide)).2.1 (VB.inr ho (j := 5) (n := 4) (by decide) rfl h8) ?_
    exact Ev_iret hq_57 (show decode prog_2_method_4_code 59 = .ok (.ireturn, 1) by decide +kernel) rfl k
  have k := k.2 c7
  have ec1 : (x2).toInt ≠ 0 := z_ne (k := 0) c1
  have ec3 : (x2).toInt ≠ 1 := z_ne (k := 1) c3
  have ec5 : (x2).toInt ≠ 2 := z_ne (k := 2) c5
  have ec7 : (x2).toInt ≠ 3 := z_ne (k := 3) c7
  refine Ev_tableOut (tgt := 60) hq_57 (show decode prog_2_method_4_code 1 = .ok (.tableswitch 59 0 3 #[31, 38, 45, 52], 31) by decide +kernel) (by omega) (by decide) ?_
  refine Ev_aload_n hq_57 (show decode prog_2_method_4_code 60 = .ok (.aload_n 0, 1) by decide +kernel) rfl ?_
  refine Ev_getR hq_57 (show decode prog_2_method_4_code 61 = .ok (.getfield 30, 3) by decide +kernel) rfl (VB.lt ho (by omega)) ho.2.1 (by decide) rfl (ho.2.2 6 (by decide)).1 ?_
  refine Ev_iload_n hq_57 (show decode prog_2_method_4_code 64 = .ok (.iload_n 1, 1) by decide +kernel) rfl ?_
  obtain ⟨h9, k⟩ := k
  refine Ev_iald hq_57 (show decode prog_2_method_4_code 65 = .ok (.iaload, 1) by decide +kernel) (VB.lt ho (by omega)) (ho.2.2 6 (by decide)).2.1 (VB.inr ho (j := 6) (n := 4) (by decide) rfl h9) ?_
  exact Ev_iret hq_57 (show decode prog_2_method_4_code 66 = .ok (.ireturn, 1) by decide +kernel) rfl k
set_option maxRecDepth 20000 in
theorem wp_H_change {X : Nat × (Nat → Int32)} {d : Nat} {G : zG} {I : zI} {res : Option Value × zG × zI} (o : Nat) (x1 : Int32) (x2 : Int32) (x3 : Int32) (ho : HH G o) 
    (k : (x2 = 0 → z_inr x1 4 ∧ (∀ I3 : zI, I3 = z_up I (o + (2 + 1)) x1.toNatClampNeg x3 → res = (none, G, I3))) ∧ (¬ x2 = 0 → (x2 = 1 → z_inr x1 4 ∧ (∀ I6 : zI, I6 = z_up I (o + (3 + 1)) x1.toNatClampNeg x3 → res = (none, G, I6))) ∧ (¬ x2 = 1 → (x2 = 2 → z_inr x1 4 ∧ (∀ I9 : zI, I9 = z_up I (o + (4 + 1)) x1.toNatClampNeg x3 → res = (none, G, I9))) ∧ (¬ x2 = 2 → (x2 = 3 → z_inr x1 4 ∧ (∀ I12 : zI, I12 = z_up I (o + (5 + 1)) x1.toNatClampNeg x3 → res = (none, G, I12))) ∧ (¬ x2 = 3 → z_inr x1 4 ∧ (∀ I14 : zI, I14 = z_up I (o + (6 + 1)) x1.toNatClampNeg x3 → res = (none, G, I14))))))) :
    Ev X d 58 0 [.ref o, .int x1, .int x2, .int x3] [] G I res := by
  refine Ev_iload_n hq_58 (show decode prog_2_method_5_code 0 = .ok (.iload_n 2, 1) by decide +kernel) rfl ?_
  by_cases c1 : x2 = 0
  · have k := k.1 c1
    refine Ev_tableIn (off := 31) (tgt := 32) hq_58 (show decode prog_2_method_5_code 1 = .ok (.tableswitch 71 0 3 #[31, 41, 51, 61], 31) by decide +kernel) (by rw [c1]; decide) (by rw [c1]; decide) (by rw [c1]; decide) (by decide) ?_
    refine Ev_aload_n hq_58 (show decode prog_2_method_5_code 32 = .ok (.aload_n 0, 1) by decide +kernel) rfl ?_
    refine Ev_getR hq_58 (show decode prog_2_method_5_code 33 = .ok (.getfield 18, 3) by decide +kernel) rfl (VB.lt ho (by omega)) ho.2.1 (by decide) rfl (ho.2.2 2 (by decide)).1 ?_
    refine Ev_iload_n hq_58 (show decode prog_2_method_5_code 36 = .ok (.iload_n 1, 1) by decide +kernel) rfl ?_
    refine Ev_iload_n hq_58 (show decode prog_2_method_5_code 37 = .ok (.iload_n 3, 1) by decide +kernel) rfl ?_
    obtain ⟨h2, k⟩ := k
    refine Ev_iast hq_58 (show decode prog_2_method_5_code 38 = .ok (.iastore, 1) by decide +kernel) (VB.lt ho (by omega)) (ho.2.2 2 (by decide)).2.1 (VB.inr ho (j := 2) (n := 4) (by decide) rfl h2) ?_
    obtain ⟨I3, eI3⟩ : ∃ I3 : zI, I3 = z_up I (o + (2 + 1)) x1.toNatClampNeg x3 := ⟨_, rfl⟩
    have k := k I3 eI3
    rw [← eI3]
    refine Ev_goto (tgt := 79) hq_58 (show decode prog_2_method_5_code 39 = .ok (.goto 40, 3) by decide +kernel) (by decide) ?_
    exact Ev_vret hq_58 (show decode prog_2_method_5_code 79 = .ok (.return_, 1) by decide +kernel) k
  have k := k.2 c1
  by_cases c4 : x2 = 1
  · have k := k.1 c4
    refine Ev_tableIn (off := 41) (tgt := 42) hq_58 (show decode prog_2_method_5_code 1 = .ok (.tableswitch 71 0 3 #[31, 41, 51, 61], 31) by decide +kernel) (by rw [c4]; decide) (by rw [c4]; decide) (by rw [c4]; decide) (by decide) ?_
    refine Ev_aload_n hq_58 (show decode prog_2_method_5_code 42 = .ok (.aload_n 0, 1) by decide +kernel) rfl ?_
    refine Ev_getR hq_58 (show decode prog_2_method_5_code 43 = .ok (.getfield 21, 3) by decide +kernel) rfl (VB.lt ho (by omega)) ho.2.1 (by decide) rfl (ho.2.2 3 (by decide)).1 ?_
    refine Ev_iload_n hq_58 (show decode prog_2_method_5_code 46 = .ok (.iload_n 1, 1) by decide +kernel) rfl ?_
    refine Ev_iload_n hq_58 (show decode prog_2_method_5_code 47 = .ok (.iload_n 3, 1) by decide +kernel) rfl ?_
    obtain ⟨h5, k⟩ := k
    refine Ev_iast hq_58 (show decode prog_2_method_5_code 48 = .ok (.iastore, 1) by decide +kernel) (VB.lt ho (by omega)) (ho.2.2 3 (by decide)).2.1 (VB.inr ho (j := 3) (n := 4) (by decide) rfl h5) ?_
    obtain ⟨I6, eI6⟩ : ∃ I6 : zI, I6 = z_up I (o + (3 + 1)) x1.toNatClampNeg x3 := ⟨_, rfl⟩
    have k := k I6 eI6
    rw [← eI6]
    refine Ev_goto (tgt := 79) hq_58 (show decode prog_2_method_5_code 49 = .ok (.goto 30, 3) by decide +kernel) (by decide) ?_
    exact Ev_vret hq_58 (show decode prog_2_method_5_code 79 = .ok (.return_, 1) by decide +kernel) k
  have k := k.2 c4
  by_cases c7 : x2 = 2
  · have k := k.1 c7
    refine Ev_tableIn (off := 51) (tgt := 52) hq_58 (show decode prog_2_method_5_code 1 = .ok (.tableswitch 71 0 3 #[31, 41, 51, 61], 31) by decide +kernel) (by rw [c7]; decide) (by rw [c7]; decide) (by rw [c7]; decide) (by decide) ?_
    refine Ev_aload_n hq_58 (show decode prog_2_method_5_code 52 = .ok (.aload_n 0, 1) by decide +kernel) rfl ?_
    refine Ev_getR hq_58 (show decode prog_2_method_5_code 53 = .ok (.getfield 24, 3) by decide +kernel) rfl (VB.lt ho (by omega)) ho.2.1 (by decide) rfl (ho.2.2 4 (by decide)).1 ?_
    refine Ev_iload_n hq_58 (show decode prog_2_method_5_code 56 = .ok (.iload_n 1, 1) by decide +kernel) rfl ?_
    refine Ev_iload_n hq_58 (show decode prog_2_method_5_code 57 = .ok (.iload_n 3, 1) by decide +kernel) rfl ?_
    obtain ⟨h8, k⟩ := k
    refine Ev_iast hq_58 (show decode prog_2_method_5_code 58 = .ok (.iastore, 1) by decide +kernel) (VB.lt ho (by omega)) (ho.2.2 4 (by decide)).2.1 (VB.inr ho (j := 4) (n := 4) (by decide) rfl h8) ?_
    obtain ⟨I9, eI9⟩ : ∃ I9 : zI, I9 = z_up I (o + (4 + 1)) x1.toNatClampNeg x3 := ⟨_, rfl⟩
    have k := k I9 eI9
    rw [← eI9]
    refine Ev_goto (tgt := 79) hq_58 (show decode prog_2_method_5_code 59 = .ok (.goto 20, 3) by decide +kernel) (by decide) ?_
    exact Ev_vret hq_58 (show decode prog_2_method_5_code 79 = .ok (.return_, 1) by decide +kernel) k
  have k := k.2 c7
  by_cases c10 : x2 = 3
  · have k := k.1 c10
    refine Ev_tableIn (off := 61) (tgt := 62) hq_58 (show decode prog_2_method_5_code 1 = .ok (.tableswitch 71 0 3 #[31, 41, 51, 61], 31) by decide +kernel) (by rw [c10]; decide) (by rw [c10]; decide) (by rw [c10]; decide) (by decide) ?_
    refine Ev_aload_n hq_58 (show decode prog_2_method_5_code 62 = .ok (.aload_n 0, 1) by decide +kernel) rfl ?_
    refine Ev_getR hq_58 (show decode prog_2_method_5_code 63 = .ok (.getfield 27, 3) by decide +kernel) rfl (VB.lt ho (by omega)) ho.2.1 (by decide) rfl (ho.2.2 5 (by decide)).1 ?_
    refine Ev_iload_n hq_58 (show decode prog_2_method_5_code 66 = .ok (.iload_n 1, 1) by decide +kernel) rfl ?_
    refine Ev_iload_n hq_58 (show decode prog_2_method_5_code 67 = .ok (.iload_n 3, 1) by decide +kernel) rfl ?_
    obtain ⟨h11, k⟩ := k
    refine Ev_iast hq_58 (show decode prog_2_method_5_code 68 = .ok (.iastore, 1) by decide +kernel) (VB.lt ho (by omega)) (ho.2.2 5 (by decide)).2.1 (VB.inr ho (j := 5) (n := 4) (by decide) rfl h11) ?_
    obtain ⟨I12, eI12⟩ : ∃ I12 : zI, I12 = z_up I (o + (5 + 1)) x1.toNatClampNeg x3 := ⟨_, rfl⟩
    have k := k I12 eI12
    rw [← eI12]
    refine Ev_goto (tgt := 79) hq_58 (show decode prog_2_method_5_code 69 = .ok (.goto 10, 3) by decide +kernel) (by decide) ?_
    exact Ev_vret hq_58 (show decode prog_2_method_5_code 79 = .ok (.return_, 1) by decide +kernel) k
  have k := k.2 c10
  have ec1 : (x2).toInt ≠ 0 := z_ne (k := 0) c1
  have ec4 : (x2).toInt ≠ 1 := z_ne (k := 1) c4
  have ec7 : (x2).toInt ≠ 2 := z_ne (k := 2) c7
  have ec10 : (x2).toInt ≠ 3 := z_ne (k := 3) c10
  refine Ev_tableOut (tgt := 72) hq_58 (show decode prog_2_method_5_code 1 = .ok (.tableswitch 71 0 3 #[31, 41, 51, 61], 31) by decide +kernel) (by omega) (by decide) ?_
  refine Ev_aload_n hq_58 (show decode prog_2_method_5_code 72 = .ok (.aload_n 0, 1) by decide +kernel) rfl ?_
  refine Ev_getR hq_58 (show decode prog_2_method_5_code 73 = .ok (.getfield 30, 3) by decide +kernel) rfl (VB.lt ho (by omega)) ho.2.1 (by decide) rfl (ho.2.2 6 (by decide)).1 ?_
  refine Ev_iload_n hq_58 (show decode prog_2_method_5_code 76 = .ok (.iload_n 1, 1) by decide +kernel) rfl ?_
  refine Ev_iload_n hq_58 (show decode prog_2_method_5_code 77 = .ok (.iload_n 3, 1) by decide +kernel) rfl ?_
  obtain ⟨h13, k⟩ := k
  refine Ev_iast hq_58 (show decode prog_2_method_5_code 78 = .ok (.iastore, 1) by decide +kernel) (VB.lt ho (by omega)) (ho.2.2 6 (by decide)).2.1 (VB.inr ho (j := 6) (n := 4) (by decide) rfl h13) ?_
  obtain ⟨I14, eI14⟩ : ∃ I14 : zI, I14 = z_up I (o + (6 + 1)) x1.toNatClampNeg x3 := ⟨_, rfl⟩
  have k := k I14 eI14
  rw [← eI14]
  exact Ev_vret hq_58 (show decode prog_2_method_5_code 79 = .ok (.return_, 1) by decide +kernel) k
set_option maxRecDepth 20000 in
theorem wp_T_set {X : Nat × (Nat → Int32)} {d : Nat} {G : zG} {I : zI} {res : Option Value × zG × zI} (x1 : Int32) (x2 : Int32) (x3 : Int32) (hd : 1 ≤ d) (hS : SG G) 
    (k : (¬ (f_T_isShower I x1) = 0 → ((f_T_within x2 0 4) = 0 → res = (some (.int (-7)), G, I)) ∧ (¬ (f_T_within x2 0 4) = 0 → (¬ (f_T_within x3 0 (f_T_mostOf x2)) = 0 → ∃ (r6 : Int32) (I4 : zI), Cv X d 57 [.ref 1, .int x1, .int x2] G I (some (.int r6), G, I4) ∧ (∃ (I7 : zI), Cv X d 58 [.ref 1, .int x1, .int x2, .int x3] G I4 (none, G, I7) ∧ (res = (some (.int r6), G, I7)))) ∧ ((f_T_within x3 0 (f_T_mostOf x2)) = 0 → res = (some (.int (-7)), G, I)))) ∧ ((f_T_isShower I x1) = 0 → res = (some (.int (-5)), G, I))) :
    Ev X (d + 1) 55 0 [.ref 0, .int x1, .int x2, .int x3, zU] [] G I res := by
  refine Ev_aload_n hq_55 (show decode prog_1_method_11_code 0 = .ok (.aload_n 0, 1) by decide +kernel) rfl ?_
  refine Ev_iload_n hq_55 (show decode prog_1_method_11_code 1 = .ok (.iload_n 1, 1) by decide +kernel) rfl ?_
  refine Ev_virt (as := [.int x1]) hq_55 (show decode prog_1_method_11_code 2 = .ok (.invokevirtual 120, 3) by decide +kernel) rfl hq_45 rfl (z_le rfl) ⟨(SGn hS (by decide)), (SGk hS rfl), by decide⟩ (c_T_isShower (by omega) hS x1) ?_
  refine Ev_if_ne (tgt := 11) hq_55 (show decode prog_1_method_11_code 5 = .ok (.ifCond .ne 6, 3) by decide +kernel) (by decide) (fun c1 => ?_) (fun c1 => ?_)
  · have k := k.1 c1
    refine Ev_iload_n hq_55 (show decode prog_1_method_11_code 11 = .ok (.iload_n 2, 1) by decide +kernel) rfl ?_
    refine Ev_iconst (v := 0) hq_55 (show decode prog_1_method_11_code 12 = .ok (.iconst 0, 1) by decide +kernel) (by decide) ?_
    refine Ev_iconst (v := 4) hq_55 (show decode prog_1_method_11_code 13 = .ok (.iconst 4, 1) by decide +kernel) (by decide) ?_
    refine Ev_stat (as := [.int x2, .int 0, .int 4]) hq_55 (show decode prog_1_method_11_code 14 = .ok (.invokestatic 108, 3) by decide +kernel) rfl (Or.inl rfl) hq_32 rfl (z_le rfl) (c_T_within x2 0 4) ?_
    refine Ev_if_eq (tgt := 32) hq_55 (show decode prog_1_method_11_code 17 = .ok (.ifCond .eq 15, 3) by decide +kernel) (by decide) (fun c2 => ?_) (fun c2 => ?_)
    · have k := k.1 c2
      refine Ev_bipush (v := (-7)) hq_55 (show decode prog_1_method_11_code 32 = .ok (.bipush (-7), 2) by decide +kernel) (by decide) ?_
      exact Ev_iret hq_55 (show decode prog_1_method_11_code 34 = .ok (.ireturn, 1) by decide +kernel) rfl k
    · have k := k.2 c2
      refine Ev_iload_n hq_55 (show decode prog_1_method_11_code 20 = .ok (.iload_n 3, 1) by decide +kernel) rfl ?_
      refine Ev_iconst (v := 0) hq_55 (show decode prog_1_method_11_code 21 = .ok (.iconst 0, 1) by decide +kernel) (by decide) ?_
      refine Ev_iload_n hq_55 (show decode prog_1_method_11_code 22 = .ok (.iload_n 2, 1) by decide +kernel) rfl ?_
      refine Ev_stat (as := [.int x2]) hq_55 (show decode prog_1_method_11_code 23 = .ok (.invokestatic 152, 3) by decide +kernel) rfl (Or.inl rfl) hq_56 rfl (z_le rfl) (c_T_mostOf x2) ?_
      refine Ev_stat (as := [.int x3, .int 0, .int (f_T_mostOf x2)]) hq_55 (show decode prog_1_method_11_code 26 = .ok (.invokestatic 108, 3) by decide +kernel) rfl (Or.inl rfl) hq_32 rfl (z_le rfl) (c_T_within x3 0 (f_T_mostOf x2)) ?_
      refine Ev_if_ne (tgt := 35) hq_55 (show decode prog_1_method_11_code 29 = .ok (.ifCond .ne 6, 3) by decide +kernel) (by decide) (fun c3 => ?_) (fun c3 => ?_)
      · have k := k.1 c3
        refine Ev_aload_n hq_55 (show decode prog_1_method_11_code 35 = .ok (.aload_n 0, 1) by decide +kernel) rfl ?_
        refine Ev_getR hq_55 (show decode prog_1_method_11_code 36 = .ok (.getfield 10, 3) by decide +kernel) rfl (SGn hS (by decide)) (SGk hS rfl) (by decide) rfl (SGr hS rfl) ?_
        refine Ev_iload_n hq_55 (show decode prog_1_method_11_code 39 = .ok (.iload_n 1, 1) by decide +kernel) rfl ?_
        refine Ev_iload_n hq_55 (show decode prog_1_method_11_code 40 = .ok (.iload_n 2, 1) by decide +kernel) rfl ?_
        obtain ⟨r6, I4, h5, k⟩ := k
        refine Ev_virt (as := [.int x1, .int x2]) hq_55 (show decode prog_1_method_11_code 41 = .ok (.invokevirtual 155, 3) by decide +kernel) rfl hq_57 rfl (z_le rfl) ⟨(SGn hS (by decide)), (SGk hS rfl), by decide⟩ h5 ?_
        refine Ev_istore (lo2 := [.ref 0, .int x1, .int x2, .int x3, .int r6]) hq_55 (show decode prog_1_method_11_code 44 = .ok (.istore 4, 2) by decide +kernel) (z_le rfl) rfl ?_
        refine Ev_aload_n hq_55 (show decode prog_1_method_11_code 46 = .ok (.aload_n 0, 1) by decide +kernel) rfl ?_
        refine Ev_getR hq_55 (show decode prog_1_method_11_code 47 = .ok (.getfield 10, 3) by decide +kernel) rfl (SGn hS (by decide)) (SGk hS rfl) (by decide) rfl (SGr hS rfl) ?_
        refine Ev_iload_n hq_55 (show decode prog_1_method_11_code 50 = .ok (.iload_n 1, 1) by decide +kernel) rfl ?_
        refine Ev_iload_n hq_55 (show decode prog_1_method_11_code 51 = .ok (.iload_n 2, 1) by decide +kernel) rfl ?_
        refine Ev_iload_n hq_55 (show decode prog_1_method_11_code 52 = .ok (.iload_n 3, 1) by decide +kernel) rfl ?_
        obtain ⟨I7, h8, k⟩ := k
        refine Ev_virt (as := [.int x1, .int x2, .int x3]) hq_55 (show decode prog_1_method_11_code 53 = .ok (.invokevirtual 158, 3) by decide +kernel) rfl hq_58 rfl (z_le rfl) ⟨(SGn hS (by decide)), (SGk hS rfl), by decide⟩ h8 ?_
        refine Ev_iload hq_55 (show decode prog_1_method_11_code 56 = .ok (.iload 4, 2) by decide +kernel) rfl ?_
        exact Ev_iret hq_55 (show decode prog_1_method_11_code 58 = .ok (.ireturn, 1) by decide +kernel) rfl k
      · have k := k.2 (Classical.not_not.mp c3)
        refine Ev_bipush (v := (-7)) hq_55 (show decode prog_1_method_11_code 32 = .ok (.bipush (-7), 2) by decide +kernel) (by decide) ?_
        exact Ev_iret hq_55 (show decode prog_1_method_11_code 34 = .ok (.ireturn, 1) by decide +kernel) rfl k
  · have k := k.2 (Classical.not_not.mp c1)
    refine Ev_bipush (v := (-5)) hq_55 (show decode prog_1_method_11_code 8 = .ok (.bipush (-5), 2) by decide +kernel) (by decide) ?_
    exact Ev_iret hq_55 (show decode prog_1_method_11_code 10 = .ok (.ireturn, 1) by decide +kernel) rfl k
set_option maxRecDepth 20000 in
theorem wp_T_scaldsFrom {X : Nat × (Nat → Int32)} {d : Nat} {G : zG} {I : zI} {res : Option Value × zG × zI} (x0 : Int32) (x1 : Int32) 
    (k : (¬ x0 = 3 → (¬ x0 = 5 → res = (some (.int 50), G, I)) ∧ (x0 = 5 → res = (some (.int (50 - (4 * x1))), G, I))) ∧ (x0 = 3 → res = (some (.int (50 + (10 * x1))), G, I))) :
    Ev X d 60 0 [.int x0, .int x1] [] G I res := by
  refine Ev_iload_n hq_60 (show decode prog_1_method_21_code 0 = .ok (.iload_n 0, 1) by decide +kernel) rfl ?_
  refine Ev_iconst (v := 3) hq_60 (show decode prog_1_method_21_code 1 = .ok (.iconst 3, 1) by decide +kernel) (by decide) ?_
  refine Ev_icmp_ne (tgt := 13) hq_60 (show decode prog_1_method_21_code 2 = .ok (.if_icmp .ne 11, 3) by decide +kernel) (by decide) (fun c1 => ?_) (fun c1 => ?_)
  · have k := k.1 c1
    refine Ev_iload_n hq_60 (show decode prog_1_method_21_code 13 = .ok (.iload_n 0, 1) by decide +kernel) rfl ?_
    refine Ev_iconst (v := 5) hq_60 (show decode prog_1_method_21_code 14 = .ok (.iconst 5, 1) by decide +kernel) (by decide) ?_
    refine Ev_icmp_ne (tgt := 25) hq_60 (show decode prog_1_method_21_code 15 = .ok (.if_icmp .ne 10, 3) by decide +kernel) (by decide) (fun c2 => ?_) (fun c2 => ?_)
    · have k := k.1 c2
      refine Ev_bipush (v := 50) hq_60 (show decode prog_1_method_21_code 25 = .ok (.bipush 50, 2) by decide +kernel) (by decide) ?_
      exact Ev_iret hq_60 (show decode prog_1_method_21_code 27 = .ok (.ireturn, 1) by decide +kernel) rfl k
    · have k := k.2 (Classical.not_not.mp c2)
      refine Ev_bipush (v := 50) hq_60 (show decode prog_1_method_21_code 18 = .ok (.bipush 50, 2) by decide +kernel) (by decide) ?_
      refine Ev_iconst (v := 4) hq_60 (show decode prog_1_method_21_code 20 = .ok (.iconst 4, 1) by decide +kernel) (by decide) ?_
      refine Ev_iload_n hq_60 (show decode prog_1_method_21_code 21 = .ok (.iload_n 1, 1) by decide +kernel) rfl ?_
      refine Ev_imul hq_60 (show decode prog_1_method_21_code 22 = .ok (.imul, 1) by decide +kernel) ?_
      refine Ev_isub hq_60 (show decode prog_1_method_21_code 23 = .ok (.isub, 1) by decide +kernel) ?_
      exact Ev_iret hq_60 (show decode prog_1_method_21_code 24 = .ok (.ireturn, 1) by decide +kernel) rfl k
  · have k := k.2 (Classical.not_not.mp c1)
    refine Ev_bipush (v := 50) hq_60 (show decode prog_1_method_21_code 5 = .ok (.bipush 50, 2) by decide +kernel) (by decide) ?_
    refine Ev_bipush (v := 10) hq_60 (show decode prog_1_method_21_code 7 = .ok (.bipush 10, 2) by decide +kernel) (by decide) ?_
    refine Ev_iload_n hq_60 (show decode prog_1_method_21_code 9 = .ok (.iload_n 1, 1) by decide +kernel) rfl ?_
    refine Ev_imul hq_60 (show decode prog_1_method_21_code 10 = .ok (.imul, 1) by decide +kernel) ?_
    refine Ev_iadd hq_60 (show decode prog_1_method_21_code 11 = .ok (.iadd, 1) by decide +kernel) ?_
    exact Ev_iret hq_60 (show decode prog_1_method_21_code 12 = .ok (.ireturn, 1) by decide +kernel) rfl k
def f_T_scaldsFrom (x0 x1 : Int32) : Int32 := (if x0 = 3 then (50 + (10 * x1)) else (if x0 = 5 then (50 - (4 * x1)) else 50))
theorem c_T_scaldsFrom {X : Nat × (Nat → Int32)} {d : Nat} {G : zG} {I : zI} (x0 x1 : Int32) : Cv X d 60 [.int x0, .int x1] G I (some (.int (f_T_scaldsFrom x0 x1)), G, I) := by
  exact Cv.of hq_60 (z_le rfl) rfl (wp_T_scaldsFrom x0 x1 ⟨fun h0 => ⟨fun h1 => (by simp only [f_T_scaldsFrom]; rw [if_neg h0]; rw [if_neg h1]), fun h1 => (by simp only [f_T_scaldsFrom]; rw [if_neg h0]; rw [if_pos h1])⟩, fun h0 => (by simp only [f_T_scaldsFrom]; rw [if_pos h0])⟩)
set_option maxRecDepth 20000 in
theorem wp_T_told {X : Nat × (Nat → Int32)} {d : Nat} {G : zG} {I : zI} {res : Option Value × zG × zI} (x1 : Int32) (x2 : Int32) (hd : 1 ≤ d) (hS : SG G) 
    (k : (¬ (f_T_isShower I x1) = 0 → ((f_T_within x2 0 4) = 0 → (x2 = 5 → z_inr x1 4 ∧ (res = (some (.int (I 2 x1.toNatClampNeg)), G, I))) ∧ (¬ x2 = 5 → (x2 = 6 → z_inr x1 4 ∧ (res = (some (.int (I 3 x1.toNatClampNeg)), G, I))) ∧ (¬ x2 = 6 → (x2 = 7 → z_inr x1 4 ∧ (z_inr x1 4 ∧ (res = (some (.int (f_T_scaldsFrom (I 2 x1.toNatClampNeg) (I 3 x1.toNatClampNeg))), G, I)))) ∧ (¬ x2 = 7 → res = (some (.int (-7)), G, I))))) ∧ (¬ (f_T_within x2 0 4) = 0 → ∃ (r12 : Int32) (I10 : zI), Cv X d 57 [.ref 1, .int x1, .int x2] G I (some (.int r12), G, I10) ∧ (res = (some (.int r12), G, I10)))) ∧ ((f_T_isShower I x1) = 0 → res = (some (.int (-5)), G, I))) :
    Ev X (d + 1) 59 0 [.ref 0, .int x1, .int x2] [] G I res := by
  refine Ev_aload_n hq_59 (show decode prog_1_method_13_code 0 = .ok (.aload_n 0, 1) by decide +kernel) rfl ?_
  refine Ev_iload_n hq_59 (show decode prog_1_method_13_code 1 = .ok (.iload_n 1, 1) by decide +kernel) rfl ?_
  refine Ev_virt (as := [.int x1]) hq_59 (show decode prog_1_method_13_code 2 = .ok (.invokevirtual 120, 3) by decide +kernel) rfl hq_45 rfl (z_le rfl) ⟨(SGn hS (by decide)), (SGk hS rfl), by decide⟩ (c_T_isShower (by omega) hS x1) ?_
  refine Ev_if_ne (tgt := 11) hq_59 (show decode prog_1_method_13_code 5 = .ok (.ifCond .ne 6, 3) by decide +kernel) (by decide) (fun c1 => ?_) (fun c1 => ?_)
  · have k := k.1 c1
    refine Ev_iload_n hq_59 (show decode prog_1_method_13_code 11 = .ok (.iload_n 2, 1) by decide +kernel) rfl ?_
    refine Ev_iconst (v := 0) hq_59 (show decode prog_1_method_13_code 12 = .ok (.iconst 0, 1) by decide +kernel) (by decide) ?_
    refine Ev_iconst (v := 4) hq_59 (show decode prog_1_method_13_code 13 = .ok (.iconst 4, 1) by decide +kernel) (by decide) ?_
    refine Ev_stat (as := [.int x2, .int 0, .int 4]) hq_59 (show decode prog_1_method_13_code 14 = .ok (.invokestatic 108, 3) by decide +kernel) rfl (Or.inl rfl) hq_32 rfl (z_le rfl) (c_T_within x2 0 4) ?_
    refine Ev_if_eq (tgt := 30) hq_59 (show decode prog_1_method_13_code 17 = .ok (.ifCond .eq 13, 3) by decide +kernel) (by decide) (fun c2 => ?_) (fun c2 => ?_)
    · have k := k.1 c2
      refine Ev_iload_n hq_59 (show decode prog_1_method_13_code 30 = .ok (.iload_n 2, 1) by decide +kernel) rfl ?_
      by_cases c3 : x2 = 5
      · have k := k.1 c3
        refine Ev_tableIn (off := 25) (tgt := 56) hq_59 (show decode prog_1_method_13_code 31 = .ok (.tableswitch 67 5 7 #[25, 35, 45], 25) by decide +kernel) (by rw [c3]; decide) (by rw [c3]; decide) (by rw [c3]; decide) (by decide) ?_
        refine Ev_aload_n hq_59 (show decode prog_1_method_13_code 56 = .ok (.aload_n 0, 1) by decide +kernel) rfl ?_
        refine Ev_getR hq_59 (show decode prog_1_method_13_code 57 = .ok (.getfield 10, 3) by decide +kernel) rfl (SGn hS (by decide)) (SGk hS rfl) (by decide) rfl (SGr hS rfl) ?_
        refine Ev_getR hq_59 (show decode prog_1_method_13_code 60 = .ok (.getfield 162, 3) by decide +kernel) rfl (SGn hS (by decide)) (SGk hS rfl) (by decide) rfl (SGr hS rfl) ?_
        refine Ev_iload_n hq_59 (show decode prog_1_method_13_code 63 = .ok (.iload_n 1, 1) by decide +kernel) rfl ?_
        obtain ⟨h4, k⟩ := k
        refine Ev_iald hq_59 (show decode prog_1_method_13_code 64 = .ok (.iaload, 1) by decide +kernel) (SGn hS (by decide)) (SGk hS rfl) (SGi hS rfl h4) ?_
        exact Ev_iret hq_59 (show decode prog_1_method_13_code 65 = .ok (.ireturn, 1) by decide +kernel) rfl k
      have k := k.2 c3
      by_cases c5 : x2 = 6
      · have k := k.1 c5
        refine Ev_tableIn (off := 35) (tgt := 66) hq_59 (show decode prog_1_method_13_code 31 = .ok (.tableswitch 67 5 7 #[25, 35, 45], 25) by decide +kernel) (by rw [c5]; decide) (by rw [c5]; decide) (by rw [c5]; decide) (by decide) ?_
        refine Ev_aload_n hq_59 (show decode prog_1_method_13_code 66 = .ok (.aload_n 0, 1) by decide +kernel) rfl ?_
        refine Ev_getR hq_59 (show decode prog_1_method_13_code 67 = .ok (.getfield 10, 3) by decide +kernel) rfl (SGn hS (by decide)) (SGk hS rfl) (by decide) rfl (SGr hS rfl) ?_
        refine Ev_getR hq_59 (show decode prog_1_method_13_code 70 = .ok (.getfield 137, 3) by decide +kernel) rfl (SGn hS (by decide)) (SGk hS rfl) (by decide) rfl (SGr hS rfl) ?_
        refine Ev_iload_n hq_59 (show decode prog_1_method_13_code 73 = .ok (.iload_n 1, 1) by decide +kernel) rfl ?_
        obtain ⟨h6, k⟩ := k
        refine Ev_iald hq_59 (show decode prog_1_method_13_code 74 = .ok (.iaload, 1) by decide +kernel) (SGn hS (by decide)) (SGk hS rfl) (SGi hS rfl h6) ?_
        exact Ev_iret hq_59 (show decode prog_1_method_13_code 75 = .ok (.ireturn, 1) by decide +kernel) rfl k
      have k := k.2 c5
      by_cases c7 : x2 = 7
      · have k := k.1 c7
        refine Ev_tableIn (off := 45) (tgt := 76) hq_59 (show decode prog_1_method_13_code 31 = .ok (.tableswitch 67 5 7 #[25, 35, 45], 25) by decide +kernel) (by rw [c7]; decide) (by rw [c7]; decide) (by rw [c7]; decide) (by decide) ?_
        refine Ev_aload_n hq_59 (show decode prog_1_method_13_code 76 = .ok (.aload_n 0, 1) by decide +kernel) rfl ?_
        refine Ev_getR hq_59 (show decode prog_1_method_13_code 77 = .ok (.getfield 10, 3) by decide +kernel) rfl (SGn hS (by decide)) (SGk hS rfl) (by decide) rfl (SGr hS rfl) ?_
        refine Ev_getR hq_59 (show decode prog_1_method_13_code 80 = .ok (.getfield 162, 3) by decide +kernel) rfl (SGn hS (by decide)) (SGk hS rfl) (by decide) rfl (SGr hS rfl) ?_
        refine Ev_iload_n hq_59 (show decode prog_1_method_13_code 83 = .ok (.iload_n 1, 1) by decide +kernel) rfl ?_
        obtain ⟨h8, k⟩ := k
        refine Ev_iald hq_59 (show decode prog_1_method_13_code 84 = .ok (.iaload, 1) by decide +kernel) (SGn hS (by decide)) (SGk hS rfl) (SGi hS rfl h8) ?_
        refine Ev_aload_n hq_59 (show decode prog_1_method_13_code 85 = .ok (.aload_n 0, 1) by decide +kernel) rfl ?_
        refine Ev_getR hq_59 (show decode prog_1_method_13_code 86 = .ok (.getfield 10, 3) by decide +kernel) rfl (SGn hS (by decide)) (SGk hS rfl) (by decide) rfl (SGr hS rfl) ?_
        refine Ev_getR hq_59 (show decode prog_1_method_13_code 89 = .ok (.getfield 137, 3) by decide +kernel) rfl (SGn hS (by decide)) (SGk hS rfl) (by decide) rfl (SGr hS rfl) ?_
        refine Ev_iload_n hq_59 (show decode prog_1_method_13_code 92 = .ok (.iload_n 1, 1) by decide +kernel) rfl ?_
        obtain ⟨h9, k⟩ := k
        refine Ev_iald hq_59 (show decode prog_1_method_13_code 93 = .ok (.iaload, 1) by decide +kernel) (SGn hS (by decide)) (SGk hS rfl) (SGi hS rfl h9) ?_
        refine Ev_stat (as := [.int (I 2 x1.toNatClampNeg), .int (I 3 x1.toNatClampNeg)]) hq_59 (show decode prog_1_method_13_code 94 = .ok (.invokestatic 165, 3) by decide +kernel) rfl (Or.inl rfl) hq_60 rfl (z_le rfl) (c_T_scaldsFrom (I 2 x1.toNatClampNeg) (I 3 x1.toNatClampNeg)) ?_
        exact Ev_iret hq_59 (show decode prog_1_method_13_code 97 = .ok (.ireturn, 1) by decide +kernel) rfl k
      have k := k.2 c7
      have ec3 : (x2).toInt ≠ 5 := z_ne (k := 5) c3
      have ec5 : (x2).toInt ≠ 6 := z_ne (k := 6) c5
      have ec7 : (x2).toInt ≠ 7 := z_ne (k := 7) c7
      refine Ev_tableOut (tgt := 98) hq_59 (show decode prog_1_method_13_code 31 = .ok (.tableswitch 67 5 7 #[25, 35, 45], 25) by decide +kernel) (by omega) (by decide) ?_
      refine Ev_bipush (v := (-7)) hq_59 (show decode prog_1_method_13_code 98 = .ok (.bipush (-7), 2) by decide +kernel) (by decide) ?_
      exact Ev_iret hq_59 (show decode prog_1_method_13_code 100 = .ok (.ireturn, 1) by decide +kernel) rfl k
    · have k := k.2 c2
      refine Ev_aload_n hq_59 (show decode prog_1_method_13_code 20 = .ok (.aload_n 0, 1) by decide +kernel) rfl ?_
      refine Ev_getR hq_59 (show decode prog_1_method_13_code 21 = .ok (.getfield 10, 3) by decide +kernel) rfl (SGn hS (by decide)) (SGk hS rfl) (by decide) rfl (SGr hS rfl) ?_
      refine Ev_iload_n hq_59 (show decode prog_1_method_13_code 24 = .ok (.iload_n 1, 1) by decide +kernel) rfl ?_
      refine Ev_iload_n hq_59 (show decode prog_1_method_13_code 25 = .ok (.iload_n 2, 1) by decide +kernel) rfl ?_
      obtain ⟨r12, I10, h11, k⟩ := k
      refine Ev_virt (as := [.int x1, .int x2]) hq_59 (show decode prog_1_method_13_code 26 = .ok (.invokevirtual 155, 3) by decide +kernel) rfl hq_57 rfl (z_le rfl) ⟨(SGn hS (by decide)), (SGk hS rfl), by decide⟩ h11 ?_
      exact Ev_iret hq_59 (show decode prog_1_method_13_code 29 = .ok (.ireturn, 1) by decide +kernel) rfl k
  · have k := k.2 (Classical.not_not.mp c1)
    refine Ev_bipush (v := (-5)) hq_59 (show decode prog_1_method_13_code 8 = .ok (.bipush (-5), 2) by decide +kernel) (by decide) ?_
    exact Ev_iret hq_59 (show decode prog_1_method_13_code 10 = .ok (.ireturn, 1) by decide +kernel) rfl k
set_option maxRecDepth 20000 in
theorem wp_M_higherThan {X : Nat × (Nat → Int32)} {d : Nat} {G : zG} {I : zI} {res : Option Value × zG × zI} (o : Nat) (x2 : Int32) (x3 : Int32) 
    (k : Ev X d 65 6 [.ref 25, .ref o, .int x2, .int x3, .int 0, .int 0] [] G I res) :
    Ev X d 65 0 [.ref 25, .ref o, .int x2, .int x3, zU, zU] [] G I res := by
  refine Ev_iconst (v := 0) hq_65 (show decode prog_4_method_4_code 0 = .ok (.iconst 0, 1) by decide +kernel) (by decide) ?_
  refine Ev_istore (lo2 := [.ref 25, .ref o, .int x2, .int x3, .int 0, zU]) hq_65 (show decode prog_4_method_4_code 1 = .ok (.istore 4, 2) by decide +kernel) (z_le rfl) rfl ?_
  refine Ev_iconst (v := 0) hq_65 (show decode prog_4_method_4_code 3 = .ok (.iconst 0, 1) by decide +kernel) (by decide) ?_
  refine Ev_istore (lo2 := [.ref 25, .ref o, .int x2, .int x3, .int 0, .int 0]) hq_65 (show decode prog_4_method_4_code 4 = .ok (.istore 5, 2) by decide +kernel) (z_le rfl) rfl ?_
  exact k
set_option maxRecDepth 20000 in
theorem wp_M_higherThan_6 {X : Nat × (Nat → Int32)} {d : Nat} {G : zG} {I : zI} {res : Option Value × zG × zI} (o : Nat) (x2 : Int32) (x3 : Int32) (x4 : Int32) (x5 : Int32) (hS : SG G) (ho : HH G o) 
    (k : ((I o 7) ≤ x5 → res = (some (.int x4), G, I)) ∧ (¬ (I o 7) ≤ x5 → z_inr x5 4 ∧ ((¬ (I (o + (6 + 1)) x5.toNatClampNeg) = 1 → ∀ y4 : Int32, y4 = x5 + 1 → Ev X d 65 6 [.ref 25, .ref o, .int x2, .int x3, .int x4, .int y4] [] G I res) ∧ ((I (o + (6 + 1)) x5.toNatClampNeg) = 1 → z_inr x5 4 ∧ (z_inr x2 31 ∧ (z_inr x3 4 ∧ (z_inr x2 31 ∧ (((I (32 + x5.toNatClampNeg) x2.toNatClampNeg) ≤ (I (32 + x3.toNatClampNeg) x2.toNatClampNeg) → ∀ y12 : Int32, y12 = x5 + 1 → Ev X d 65 6 [.ref 25, .ref o, .int x2, .int x3, .int x4, .int y12] [] G I res) ∧ (¬ (I (32 + x5.toNatClampNeg) x2.toNatClampNeg) ≤ (I (32 + x3.toNatClampNeg) x2.toNatClampNeg) → ∀ y13 : Int32, y13 = x4 + 1 → ∀ y14 : Int32, y14 = x5 + 1 → Ev X d 65 6 [.ref 25, .ref o, .int x2, .int x3, .int y13, .int y14] [] G I res))))))))) :
    Ev X d 65 6 [.ref 25, .ref o, .int x2, .int x3, .int x4, .int x5] [] G I res := by
  refine Ev_iload hq_65 (show decode prog_4_method_4_code 6 = .ok (.iload 5, 2) by decide +kernel) rfl ?_
  refine Ev_aload_n hq_65 (show decode prog_4_method_4_code 8 = .ok (.aload_n 1, 1) by decide +kernel) rfl ?_
  refine Ev_getI hq_65 (show decode prog_4_method_4_code 9 = .ok (.getfield 29, 3) by decide +kernel) rfl (VB.lt ho (by omega)) ho.2.1 (by decide) rfl ?_
  refine Ev_icmp_ge (tgt := 55) hq_65 (show decode prog_4_method_4_code 12 = .ok (.if_icmp .ge 43, 3) by decide +kernel) (by decide) (fun c1 => ?_) (fun c1 => ?_)
  · have k := k.1 c1
    refine Ev_iload hq_65 (show decode prog_4_method_4_code 55 = .ok (.iload 4, 2) by decide +kernel) rfl ?_
    exact Ev_iret hq_65 (show decode prog_4_method_4_code 57 = .ok (.ireturn, 1) by decide +kernel) rfl k
  · have k := k.2 c1
    refine Ev_aload_n hq_65 (show decode prog_4_method_4_code 15 = .ok (.aload_n 1, 1) by decide +kernel) rfl ?_
    refine Ev_getR hq_65 (show decode prog_4_method_4_code 16 = .ok (.getfield 48, 3) by decide +kernel) rfl (VB.lt ho (by omega)) ho.2.1 (by decide) rfl (ho.2.2 6 (by decide)).1 ?_
    refine Ev_iload hq_65 (show decode prog_4_method_4_code 19 = .ok (.iload 5, 2) by decide +kernel) rfl ?_
    obtain ⟨h2, k⟩ := k
    refine Ev_iald hq_65 (show decode prog_4_method_4_code 21 = .ok (.iaload, 1) by decide +kernel) (VB.lt ho (by omega)) (ho.2.2 6 (by decide)).2.1 (VB.inr ho (j := 6) (n := 4) (by decide) rfl h2) ?_
    refine Ev_iconst (v := 1) hq_65 (show decode prog_4_method_4_code 22 = .ok (.iconst 1, 1) by decide +kernel) (by decide) ?_
    refine Ev_icmp_ne (tgt := 49) hq_65 (show decode prog_4_method_4_code 23 = .ok (.if_icmp .ne 26, 3) by decide +kernel) (by decide) (fun c3 => ?_) (fun c3 => ?_)
    · have k := k.1 c3
      obtain ⟨y4, ey4⟩ : ∃ y4 : Int32, y4 = x5 + 1 := ⟨_, rfl⟩
      have k := k y4 ey4
      refine Ev_iinc (v := y4) (lo2 := [.ref 25, .ref o, .int x2, .int x3, .int x4, .int y4]) hq_65 (show decode prog_4_method_4_code 49 = .ok (.iinc 5 1, 3) by decide +kernel) rfl (by rw [ey4]; rfl) rfl ?_
      refine Ev_goto (tgt := 6) hq_65 (show decode prog_4_method_4_code 52 = .ok (.goto (-46), 3) by decide +kernel) (by decide) ?_
      exact k
    · have k := k.2 (Classical.not_not.mp c3)
      refine Ev_aload_n hq_65 (show decode prog_4_method_4_code 26 = .ok (.aload_n 0, 1) by decide +kernel) rfl ?_
      refine Ev_getR hq_65 (show decode prog_4_method_4_code 27 = .ok (.getfield 16, 3) by decide +kernel) rfl (SGn hS (by decide)) (SGk hS rfl) (by decide) rfl (SGr hS rfl) ?_
      refine Ev_iload hq_65 (show decode prog_4_method_4_code 30 = .ok (.iload 5, 2) by decide +kernel) rfl ?_
      obtain ⟨h5, k⟩ := k
      have r6 := SGrow hS (a := 31) (b := 32) (n := 31) (Or.inr (Or.inl ⟨rfl, rfl, rfl⟩)) h5.2
      refine Ev_aald hq_65 (show decode prog_4_method_4_code 32 = .ok (.aaload, 1) by decide +kernel) (SGn hS (by decide)) (Or.inr (SGk hS rfl)) (SGi hS rfl h5) r6.1 ?_
      refine Ev_iload_n hq_65 (show decode prog_4_method_4_code 33 = .ok (.iload_n 2, 1) by decide +kernel) rfl ?_
      obtain ⟨h7, k⟩ := k
      refine Ev_iald hq_65 (show decode prog_4_method_4_code 34 = .ok (.iaload, 1) by decide +kernel) r6.2.1 r6.2.2.1 (by rw [r6.2.2.2]; exact h7) ?_
      refine Ev_aload_n hq_65 (show decode prog_4_method_4_code 35 = .ok (.aload_n 0, 1) by decide +kernel) rfl ?_
      refine Ev_getR hq_65 (show decode prog_4_method_4_code 36 = .ok (.getfield 16, 3) by decide +kernel) rfl (SGn hS (by decide)) (SGk hS rfl) (by decide) rfl (SGr hS rfl) ?_
      refine Ev_iload_n hq_65 (show decode prog_4_method_4_code 39 = .ok (.iload_n 3, 1) by decide +kernel) rfl ?_
      obtain ⟨h8, k⟩ := k
      have r9 := SGrow hS (a := 31) (b := 32) (n := 31) (Or.inr (Or.inl ⟨rfl, rfl, rfl⟩)) h8.2
      refine Ev_aald hq_65 (show decode prog_4_method_4_code 40 = .ok (.aaload, 1) by decide +kernel) (SGn hS (by decide)) (Or.inr (SGk hS rfl)) (SGi hS rfl h8) r9.1 ?_
      refine Ev_iload_n hq_65 (show decode prog_4_method_4_code 41 = .ok (.iload_n 2, 1) by decide +kernel) rfl ?_
      obtain ⟨h10, k⟩ := k
      refine Ev_iald hq_65 (show decode prog_4_method_4_code 42 = .ok (.iaload, 1) by decide +kernel) r9.2.1 r9.2.2.1 (by rw [r9.2.2.2]; exact h10) ?_
      refine Ev_icmp_le (tgt := 49) hq_65 (show decode prog_4_method_4_code 43 = .ok (.if_icmp .le 6, 3) by decide +kernel) (by decide) (fun c11 => ?_) (fun c11 => ?_)
      · have k := k.1 c11
        obtain ⟨y12, ey12⟩ : ∃ y12 : Int32, y12 = x5 + 1 := ⟨_, rfl⟩
        have k := k y12 ey12
        refine Ev_iinc (v := y12) (lo2 := [.ref 25, .ref o, .int x2, .int x3, .int x4, .int y12]) hq_65 (show decode prog_4_method_4_code 49 = .ok (.iinc 5 1, 3) by decide +kernel) rfl (by rw [ey12]; rfl) rfl ?_
        refine Ev_goto (tgt := 6) hq_65 (show decode prog_4_method_4_code 52 = .ok (.goto (-46), 3) by decide +kernel) (by decide) ?_
        exact k
      · have k := k.2 c11
        obtain ⟨y13, ey13⟩ : ∃ y13 : Int32, y13 = x4 + 1 := ⟨_, rfl⟩
        have k := k y13 ey13
        refine Ev_iinc (v := y13) (lo2 := [.ref 25, .ref o, .int x2, .int x3, .int y13, .int x5]) hq_65 (show decode prog_4_method_4_code 46 = .ok (.iinc 4 1, 3) by decide +kernel) rfl (by rw [ey13]; rfl) rfl ?_
        obtain ⟨y14, ey14⟩ : ∃ y14 : Int32, y14 = x5 + 1 := ⟨_, rfl⟩
        have k := k y14 ey14
        refine Ev_iinc (v := y14) (lo2 := [.ref 25, .ref o, .int x2, .int x3, .int y13, .int y14]) hq_65 (show decode prog_4_method_4_code 49 = .ok (.iinc 5 1, 3) by decide +kernel) rfl (by rw [ey14]; rfl) rfl ?_
        refine Ev_goto (tgt := 6) hq_65 (show decode prog_4_method_4_code 52 = .ok (.goto (-46), 3) by decide +kernel) (by decide) ?_
        exact k
set_option maxRecDepth 20000 in
theorem wp_T_feltWarm {X : Nat × (Nat → Int32)} {d : Nat} {G : zG} {I : zI} {res : Option Value × zG × zI} (x0 : Int32) (x1 : Int32) (x2 : Int32) (x3 : Int32) (x4 : Int32) 
    (k : (x0 = 1 → ∀ y2 : Int32, y2 = (x2 - (((2 * x1) + 1) * x3)) → (¬ x0 = 3 → res = (some (.int (f_T_bounded y2 0 999)), G, I)) ∧ (x0 = 3 → (¬ ((if 0 < x1 then x1 else 0) + 2) = 0) ∧ ((¬ (x4 - x4 / ((if 0 < x1 then x1 else 0) + 2) * ((if 0 < x1 then x1 else 0) + 2)) = (x1 + 1) → res = (some (.int (f_T_bounded y2 0 999)), G, I)) ∧ ((x4 - x4 / ((if 0 < x1 then x1 else 0) + 2) * ((if 0 < x1 then x1 else 0) + 2)) = (x1 + 1) → ∀ y6 : Int32, y6 = (y2 / 2) → res = (some (.int (f_T_bounded y6 0 999)), G, I))))) ∧ (¬ x0 = 1 → (¬ x0 = 3 → (¬ x0 = 3 → res = (some (.int (f_T_bounded x2 0 999)), G, I)) ∧ (x0 = 3 → (¬ ((if 0 < x1 then x1 else 0) + 2) = 0) ∧ ((¬ (x4 - x4 / ((if 0 < x1 then x1 else 0) + 2) * ((if 0 < x1 then x1 else 0) + 2)) = (x1 + 1) → res = (some (.int (f_T_bounded x2 0 999)), G, I)) ∧ ((x4 - x4 / ((if 0 < x1 then x1 else 0) + 2) * ((if 0 < x1 then x1 else 0) + 2)) = (x1 + 1) → ∀ y11 : Int32, y11 = (x2 / 2) → res = (some (.int (f_T_bounded y11 0 999)), G, I))))) ∧ (x0 = 3 → ∀ y12 : Int32, y12 = (x2 - (((2 * x1) + 1) * x3)) → (¬ x0 = 3 → res = (some (.int (f_T_bounded y12 0 999)), G, I)) ∧ (x0 = 3 → (¬ ((if 0 < x1 then x1 else 0) + 2) = 0) ∧ ((¬ (x4 - x4 / ((if 0 < x1 then x1 else 0) + 2) * ((if 0 < x1 then x1 else 0) + 2)) = (x1 + 1) → res = (some (.int (f_T_bounded y12 0 999)), G, I)) ∧ ((x4 - x4 / ((if 0 < x1 then x1 else 0) + 2) * ((if 0 < x1 then x1 else 0) + 2)) = (x1 + 1) → ∀ y16 : Int32, y16 = (y12 / 2) → res = (some (.int (f_T_bounded y16 0 999)), G, I))))))) :
    Ev X (d + 1) 66 0 [.int x0, .int x1, .int x2, .int x3, .int x4, zU] [] G I res := by
  refine Ev_iload_n hq_66 (show decode prog_1_method_19_code 0 = .ok (.iload_n 2, 1) by decide +kernel) rfl ?_
  refine Ev_istore (lo2 := [.int x0, .int x1, .int x2, .int x3, .int x4, .int x2]) hq_66 (show decode prog_1_method_19_code 1 = .ok (.istore 5, 2) by decide +kernel) (z_le rfl) rfl ?_
  refine Ev_iload_n hq_66 (show decode prog_1_method_19_code 3 = .ok (.iload_n 0, 1) by decide +kernel) rfl ?_
  refine Ev_iconst (v := 1) hq_66 (show decode prog_1_method_19_code 4 = .ok (.iconst 1, 1) by decide +kernel) (by decide) ?_
  refine Ev_icmp_eq (tgt := 13) hq_66 (show decode prog_1_method_19_code 5 = .ok (.if_icmp .eq 8, 3) by decide +kernel) (by decide) (fun c1 => ?_) (fun c1 => ?_)
  · have k := k.1 c1
    refine Ev_iload hq_66 (show decode prog_1_method_19_code 13 = .ok (.iload 5, 2) by decide +kernel) rfl ?_
    refine Ev_iconst (v := 2) hq_66 (show decode prog_1_method_19_code 15 = .ok (.iconst 2, 1) by decide +kernel) (by decide) ?_
    refine Ev_iload_n hq_66 (show decode prog_1_method_19_code 16 = .ok (.iload_n 1, 1) by decide +kernel) rfl ?_
    refine Ev_imul hq_66 (show decode prog_1_method_19_code 17 = .ok (.imul, 1) by decide +kernel) ?_
    refine Ev_iconst (v := 1) hq_66 (show decode prog_1_method_19_code 18 = .ok (.iconst 1, 1) by decide +kernel) (by decide) ?_
    refine Ev_iadd hq_66 (show decode prog_1_method_19_code 19 = .ok (.iadd, 1) by decide +kernel) ?_
    refine Ev_iload_n hq_66 (show decode prog_1_method_19_code 20 = .ok (.iload_n 3, 1) by decide +kernel) rfl ?_
    refine Ev_imul hq_66 (show decode prog_1_method_19_code 21 = .ok (.imul, 1) by decide +kernel) ?_
    refine Ev_isub hq_66 (show decode prog_1_method_19_code 22 = .ok (.isub, 1) by decide +kernel) ?_
    obtain ⟨y2, ey2⟩ : ∃ y2 : Int32, y2 = (x2 - (((2 * x1) + 1) * x3)) := ⟨_, rfl⟩
    have k := k y2 ey2
    rw [← ey2]
    refine Ev_istore (lo2 := [.int x0, .int x1, .int x2, .int x3, .int x4, .int y2]) hq_66 (show decode prog_1_method_19_code 23 = .ok (.istore 5, 2) by decide +kernel) (z_le rfl) rfl ?_
    refine Ev_iload_n hq_66 (show decode prog_1_method_19_code 25 = .ok (.iload_n 0, 1) by decide +kernel) rfl ?_
    refine Ev_iconst (v := 3) hq_66 (show decode prog_1_method_19_code 26 = .ok (.iconst 3, 1) by decide +kernel) (by decide) ?_
    refine Ev_icmp_ne (tgt := 52) hq_66 (show decode prog_1_method_19_code 27 = .ok (.if_icmp .ne 25, 3) by decide +kernel) (by decide) (fun c3 => ?_) (fun c3 => ?_)
    · have k := k.1 c3
      refine Ev_iload hq_66 (show decode prog_1_method_19_code 52 = .ok (.iload 5, 2) by decide +kernel) rfl ?_
      refine Ev_iconst (v := 0) hq_66 (show decode prog_1_method_19_code 54 = .ok (.iconst 0, 1) by decide +kernel) (by decide) ?_
      refine Ev_sipush (v := 999) hq_66 (show decode prog_1_method_19_code 55 = .ok (.sipush 999, 3) by decide +kernel) (by decide) ?_
      refine Ev_stat (as := [.int y2, .int 0, .int 999]) hq_66 (show decode prog_1_method_19_code 58 = .ok (.invokestatic 171, 3) by decide +kernel) rfl (Or.inl rfl) hq_13 rfl (z_le rfl) (c_T_bounded y2 0 999) ?_
      exact Ev_iret hq_66 (show decode prog_1_method_19_code 61 = .ok (.ireturn, 1) by decide +kernel) rfl k
    · have k := k.2 (Classical.not_not.mp c3)
      refine Ev_iload hq_66 (show decode prog_1_method_19_code 30 = .ok (.iload 4, 2) by decide +kernel) rfl ?_
      refine Ev_iconst (v := 0) hq_66 (show decode prog_1_method_19_code 32 = .ok (.iconst 0, 1) by decide +kernel) (by decide) ?_
      refine Ev_iload_n hq_66 (show decode prog_1_method_19_code 33 = .ok (.iload_n 1, 1) by decide +kernel) rfl ?_
      refine Ev_max hq_66 (show decode prog_1_method_19_code 34 = .ok (.invokestatic 168, 3) by decide +kernel) rfl (z_le rfl) ?_
      refine Ev_iconst (v := 2) hq_66 (show decode prog_1_method_19_code 37 = .ok (.iconst 2, 1) by decide +kernel) (by decide) ?_
      refine Ev_iadd hq_66 (show decode prog_1_method_19_code 38 = .ok (.iadd, 1) by decide +kernel) ?_
      obtain ⟨h4, k⟩ := k
      refine Ev_irem hq_66 (show decode prog_1_method_19_code 39 = .ok (.irem, 1) by decide +kernel) h4 ?_
      refine Ev_iload_n hq_66 (show decode prog_1_method_19_code 40 = .ok (.iload_n 1, 1) by decide +kernel) rfl ?_
      refine Ev_iconst (v := 1) hq_66 (show decode prog_1_method_19_code 41 = .ok (.iconst 1, 1) by decide +kernel) (by decide) ?_
      refine Ev_iadd hq_66 (show decode prog_1_method_19_code 42 = .ok (.iadd, 1) by decide +kernel) ?_
      refine Ev_icmp_ne (tgt := 52) hq_66 (show decode prog_1_method_19_code 43 = .ok (.if_icmp .ne 9, 3) by decide +kernel) (by decide) (fun c5 => ?_) (fun c5 => ?_)
      · have k := k.1 c5
        refine Ev_iload hq_66 (show decode prog_1_method_19_code 52 = .ok (.iload 5, 2) by decide +kernel) rfl ?_
        refine Ev_iconst (v := 0) hq_66 (show decode prog_1_method_19_code 54 = .ok (.iconst 0, 1) by decide +kernel) (by decide) ?_
        refine Ev_sipush (v := 999) hq_66 (show decode prog_1_method_19_code 55 = .ok (.sipush 999, 3) by decide +kernel) (by decide) ?_
        refine Ev_stat (as := [.int y2, .int 0, .int 999]) hq_66 (show decode prog_1_method_19_code 58 = .ok (.invokestatic 171, 3) by decide +kernel) rfl (Or.inl rfl) hq_13 rfl (z_le rfl) (c_T_bounded y2 0 999) ?_
        exact Ev_iret hq_66 (show decode prog_1_method_19_code 61 = .ok (.ireturn, 1) by decide +kernel) rfl k
      · have k := k.2 (Classical.not_not.mp c5)
        refine Ev_iload hq_66 (show decode prog_1_method_19_code 46 = .ok (.iload 5, 2) by decide +kernel) rfl ?_
        refine Ev_iconst (v := 2) hq_66 (show decode prog_1_method_19_code 48 = .ok (.iconst 2, 1) by decide +kernel) (by decide) ?_
        refine Ev_idiv hq_66 (show decode prog_1_method_19_code 49 = .ok (.idiv, 1) by decide +kernel) (by decide) ?_
        obtain ⟨y6, ey6⟩ : ∃ y6 : Int32, y6 = (y2 / 2) := ⟨_, rfl⟩
        have k := k y6 ey6
        rw [← ey6]
        refine Ev_istore (lo2 := [.int x0, .int x1, .int x2, .int x3, .int x4, .int y6]) hq_66 (show decode prog_1_method_19_code 50 = .ok (.istore 5, 2) by decide +kernel) (z_le rfl) rfl ?_
        refine Ev_iload hq_66 (show decode prog_1_method_19_code 52 = .ok (.iload 5, 2) by decide +kernel) rfl ?_
        refine Ev_iconst (v := 0) hq_66 (show decode prog_1_method_19_code 54 = .ok (.iconst 0, 1) by decide +kernel) (by decide) ?_
        refine Ev_sipush (v := 999) hq_66 (show decode prog_1_method_19_code 55 = .ok (.sipush 999, 3) by decide +kernel) (by decide) ?_
        refine Ev_stat (as := [.int y6, .int 0, .int 999]) hq_66 (show decode prog_1_method_19_code 58 = .ok (.invokestatic 171, 3) by decide +kernel) rfl (Or.inl rfl) hq_13 rfl (z_le rfl) (c_T_bounded y6 0 999) ?_
        exact Ev_iret hq_66 (show decode prog_1_method_19_code 61 = .ok (.ireturn, 1) by decide +kernel) rfl k
  · have k := k.2 c1
    refine Ev_iload_n hq_66 (show decode prog_1_method_19_code 8 = .ok (.iload_n 0, 1) by decide +kernel) rfl ?_
    refine Ev_iconst (v := 3) hq_66 (show decode prog_1_method_19_code 9 = .ok (.iconst 3, 1) by decide +kernel) (by decide) ?_
    refine Ev_icmp_ne (tgt := 25) hq_66 (show decode prog_1_method_19_code 10 = .ok (.if_icmp .ne 15, 3) by decide +kernel) (by decide) (fun c7 => ?_) (fun c7 => ?_)
    · have k := k.1 c7
      refine Ev_iload_n hq_66 (show decode prog_1_method_19_code 25 = .ok (.iload_n 0, 1) by decide +kernel) rfl ?_
      refine Ev_iconst (v := 3) hq_66 (show decode prog_1_method_19_code 26 = .ok (.iconst 3, 1) by decide +kernel) (by decide) ?_
      refine Ev_icmp_ne (tgt := 52) hq_66 (show decode prog_1_method_19_code 27 = .ok (.if_icmp .ne 25, 3) by decide +kernel) (by decide) (fun c8 => ?_) (fun c8 => ?_)
      · have k := k.1 c8
        refine Ev_iload hq_66 (show decode prog_1_method_19_code 52 = .ok (.iload 5, 2) by decide +kernel) rfl ?_
        refine Ev_iconst (v := 0) hq_66 (show decode prog_1_method_19_code 54 = .ok (.iconst 0, 1) by decide +kernel) (by decide) ?_
        refine Ev_sipush (v := 999) hq_66 (show decode prog_1_method_19_code 55 = .ok (.sipush 999, 3) by decide +kernel) (by decide) ?_
        refine Ev_stat (as := [.int x2, .int 0, .int 999]) hq_66 (show decode prog_1_method_19_code 58 = .ok (.invokestatic 171, 3) by decide +kernel) rfl (Or.inl rfl) hq_13 rfl (z_le rfl) (c_T_bounded x2 0 999) ?_
        exact Ev_iret hq_66 (show decode prog_1_method_19_code 61 = .ok (.ireturn, 1) by decide +kernel) rfl k
      · have k := k.2 (Classical.not_not.mp c8)
        refine Ev_iload hq_66 (show decode prog_1_method_19_code 30 = .ok (.iload 4, 2) by decide +kernel) rfl ?_
        refine Ev_iconst (v := 0) hq_66 (show decode prog_1_method_19_code 32 = .ok (.iconst 0, 1) by decide +kernel) (by decide) ?_
        refine Ev_iload_n hq_66 (show decode prog_1_method_19_code 33 = .ok (.iload_n 1, 1) by decide +kernel) rfl ?_
        refine Ev_max hq_66 (show decode prog_1_method_19_code 34 = .ok (.invokestatic 168, 3) by decide +kernel) rfl (z_le rfl) ?_
        refine Ev_iconst (v := 2) hq_66 (show decode prog_1_method_19_code 37 = .ok (.iconst 2, 1) by decide +kernel) (by decide) ?_
        refine Ev_iadd hq_66 (show decode prog_1_method_19_code 38 = .ok (.iadd, 1) by decide +kernel) ?_
        obtain ⟨h9, k⟩ := k
        refine Ev_irem hq_66 (show decode prog_1_method_19_code 39 = .ok (.irem, 1) by decide +kernel) h9 ?_
        refine Ev_iload_n hq_66 (show decode prog_1_method_19_code 40 = .ok (.iload_n 1, 1) by decide +kernel) rfl ?_
        refine Ev_iconst (v := 1) hq_66 (show decode prog_1_method_19_code 41 = .ok (.iconst 1, 1) by decide +kernel) (by decide) ?_
        refine Ev_iadd hq_66 (show decode prog_1_method_19_code 42 = .ok (.iadd, 1) by decide +kernel) ?_
        refine Ev_icmp_ne (tgt := 52) hq_66 (show decode prog_1_method_19_code 43 = .ok (.if_icmp .ne 9, 3) by decide +kernel) (by decide) (fun c10 => ?_) (fun c10 => ?_)
        · have k := k.1 c10
          refine Ev_iload hq_66 (show decode prog_1_method_19_code 52 = .ok (.iload 5, 2) by decide +kernel) rfl ?_
          refine Ev_iconst (v := 0) hq_66 (show decode prog_1_method_19_code 54 = .ok (.iconst 0, 1) by decide +kernel) (by decide) ?_
          refine Ev_sipush (v := 999) hq_66 (show decode prog_1_method_19_code 55 = .ok (.sipush 999, 3) by decide +kernel) (by decide) ?_
          refine Ev_stat (as := [.int x2, .int 0, .int 999]) hq_66 (show decode prog_1_method_19_code 58 = .ok (.invokestatic 171, 3) by decide +kernel) rfl (Or.inl rfl) hq_13 rfl (z_le rfl) (c_T_bounded x2 0 999) ?_
          exact Ev_iret hq_66 (show decode prog_1_method_19_code 61 = .ok (.ireturn, 1) by decide +kernel) rfl k
        · have k := k.2 (Classical.not_not.mp c10)
          refine Ev_iload hq_66 (show decode prog_1_method_19_code 46 = .ok (.iload 5, 2) by decide +kernel) rfl ?_
          refine Ev_iconst (v := 2) hq_66 (show decode prog_1_method_19_code 48 = .ok (.iconst 2, 1) by decide +kernel) (by decide) ?_
          refine Ev_idiv hq_66 (show decode prog_1_method_19_code 49 = .ok (.idiv, 1) by decide +kernel) (by decide) ?_
          obtain ⟨y11, ey11⟩ : ∃ y11 : Int32, y11 = (x2 / 2) := ⟨_, rfl⟩
          have k := k y11 ey11
          rw [← ey11]
          refine Ev_istore (lo2 := [.int x0, .int x1, .int x2, .int x3, .int x4, .int y11]) hq_66 (show decode prog_1_method_19_code 50 = .ok (.istore 5, 2) by decide +kernel) (z_le rfl) rfl ?_
          refine Ev_iload hq_66 (show decode prog_1_method_19_code 52 = .ok (.iload 5, 2) by decide +kernel) rfl ?_
          refine Ev_iconst (v := 0) hq_66 (show decode prog_1_method_19_code 54 = .ok (.iconst 0, 1) by decide +kernel) (by decide) ?_
          refine Ev_sipush (v := 999) hq_66 (show decode prog_1_method_19_code 55 = .ok (.sipush 999, 3) by decide +kernel) (by decide) ?_
          refine Ev_stat (as := [.int y11, .int 0, .int 999]) hq_66 (show decode prog_1_method_19_code 58 = .ok (.invokestatic 171, 3) by decide +kernel) rfl (Or.inl rfl) hq_13 rfl (z_le rfl) (c_T_bounded y11 0 999) ?_
          exact Ev_iret hq_66 (show decode prog_1_method_19_code 61 = .ok (.ireturn, 1) by decide +kernel) rfl k
    · have k := k.2 (Classical.not_not.mp c7)
      refine Ev_iload hq_66 (show decode prog_1_method_19_code 13 = .ok (.iload 5, 2) by decide +kernel) rfl ?_
      refine Ev_iconst (v := 2) hq_66 (show decode prog_1_method_19_code 15 = .ok (.iconst 2, 1) by decide +kernel) (by decide) ?_
      refine Ev_iload_n hq_66 (show decode prog_1_method_19_code 16 = .ok (.iload_n 1, 1) by decide +kernel) rfl ?_
      refine Ev_imul hq_66 (show decode prog_1_method_19_code 17 = .ok (.imul, 1) by decide +kernel) ?_
      refine Ev_iconst (v := 1) hq_66 (show decode prog_1_method_19_code 18 = .ok (.iconst 1, 1) by decide +kernel) (by decide) ?_
      refine Ev_iadd hq_66 (show decode prog_1_method_19_code 19 = .ok (.iadd, 1) by decide +kernel) ?_
      refine Ev_iload_n hq_66 (show decode prog_1_method_19_code 20 = .ok (.iload_n 3, 1) by decide +kernel) rfl ?_
      refine Ev_imul hq_66 (show decode prog_1_method_19_code 21 = .ok (.imul, 1) by decide +kernel) ?_
      refine Ev_isub hq_66 (show decode prog_1_method_19_code 22 = .ok (.isub, 1) by decide +kernel) ?_
      obtain ⟨y12, ey12⟩ : ∃ y12 : Int32, y12 = (x2 - (((2 * x1) + 1) * x3)) := ⟨_, rfl⟩
      have k := k y12 ey12
      rw [← ey12]
      refine Ev_istore (lo2 := [.int x0, .int x1, .int x2, .int x3, .int x4, .int y12]) hq_66 (show decode prog_1_method_19_code 23 = .ok (.istore 5, 2) by decide +kernel) (z_le rfl) rfl ?_
      refine Ev_iload_n hq_66 (show decode prog_1_method_19_code 25 = .ok (.iload_n 0, 1) by decide +kernel) rfl ?_
      refine Ev_iconst (v := 3) hq_66 (show decode prog_1_method_19_code 26 = .ok (.iconst 3, 1) by decide +kernel) (by decide) ?_
      refine Ev_icmp_ne (tgt := 52) hq_66 (show decode prog_1_method_19_code 27 = .ok (.if_icmp .ne 25, 3) by decide +kernel) (by decide) (fun c13 => ?_) (fun c13 => ?_)
      · have k := k.1 c13
        refine Ev_iload hq_66 (show decode prog_1_method_19_code 52 = .ok (.iload 5, 2) by decide +kernel) rfl ?_
        refine Ev_iconst (v := 0) hq_66 (show decode prog_1_method_19_code 54 = .ok (.iconst 0, 1) by decide +kernel) (by decide) ?_
        refine Ev_sipush (v := 999) hq_66 (show decode prog_1_method_19_code 55 = .ok (.sipush 999, 3) by decide +kernel) (by decide) ?_
        refine Ev_stat (as := [.int y12, .int 0, .int 999]) hq_66 (show decode prog_1_method_19_code 58 = .ok (.invokestatic 171, 3) by decide +kernel) rfl (Or.inl rfl) hq_13 rfl (z_le rfl) (c_T_bounded y12 0 999) ?_
        exact Ev_iret hq_66 (show decode prog_1_method_19_code 61 = .ok (.ireturn, 1) by decide +kernel) rfl k
      · have k := k.2 (Classical.not_not.mp c13)
        refine Ev_iload hq_66 (show decode prog_1_method_19_code 30 = .ok (.iload 4, 2) by decide +kernel) rfl ?_
        refine Ev_iconst (v := 0) hq_66 (show decode prog_1_method_19_code 32 = .ok (.iconst 0, 1) by decide +kernel) (by decide) ?_
        refine Ev_iload_n hq_66 (show decode prog_1_method_19_code 33 = .ok (.iload_n 1, 1) by decide +kernel) rfl ?_
        refine Ev_max hq_66 (show decode prog_1_method_19_code 34 = .ok (.invokestatic 168, 3) by decide +kernel) rfl (z_le rfl) ?_
        refine Ev_iconst (v := 2) hq_66 (show decode prog_1_method_19_code 37 = .ok (.iconst 2, 1) by decide +kernel) (by decide) ?_
        refine Ev_iadd hq_66 (show decode prog_1_method_19_code 38 = .ok (.iadd, 1) by decide +kernel) ?_
        obtain ⟨h14, k⟩ := k
        refine Ev_irem hq_66 (show decode prog_1_method_19_code 39 = .ok (.irem, 1) by decide +kernel) h14 ?_
        refine Ev_iload_n hq_66 (show decode prog_1_method_19_code 40 = .ok (.iload_n 1, 1) by decide +kernel) rfl ?_
        refine Ev_iconst (v := 1) hq_66 (show decode prog_1_method_19_code 41 = .ok (.iconst 1, 1) by decide +kernel) (by decide) ?_
        refine Ev_iadd hq_66 (show decode prog_1_method_19_code 42 = .ok (.iadd, 1) by decide +kernel) ?_
        refine Ev_icmp_ne (tgt := 52) hq_66 (show decode prog_1_method_19_code 43 = .ok (.if_icmp .ne 9, 3) by decide +kernel) (by decide) (fun c15 => ?_) (fun c15 => ?_)
        · have k := k.1 c15
          refine Ev_iload hq_66 (show decode prog_1_method_19_code 52 = .ok (.iload 5, 2) by decide +kernel) rfl ?_
          refine Ev_iconst (v := 0) hq_66 (show decode prog_1_method_19_code 54 = .ok (.iconst 0, 1) by decide +kernel) (by decide) ?_
          refine Ev_sipush (v := 999) hq_66 (show decode prog_1_method_19_code 55 = .ok (.sipush 999, 3) by decide +kernel) (by decide) ?_
          refine Ev_stat (as := [.int y12, .int 0, .int 999]) hq_66 (show decode prog_1_method_19_code 58 = .ok (.invokestatic 171, 3) by decide +kernel) rfl (Or.inl rfl) hq_13 rfl (z_le rfl) (c_T_bounded y12 0 999) ?_
          exact Ev_iret hq_66 (show decode prog_1_method_19_code 61 = .ok (.ireturn, 1) by decide +kernel) rfl k
        · have k := k.2 (Classical.not_not.mp c15)
          refine Ev_iload hq_66 (show decode prog_1_method_19_code 46 = .ok (.iload 5, 2) by decide +kernel) rfl ?_
          refine Ev_iconst (v := 2) hq_66 (show decode prog_1_method_19_code 48 = .ok (.iconst 2, 1) by decide +kernel) (by decide) ?_
          refine Ev_idiv hq_66 (show decode prog_1_method_19_code 49 = .ok (.idiv, 1) by decide +kernel) (by decide) ?_
          obtain ⟨y16, ey16⟩ : ∃ y16 : Int32, y16 = (y12 / 2) := ⟨_, rfl⟩
          have k := k y16 ey16
          rw [← ey16]
          refine Ev_istore (lo2 := [.int x0, .int x1, .int x2, .int x3, .int x4, .int y16]) hq_66 (show decode prog_1_method_19_code 50 = .ok (.istore 5, 2) by decide +kernel) (z_le rfl) rfl ?_
          refine Ev_iload hq_66 (show decode prog_1_method_19_code 52 = .ok (.iload 5, 2) by decide +kernel) rfl ?_
          refine Ev_iconst (v := 0) hq_66 (show decode prog_1_method_19_code 54 = .ok (.iconst 0, 1) by decide +kernel) (by decide) ?_
          refine Ev_sipush (v := 999) hq_66 (show decode prog_1_method_19_code 55 = .ok (.sipush 999, 3) by decide +kernel) (by decide) ?_
          refine Ev_stat (as := [.int y16, .int 0, .int 999]) hq_66 (show decode prog_1_method_19_code 58 = .ok (.invokestatic 171, 3) by decide +kernel) rfl (Or.inl rfl) hq_13 rfl (z_le rfl) (c_T_bounded y16 0 999) ?_
          exact Ev_iret hq_66 (show decode prog_1_method_19_code 61 = .ok (.ireturn, 1) by decide +kernel) rfl k
