set_option maxRecDepth 20000 in
theorem wp_Z_two {X : Nat × (Nat → Int32)} {d : Nat} {G : zG} {I : zI} {res : Option Value × zG × zI} (x0 : Int32) (x1 : Int32) (x2 : Int32) 
    (k : (x0 = 11 → (¬ x1 = 0 → res = (some (.int 1), G, I)) ∧ (x1 = 0 → (x2 = 0 → res = (some (.int 0), G, I)) ∧ (¬ x2 = 0 → res = (some (.int 1), G, I)))) ∧ (¬ x0 = 11 → (x0 = 12 → (x1 = 0 → res = (some (.int 0), G, I)) ∧ (¬ x1 = 0 → (x2 = 0 → res = (some (.int 0), G, I)) ∧ (¬ x2 = 0 → res = (some (.int 1), G, I)))) ∧ (¬ x0 = 12 → (x0 = 13 → res = (some (.int (x1 * x2)), G, I)) ∧ (¬ x0 = 13 → (x0 = 14 → (x2 ≤ x1 → res = (some (.int 0), G, I)) ∧ (¬ x2 ≤ x1 → res = (some (.int 1), G, I))) ∧ (¬ x0 = 14 → (x0 = 15 → (¬ x1 = x2 → res = (some (.int 0), G, I)) ∧ (x1 = x2 → res = (some (.int 1), G, I))) ∧ (¬ x0 = 15 → (x0 = 16 → res = (some (.int (x1 + x2)), G, I)) ∧ (¬ x0 = 16 → (x0 = 17 → res = (some (.int (x1 - x2)), G, I)) ∧ (¬ x0 = 17 → res = (some (.int (x1 * x2)), G, I))))))))) :
    Ev X d 151 0 [.int x0, .int x1, .int x2] [] G I res := by
  refine Ev_iload_n hq_151 (show decode prog_7_method_24_code 0 = .ok (.iload_n 0, 1) by decide +kernel) rfl ?_
  by_cases c1 : x0 = 11
  · have k := k.1 c1
    refine Ev_tableIn (off := 43) (tgt := 44) hq_151 (show decode prog_7_method_24_code 1 = .ok (.tableswitch 101 11 17 #[43, 57, 101, 71, 82, 93, 97], 43) by decide +kernel) (by rw [c1]; decide) (by rw [c1]; decide) (by rw [c1]; decide) (by decide) ?_
    refine Ev_iload_n hq_151 (show decode prog_7_method_24_code 44 = .ok (.iload_n 1, 1) by decide +kernel) rfl ?_
    refine Ev_if_ne (tgt := 52) hq_151 (show decode prog_7_method_24_code 45 = .ok (.ifCond .ne 7, 3) by decide +kernel) (by decide) (fun c2 => ?_) (fun c2 => ?_)
    · have k := k.1 c2
      refine Ev_iconst (v := 1) hq_151 (show decode prog_7_method_24_code 52 = .ok (.iconst 1, 1) by decide +kernel) (by decide) ?_
      refine Ev_goto (tgt := 57) hq_151 (show decode prog_7_method_24_code 53 = .ok (.goto 4, 3) by decide +kernel) (by decide) ?_
      exact Ev_iret hq_151 (show decode prog_7_method_24_code 57 = .ok (.ireturn, 1) by decide +kernel) rfl k
    · have k := k.2 (Classical.not_not.mp c2)
      refine Ev_iload_n hq_151 (show decode prog_7_method_24_code 48 = .ok (.iload_n 2, 1) by decide +kernel) rfl ?_
      refine Ev_if_eq (tgt := 56) hq_151 (show decode prog_7_method_24_code 49 = .ok (.ifCond .eq 7, 3) by decide +kernel) (by decide) (fun c3 => ?_) (fun c3 => ?_)
      · have k := k.1 c3
        refine Ev_iconst (v := 0) hq_151 (show decode prog_7_method_24_code 56 = .ok (.iconst 0, 1) by decide +kernel) (by decide) ?_
        exact Ev_iret hq_151 (show decode prog_7_method_24_code 57 = .ok (.ireturn, 1) by decide +kernel) rfl k
      · have k := k.2 c3
        refine Ev_iconst (v := 1) hq_151 (show decode prog_7_method_24_code 52 = .ok (.iconst 1, 1) by decide +kernel) (by decide) ?_
        refine Ev_goto (tgt := 57) hq_151 (show decode prog_7_method_24_code 53 = .ok (.goto 4, 3) by decide +kernel) (by decide) ?_
        exact Ev_iret hq_151 (show decode prog_7_method_24_code 57 = .ok (.ireturn, 1) by decide +kernel) rfl k
  have k := k.2 c1
  by_cases c4 : x0 = 12
  · have k := k.1 c4
    refine Ev_tableIn (off := 57) (tgt := 58) hq_151 (show decode prog_7_method_24_code 1 = .ok (.tableswitch 101 11 17 #[43, 57, 101, 71, 82, 93, 97], 43) by decide +kernel) (by rw [c4]; decide) (by rw [c4]; decide) (by rw [c4]; decide) (by decide) ?_
    refine Ev_iload_n hq_151 (show decode prog_7_method_24_code 58 = .ok (.iload_n 1, 1) by decide +kernel) rfl ?_
    refine Ev_if_eq (tgt := 70) hq_151 (show decode prog_7_method_24_code 59 = .ok (.ifCond .eq 11, 3) by decide +kernel) (by decide) (fun c5 => ?_) (fun c5 => ?_)
    · have k := k.1 c5
      refine Ev_iconst (v := 0) hq_151 (show decode prog_7_method_24_code 70 = .ok (.iconst 0, 1) by decide +kernel) (by decide) ?_
      exact Ev_iret hq_151 (show decode prog_7_method_24_code 71 = .ok (.ireturn, 1) by decide +kernel) rfl k
    · have k := k.2 c5
      refine Ev_iload_n hq_151 (show decode prog_7_method_24_code 62 = .ok (.iload_n 2, 1) by decide +kernel) rfl ?_
      refine Ev_if_eq (tgt := 70) hq_151 (show decode prog_7_method_24_code 63 = .ok (.ifCond .eq 7, 3) by decide +kernel) (by decide) (fun c6 => ?_) (fun c6 => ?_)
      · have k := k.1 c6
        refine Ev_iconst (v := 0) hq_151 (show decode prog_7_method_24_code 70 = .ok (.iconst 0, 1) by decide +kernel) (by decide) ?_
        exact Ev_iret hq_151 (show decode prog_7_method_24_code 71 = .ok (.ireturn, 1) by decide +kernel) rfl k
      · have k := k.2 c6
        refine Ev_iconst (v := 1) hq_151 (show decode prog_7_method_24_code 66 = .ok (.iconst 1, 1) by decide +kernel) (by decide) ?_
        refine Ev_goto (tgt := 71) hq_151 (show decode prog_7_method_24_code 67 = .ok (.goto 4, 3) by decide +kernel) (by decide) ?_
        exact Ev_iret hq_151 (show decode prog_7_method_24_code 71 = .ok (.ireturn, 1) by decide +kernel) rfl k
  have k := k.2 c4
  by_cases c7 : x0 = 13
  · have k := k.1 c7
    refine Ev_tableIn (off := 101) (tgt := 102) hq_151 (show decode prog_7_method_24_code 1 = .ok (.tableswitch 101 11 17 #[43, 57, 101, 71, 82, 93, 97], 43) by decide +kernel) (by rw [c7]; decide) (by rw [c7]; decide) (by rw [c7]; decide) (by decide) ?_
    refine Ev_iload_n hq_151 (show decode prog_7_method_24_code 102 = .ok (.iload_n 1, 1) by decide +kernel) rfl ?_
    refine Ev_iload_n hq_151 (show decode prog_7_method_24_code 103 = .ok (.iload_n 2, 1) by decide +kernel) rfl ?_
    refine Ev_imul hq_151 (show decode prog_7_method_24_code 104 = .ok (.imul, 1) by decide +kernel) ?_
    exact Ev_iret hq_151 (show decode prog_7_method_24_code 105 = .ok (.ireturn, 1) by decide +kernel) rfl k
  have k := k.2 c7
  by_cases c8 : x0 = 14
  · have k := k.1 c8
    refine Ev_tableIn (off := 71) (tgt := 72) hq_151 (show decode prog_7_method_24_code 1 = .ok (.tableswitch 101 11 17 #[43, 57, 101, 71, 82, 93, 97], 43) by decide +kernel) (by rw [c8]; decide) (by rw [c8]; decide) (by rw [c8]; decide) (by decide) ?_
    refine Ev_iload_n hq_151 (show decode prog_7_method_24_code 72 = .ok (.iload_n 1, 1) by decide +kernel) rfl ?_
    refine Ev_iload_n hq_151 (show decode prog_7_method_24_code 73 = .ok (.iload_n 2, 1) by decide +kernel) rfl ?_
    refine Ev_icmp_ge (tgt := 81) hq_151 (show decode prog_7_method_24_code 74 = .ok (.if_icmp .ge 7, 3) by decide +kernel) (by decide) (fun c9 => ?_) (fun c9 => ?_)
    · have k := k.1 c9
      refine Ev_iconst (v := 0) hq_151 (show decode prog_7_method_24_code 81 = .ok (.iconst 0, 1) by decide +kernel) (by decide) ?_
      exact Ev_iret hq_151 (show decode prog_7_method_24_code 82 = .ok (.ireturn, 1) by decide +kernel) rfl k
    · have k := k.2 c9
      refine Ev_iconst (v := 1) hq_151 (show decode prog_7_method_24_code 77 = .ok (.iconst 1, 1) by decide +kernel) (by decide) ?_
      refine Ev_goto (tgt := 82) hq_151 (show decode prog_7_method_24_code 78 = .ok (.goto 4, 3) by decide +kernel) (by decide) ?_
      exact Ev_iret hq_151 (show decode prog_7_method_24_code 82 = .ok (.ireturn, 1) by decide +kernel) rfl k
  have k := k.2 c8
  by_cases c10 : x0 = 15
  · have k := k.1 c10
    refine Ev_tableIn (off := 82) (tgt := 83) hq_151 (show decode prog_7_method_24_code 1 = .ok (.tableswitch 101 11 17 #[43, 57, 101, 71, 82, 93, 97], 43) by decide +kernel) (by rw [c10]; decide) (by rw [c10]; decide) (by rw [c10]; decide) (by decide) ?_
    refine Ev_iload_n hq_151 (show decode prog_7_method_24_code 83 = .ok (.iload_n 1, 1) by decide +kernel) rfl ?_
    refine Ev_iload_n hq_151 (show decode prog_7_method_24_code 84 = .ok (.iload_n 2, 1) by decide +kernel) rfl ?_
    refine Ev_icmp_ne (tgt := 92) hq_151 (show decode prog_7_method_24_code 85 = .ok (.if_icmp .ne 7, 3) by decide +kernel) (by decide) (fun c11 => ?_) (fun c11 => ?_)
    · have k := k.1 c11
      refine Ev_iconst (v := 0) hq_151 (show decode prog_7_method_24_code 92 = .ok (.iconst 0, 1) by decide +kernel) (by decide) ?_
      exact Ev_iret hq_151 (show decode prog_7_method_24_code 93 = .ok (.ireturn, 1) by decide +kernel) rfl k
    · have k := k.2 (Classical.not_not.mp c11)
      refine Ev_iconst (v := 1) hq_151 (show decode prog_7_method_24_code 88 = .ok (.iconst 1, 1) by decide +kernel) (by decide) ?_
      refine Ev_goto (tgt := 93) hq_151 (show decode prog_7_method_24_code 89 = .ok (.goto 4, 3) by decide +kernel) (by decide) ?_
      exact Ev_iret hq_151 (show decode prog_7_method_24_code 93 = .ok (.ireturn, 1) by decide +kernel) rfl k
  have k := k.2 c10
  by_cases c12 : x0 = 16
  · have k := k.1 c12
    refine Ev_tableIn (off := 93) (tgt := 94) hq_151 (show decode prog_7_method_24_code 1 = .ok (.tableswitch 101 11 17 #[43, 57, 101, 71, 82, 93, 97], 43) by decide +kernel) (by rw [c12]; decide) (by rw [c12]; decide) (by rw [c12]; decide) (by decide) ?_
    refine Ev_iload_n hq_151 (show decode prog_7_method_24_code 94 = .ok (.iload_n 1, 1) by decide +kernel) rfl ?_
    refine Ev_iload_n hq_151 (show decode prog_7_method_24_code 95 = .ok (.iload_n 2, 1) by decide +kernel) rfl ?_
    refine Ev_iadd hq_151 (show decode prog_7_method_24_code 96 = .ok (.iadd, 1) by decide +kernel) ?_
    exact Ev_iret hq_151 (show decode prog_7_method_24_code 97 = .ok (.ireturn, 1) by decide +kernel) rfl k
  have k := k.2 c12
  by_cases c13 : x0 = 17
  · have k := k.1 c13
    refine Ev_tableIn (off := 97) (tgt := 98) hq_151 (show decode prog_7_method_24_code 1 = .ok (.tableswitch 101 11 17 #[43, 57, 101, 71, 82, 93, 97], 43) by decide +kernel) (by rw [c13]; decide) (by rw [c13]; decide) (by rw [c13]; decide) (by decide) ?_
    refine Ev_iload_n hq_151 (show decode prog_7_method_24_code 98 = .ok (.iload_n 1, 1) by decide +kernel) rfl ?_
    refine Ev_iload_n hq_151 (show decode prog_7_method_24_code 99 = .ok (.iload_n 2, 1) by decide +kernel) rfl ?_
    refine Ev_isub hq_151 (show decode prog_7_method_24_code 100 = .ok (.isub, 1) by decide +kernel) ?_
    exact Ev_iret hq_151 (show decode prog_7_method_24_code 101 = .ok (.ireturn, 1) by decide +kernel) rfl k
  have k := k.2 c13
  have ec1 : (x0).toInt ≠ 11 := z_ne (k := 11) c1
  have ec4 : (x0).toInt ≠ 12 := z_ne (k := 12) c4
  have ec7 : (x0).toInt ≠ 13 := z_ne (k := 13) c7
  have ec8 : (x0).toInt ≠ 14 := z_ne (k := 14) c8
  have ec10 : (x0).toInt ≠ 15 := z_ne (k := 15) c10
  have ec12 : (x0).toInt ≠ 16 := z_ne (k := 16) c12
  have ec13 : (x0).toInt ≠ 17 := z_ne (k := 17) c13
  refine Ev_tableOut (tgt := 102) hq_151 (show decode prog_7_method_24_code 1 = .ok (.tableswitch 101 11 17 #[43, 57, 101, 71, 82, 93, 97], 43) by decide +kernel) (by omega) (by decide) ?_
  refine Ev_iload_n hq_151 (show decode prog_7_method_24_code 102 = .ok (.iload_n 1, 1) by decide +kernel) rfl ?_
  refine Ev_iload_n hq_151 (show decode prog_7_method_24_code 103 = .ok (.iload_n 2, 1) by decide +kernel) rfl ?_
  refine Ev_imul hq_151 (show decode prog_7_method_24_code 104 = .ok (.imul, 1) by decide +kernel) ?_
  exact Ev_iret hq_151 (show decode prog_7_method_24_code 105 = .ok (.ireturn, 1) by decide +kernel) rfl k
set_option maxRecDepth 20000 in
theorem wp_Z_within {X : Nat × (Nat → Int32)} {d : Nat} {G : zG} {I : zI} {res : Option Value × zG × zI} (x0 : Int32) (x1 : Int32) (x2 : Int32) 
    (k : (x1 ≤ x0 → (x0 ≤ x2 → res = (some (.int x0), G, I)) ∧ (¬ x0 ≤ x2 → res = (some (.int x2), G, I))) ∧ (¬ x1 ≤ x0 → res = (some (.int x1), G, I))) :
    Ev X d 152 0 [.int x0, .int x1, .int x2] [] G I res := by
  refine Ev_iload_n hq_152 (show decode prog_7_method_4_code 0 = .ok (.iload_n 0, 1) by decide +kernel) rfl ?_
  refine Ev_iload_n hq_152 (show decode prog_7_method_4_code 1 = .ok (.iload_n 1, 1) by decide +kernel) rfl ?_
  refine Ev_icmp_ge (tgt := 9) hq_152 (show decode prog_7_method_4_code 2 = .ok (.if_icmp .ge 7, 3) by decide +kernel) (by decide) (fun c1 => ?_) (fun c1 => ?_)
  · have k := k.1 c1
    refine Ev_iload_n hq_152 (show decode prog_7_method_4_code 9 = .ok (.iload_n 0, 1) by decide +kernel) rfl ?_
    refine Ev_iload_n hq_152 (show decode prog_7_method_4_code 10 = .ok (.iload_n 2, 1) by decide +kernel) rfl ?_
    refine Ev_icmp_le (tgt := 18) hq_152 (show decode prog_7_method_4_code 11 = .ok (.if_icmp .le 7, 3) by decide +kernel) (by decide) (fun c2 => ?_) (fun c2 => ?_)
    · have k := k.1 c2
      refine Ev_iload_n hq_152 (show decode prog_7_method_4_code 18 = .ok (.iload_n 0, 1) by decide +kernel) rfl ?_
      exact Ev_iret hq_152 (show decode prog_7_method_4_code 19 = .ok (.ireturn, 1) by decide +kernel) rfl k
    · have k := k.2 c2
      refine Ev_iload_n hq_152 (show decode prog_7_method_4_code 14 = .ok (.iload_n 2, 1) by decide +kernel) rfl ?_
      refine Ev_goto (tgt := 19) hq_152 (show decode prog_7_method_4_code 15 = .ok (.goto 4, 3) by decide +kernel) (by decide) ?_
      exact Ev_iret hq_152 (show decode prog_7_method_4_code 19 = .ok (.ireturn, 1) by decide +kernel) rfl k
  · have k := k.2 c1
    refine Ev_iload_n hq_152 (show decode prog_7_method_4_code 5 = .ok (.iload_n 1, 1) by decide +kernel) rfl ?_
    refine Ev_goto (tgt := 19) hq_152 (show decode prog_7_method_4_code 6 = .ok (.goto 13, 3) by decide +kernel) (by decide) ?_
    exact Ev_iret hq_152 (show decode prog_7_method_4_code 19 = .ok (.ireturn, 1) by decide +kernel) rfl k
set_option maxRecDepth 20000 in
theorem wp_Z_shower {X : Nat × (Nat → Int32)} {d : Nat} {G : zG} {I : zI} {res : Option Value × zG × zI} (x1 : Int32) (x2 : Int32) (x3 : Int32) (hS : SG G) 
    (k : ∃ (r3 : Int32) (I1 : zI), Cv X d 131 [.int x1, .int 0, .int 59] G I (some (.int r3), G, I1) ∧ ((r3 = 0 → res = (some (.int (-2)), G, I1)) ∧ (¬ r3 = 0 → ∃ (r7 : Int32) (I5 : zI), Cv X d 131 [.int x2, .int 0, .int 4] G I1 (some (.int r7), G, I5) ∧ ((r7 = 0 → res = (some (.int (-2)), G, I5)) ∧ (¬ r7 = 0 → ∃ (r11 : Int32) (I9 : zI), Cv X d 131 [.int x3, .int 0, .int 999] G I5 (some (.int r11), G, I9) ∧ ((¬ r11 = 0 → (¬ (I9 57 0) = 4 → z_inr (I9 57 0) 4 ∧ (∀ I15 : zI, I15 = z_up I9 58 (I9 57 0).toNatClampNeg (x1 / 10) → z_inr (I15 57 0) 4 ∧ (∀ I17 : zI, I17 = z_up I15 59 (I15 57 0).toNatClampNeg (x1 - x1 / 10 * 10) → z_inr (5 * (I17 57 0)) 20 ∧ (∀ I19 : zI, I19 = z_up I17 60 (5 * (I17 57 0)).toNatClampNeg x2 → z_inr ((5 * (I19 57 0)) + 1) 20 ∧ (∀ I21 : zI, I21 = z_up I19 60 ((5 * (I19 57 0)) + 1).toNatClampNeg x3 → z_inr ((5 * (I21 57 0)) + 2) 20 ∧ (∀ I23 : zI, I23 = z_up I21 60 ((5 * (I21 57 0)) + 2).toNatClampNeg 0 → z_inr ((5 * (I23 57 0)) + 3) 20 ∧ (∀ I25 : zI, I25 = z_up I23 60 ((5 * (I23 57 0)) + 3).toNatClampNeg 8 → z_inr ((5 * (I25 57 0)) + 4) 20 ∧ (∀ I27 : zI, I27 = z_up I25 60 ((5 * (I25 57 0)) + 4).toNatClampNeg 1 → (∀ I28 : zI, I28 = z_up I27 57 0 ((I27 57 0) + 1) → res = (some (.int ((I28 57 0) - 1)), G, I28)))))))))) ∧ ((I9 57 0) = 4 → res = (some (.int (-4)), G, I9))) ∧ (r11 = 0 → res = (some (.int (-2)), G, I9)))))))) :
    Ev X (d + 1) 153 0 [.ref 57, .int x1, .int x2, .int x3] [] G I res := by
  refine Ev_iload_n hq_153 (show decode prog_7_method_29_code 0 = .ok (.iload_n 1, 1) by decide +kernel) rfl ?_
  refine Ev_iconst (v := 0) hq_153 (show decode prog_7_method_29_code 1 = .ok (.iconst 0, 1) by decide +kernel) (by decide) ?_
  refine Ev_bipush (v := 59) hq_153 (show decode prog_7_method_29_code 2 = .ok (.bipush 59, 2) by decide +kernel) (by decide) ?_
  obtain ⟨r3, I1, h2, k⟩ := k
  refine Ev_stat (as := [.int x1, .int 0, .int 59]) hq_153 (show decode prog_7_method_29_code 4 = .ok (.invokestatic 90, 3) by decide +kernel) rfl (Or.inl rfl) hq_131 rfl (z_le rfl) h2 ?_
  refine Ev_if_eq (tgt := 30) hq_153 (show decode prog_7_method_29_code 7 = .ok (.ifCond .eq 23, 3) by decide +kernel) (by decide) (fun c4 => ?_) (fun c4 => ?_)
  · have k := k.1 c4
    refine Ev_bipush (v := (-2)) hq_153 (show decode prog_7_method_29_code 30 = .ok (.bipush (-2), 2) by decide +kernel) (by decide) ?_
    exact Ev_iret hq_153 (show decode prog_7_method_29_code 32 = .ok (.ireturn, 1) by decide +kernel) rfl k
  · have k := k.2 c4
    refine Ev_iload_n hq_153 (show decode prog_7_method_29_code 10 = .ok (.iload_n 2, 1) by decide +kernel) rfl ?_
    refine Ev_iconst (v := 0) hq_153 (show decode prog_7_method_29_code 11 = .ok (.iconst 0, 1) by decide +kernel) (by decide) ?_
    refine Ev_iconst (v := 4) hq_153 (show decode prog_7_method_29_code 12 = .ok (.iconst 4, 1) by decide +kernel) (by decide) ?_
    obtain ⟨r7, I5, h6, k⟩ := k
    refine Ev_stat (as := [.int x2, .int 0, .int 4]) hq_153 (show decode prog_7_method_29_code 13 = .ok (.invokestatic 90, 3) by decide +kernel) rfl (Or.inl rfl) hq_131 rfl (z_le rfl) h6 ?_
    refine Ev_if_eq (tgt := 30) hq_153 (show decode prog_7_method_29_code 16 = .ok (.ifCond .eq 14, 3) by decide +kernel) (by decide) (fun c8 => ?_) (fun c8 => ?_)
    · have k := k.1 c8
      refine Ev_bipush (v := (-2)) hq_153 (show decode prog_7_method_29_code 30 = .ok (.bipush (-2), 2) by decide +kernel) (by decide) ?_
      exact Ev_iret hq_153 (show decode prog_7_method_29_code 32 = .ok (.ireturn, 1) by decide +kernel) rfl k
    · have k := k.2 c8
      refine Ev_iload_n hq_153 (show decode prog_7_method_29_code 19 = .ok (.iload_n 3, 1) by decide +kernel) rfl ?_
      refine Ev_iconst (v := 0) hq_153 (show decode prog_7_method_29_code 20 = .ok (.iconst 0, 1) by decide +kernel) (by decide) ?_
      refine Ev_sipush (v := 999) hq_153 (show decode prog_7_method_29_code 21 = .ok (.sipush 999, 3) by decide +kernel) (by decide) ?_
      obtain ⟨r11, I9, h10, k⟩ := k
      refine Ev_stat (as := [.int x3, .int 0, .int 999]) hq_153 (show decode prog_7_method_29_code 24 = .ok (.invokestatic 90, 3) by decide +kernel) rfl (Or.inl rfl) hq_131 rfl (z_le rfl) h10 ?_
      refine Ev_if_ne (tgt := 33) hq_153 (show decode prog_7_method_29_code 27 = .ok (.ifCond .ne 6, 3) by decide +kernel) (by decide) (fun c12 => ?_) (fun c12 => ?_)
      · have k := k.1 c12
        refine Ev_aload_n hq_153 (show decode prog_7_method_29_code 33 = .ok (.aload_n 0, 1) by decide +kernel) rfl ?_
        refine Ev_getI hq_153 (show decode prog_7_method_29_code 34 = .ok (.getfield 87, 3) by decide +kernel) rfl (SGn hS (by decide)) (SGk hS rfl) (by decide) rfl ?_
        refine Ev_iconst (v := 4) hq_153 (show decode prog_7_method_29_code 37 = .ok (.iconst 4, 1) by decide +kernel) (by decide) ?_
        refine Ev_icmp_ne (tgt := 44) hq_153 (show decode prog_7_method_29_code 38 = .ok (.if_icmp .ne 6, 3) by decide +kernel) (by decide) (fun c13 => ?_) (fun c13 => ?_)
        · have k := k.1 c13
          refine Ev_aload_n hq_153 (show decode prog_7_method_29_code 44 = .ok (.aload_n 0, 1) by decide +kernel) rfl ?_
          refine Ev_getR hq_153 (show decode prog_7_method_29_code 45 = .ok (.getfield 7, 3) by decide +kernel) rfl (SGn hS (by decide)) (SGk hS rfl) (by decide) rfl (SGr hS rfl) ?_
          refine Ev_aload_n hq_153 (show decode prog_7_method_29_code 48 = .ok (.aload_n 0, 1) by decide +kernel) rfl ?_
          refine Ev_getI hq_153 (show decode prog_7_method_29_code 49 = .ok (.getfield 87, 3) by decide +kernel) rfl (SGn hS (by decide)) (SGk hS rfl) (by decide) rfl ?_
          refine Ev_iload_n hq_153 (show decode prog_7_method_29_code 52 = .ok (.iload_n 1, 1) by decide +kernel) rfl ?_
          refine Ev_bipush (v := 10) hq_153 (show decode prog_7_method_29_code 53 = .ok (.bipush 10, 2) by decide +kernel) (by decide) ?_
          refine Ev_idiv hq_153 (show decode prog_7_method_29_code 55 = .ok (.idiv, 1) by decide +kernel) (by decide) ?_
          obtain ⟨h14, k⟩ := k
          refine Ev_iast hq_153 (show decode prog_7_method_29_code 56 = .ok (.iastore, 1) by decide +kernel) (SGn hS (by decide)) (SGk hS rfl) (SGi hS rfl h14) ?_
          obtain ⟨I15, eI15⟩ : ∃ I15 : zI, I15 = z_up I9 58 (I9 57 0).toNatClampNeg (x1 / 10) := ⟨_, rfl⟩
          have k := k I15 eI15
          rw [← eI15]
          refine Ev_aload_n hq_153 (show decode prog_7_method_29_code 57 = .ok (.aload_n 0, 1) by decide +kernel) rfl ?_
          refine Ev_getR hq_153 (show decode prog_7_method_29_code 58 = .ok (.getfield 13, 3) by decide +kernel) rfl (SGn hS (by decide)) (SGk hS rfl) (by decide) rfl (SGr hS rfl) ?_
          refine Ev_aload_n hq_153 (show decode prog_7_method_29_code 61 = .ok (.aload_n 0, 1) by decide +kernel) rfl ?_
          refine Ev_getI hq_153 (show decode prog_7_method_29_code 62 = .ok (.getfield 87, 3) by decide +kernel) rfl (SGn hS (by decide)) (SGk hS rfl) (by decide) rfl ?_
          refine Ev_iload_n hq_153 (show decode prog_7_method_29_code 65 = .ok (.iload_n 1, 1) by decide +kernel) rfl ?_
          refine Ev_bipush (v := 10) hq_153 (show decode prog_7_method_29_code 66 = .ok (.bipush 10, 2) by decide +kernel) (by decide) ?_
          refine Ev_irem hq_153 (show decode prog_7_method_29_code 68 = .ok (.irem, 1) by decide +kernel) (by decide) ?_
          obtain ⟨h16, k⟩ := k
          refine Ev_iast hq_153 (show decode prog_7_method_29_code 69 = .ok (.iastore, 1) by decide +kernel) (SGn hS (by decide)) (SGk hS rfl) (SGi hS rfl h16) ?_
          obtain ⟨I17, eI17⟩ : ∃ I17 : zI, I17 = z_up I15 59 (I15 57 0).toNatClampNeg (x1 - x1 / 10 * 10) := ⟨_, rfl⟩
          have k := k I17 eI17
          rw [← eI17]
          refine Ev_aload_n hq_153 (show decode prog_7_method_29_code 70 = .ok (.aload_n 0, 1) by decide +kernel) rfl ?_
          refine Ev_getR hq_153 (show decode prog_7_method_29_code 71 = .ok (.getfield 16, 3) by decide +kernel) rfl (SGn hS (by decide)) (SGk hS rfl) (by decide) rfl (SGr hS rfl) ?_
          refine Ev_iconst (v := 5) hq_153 (show decode prog_7_method_29_code 74 = .ok (.iconst 5, 1) by decide +kernel) (by decide) ?_
          refine Ev_aload_n hq_153 (show decode prog_7_method_29_code 75 = .ok (.aload_n 0, 1) by decide +kernel) rfl ?_
          refine Ev_getI hq_153 (show decode prog_7_method_29_code 76 = .ok (.getfield 87, 3) by decide +kernel) rfl (SGn hS (by decide)) (SGk hS rfl) (by decide) rfl ?_
          refine Ev_imul hq_153 (show decode prog_7_method_29_code 79 = .ok (.imul, 1) by decide +kernel) ?_
          refine Ev_iload_n hq_153 (show decode prog_7_method_29_code 80 = .ok (.iload_n 2, 1) by decide +kernel) rfl ?_
          obtain ⟨h18, k⟩ := k
          refine Ev_iast hq_153 (show decode prog_7_method_29_code 81 = .ok (.iastore, 1) by decide +kernel) (SGn hS (by decide)) (SGk hS rfl) (SGi hS rfl h18) ?_
          obtain ⟨I19, eI19⟩ : ∃ I19 : zI, I19 = z_up I17 60 (5 * (I17 57 0)).toNatClampNeg x2 := ⟨_, rfl⟩
          have k := k I19 eI19
          rw [← eI19]
          refine Ev_aload_n hq_153 (show decode prog_7_method_29_code 82 = .ok (.aload_n 0, 1) by decide +kernel) rfl ?_
          refine Ev_getR hq_153 (show decode prog_7_method_29_code 83 = .ok (.getfield 16, 3) by decide +kernel) rfl (SGn hS (by decide)) (SGk hS rfl) (by decide) rfl (SGr hS rfl) ?_
          refine Ev_iconst (v := 5) hq_153 (show decode prog_7_method_29_code 86 = .ok (.iconst 5, 1) by decide +kernel) (by decide) ?_
          refine Ev_aload_n hq_153 (show decode prog_7_method_29_code 87 = .ok (.aload_n 0, 1) by decide +kernel) rfl ?_
          refine Ev_getI hq_153 (show decode prog_7_method_29_code 88 = .ok (.getfield 87, 3) by decide +kernel) rfl (SGn hS (by decide)) (SGk hS rfl) (by decide) rfl ?_
          refine Ev_imul hq_153 (show decode prog_7_method_29_code 91 = .ok (.imul, 1) by decide +kernel) ?_
          refine Ev_iconst (v := 1) hq_153 (show decode prog_7_method_29_code 92 = .ok (.iconst 1, 1) by decide +kernel) (by decide) ?_
          refine Ev_iadd hq_153 (show decode prog_7_method_29_code 93 = .ok (.iadd, 1) by decide +kernel) ?_
          refine Ev_iload_n hq_153 (show decode prog_7_method_29_code 94 = .ok (.iload_n 3, 1) by decide +kernel) rfl ?_
          obtain ⟨h20, k⟩ := k
          refine Ev_iast hq_153 (show decode prog_7_method_29_code 95 = .ok (.iastore, 1) by decide +kernel) (SGn hS (by decide)) (SGk hS rfl) (SGi hS rfl h20) ?_
          obtain ⟨I21, eI21⟩ : ∃ I21 : zI, I21 = z_up I19 60 ((5 * (I19 57 0)) + 1).toNatClampNeg x3 := ⟨_, rfl⟩
          have k := k I21 eI21
          rw [← eI21]
          refine Ev_aload_n hq_153 (show decode prog_7_method_29_code 96 = .ok (.aload_n 0, 1) by decide +kernel) rfl ?_
          refine Ev_getR hq_153 (show decode prog_7_method_29_code 97 = .ok (.getfield 16, 3) by decide +kernel) rfl (SGn hS (by decide)) (SGk hS rfl) (by decide) rfl (SGr hS rfl) ?_
          refine Ev_iconst (v := 5) hq_153 (show decode prog_7_method_29_code 100 = .ok (.iconst 5, 1) by decide +kernel) (by decide) ?_
          refine Ev_aload_n hq_153 (show decode prog_7_method_29_code 101 = .ok (.aload_n 0, 1) by decide +kernel) rfl ?_
          refine Ev_getI hq_153 (show decode prog_7_method_29_code 102 = .ok (.getfield 87, 3) by decide +kernel) rfl (SGn hS (by decide)) (SGk hS rfl) (by decide) rfl ?_
          refine Ev_imul hq_153 (show decode prog_7_method_29_code 105 = .ok (.imul, 1) by decide +kernel) ?_
          refine Ev_iconst (v := 2) hq_153 (show decode prog_7_method_29_code 106 = .ok (.iconst 2, 1) by decide +kernel) (by decide) ?_
          refine Ev_iadd hq_153 (show decode prog_7_method_29_code 107 = .ok (.iadd, 1) by decide +kernel) ?_
          refine Ev_iconst (v := 0) hq_153 (show decode prog_7_method_29_code 108 = .ok (.iconst 0, 1) by decide +kernel) (by decide) ?_
          obtain ⟨h22, k⟩ := k
          refine Ev_iast hq_153 (show decode prog_7_method_29_code 109 = .ok (.iastore, 1) by decide +kernel) (SGn hS (by decide)) (SGk hS rfl) (SGi hS rfl h22) ?_
          obtain ⟨I23, eI23⟩ : ∃ I23 : zI, I23 = z_up I21 60 ((5 * (I21 57 0)) + 2).toNatClampNeg 0 := ⟨_, rfl⟩
          have k := k I23 eI23
          rw [← eI23]
          refine Ev_aload_n hq_153 (show decode prog_7_method_29_code 110 = .ok (.aload_n 0, 1) by decide +kernel) rfl ?_
          refine Ev_getR hq_153 (show decode prog_7_method_29_code 111 = .ok (.getfield 16, 3) by decide +kernel) rfl (SGn hS (by decide)) (SGk hS rfl) (by decide) rfl (SGr hS rfl) ?_
          refine Ev_iconst (v := 5) hq_153 (show decode prog_7_method_29_code 114 = .ok (.iconst 5, 1) by decide +kernel) (by decide) ?_
          refine Ev_aload_n hq_153 (show decode prog_7_method_29_code 115 = .ok (.aload_n 0, 1) by decide +kernel) rfl ?_
          refine Ev_getI hq_153 (show decode prog_7_method_29_code 116 = .ok (.getfield 87, 3) by decide +kernel) rfl (SGn hS (by decide)) (SGk hS rfl) (by decide) rfl ?_
          refine Ev_imul hq_153 (show decode prog_7_method_29_code 119 = .ok (.imul, 1) by decide +kernel) ?_
          refine Ev_iconst (v := 3) hq_153 (show decode prog_7_method_29_code 120 = .ok (.iconst 3, 1) by decide +kernel) (by decide) ?_
          refine Ev_iadd hq_153 (show decode prog_7_method_29_code 121 = .ok (.iadd, 1) by decide +kernel) ?_
          refine Ev_bipush (v := 8) hq_153 (show decode prog_7_method_29_code 122 = .ok (.bipush 8, 2) by decide +kernel) (by decide) ?_
          obtain ⟨h24, k⟩ := k
          refine Ev_iast hq_153 (show decode prog_7_method_29_code 124 = .ok (.iastore, 1) by decide +kernel) (SGn hS (by decide)) (SGk hS rfl) (SGi hS rfl h24) ?_
          obtain ⟨I25, eI25⟩ : ∃ I25 : zI, I25 = z_up I23 60 ((5 * (I23 57 0)) + 3).toNatClampNeg 8 := ⟨_, rfl⟩
          have k := k I25 eI25
          rw [← eI25]
          refine Ev_aload_n hq_153 (show decode prog_7_method_29_code 125 = .ok (.aload_n 0, 1) by decide +kernel) rfl ?_
          refine Ev_getR hq_153 (show decode prog_7_method_29_code 126 = .ok (.getfield 16, 3) by decide +kernel) rfl (SGn hS (by decide)) (SGk hS rfl) (by decide) rfl (SGr hS rfl) ?_
          refine Ev_iconst (v := 5) hq_153 (show decode prog_7_method_29_code 129 = .ok (.iconst 5, 1) by decide +kernel) (by decide) ?_
          refine Ev_aload_n hq_153 (show decode prog_7_method_29_code 130 = .ok (.aload_n 0, 1) by decide +kernel) rfl ?_
          refine Ev_getI hq_153 (show decode prog_7_method_29_code 131 = .ok (.getfield 87, 3) by decide +kernel) rfl (SGn hS (by decide)) (SGk hS rfl) (by decide) rfl ?_
          refine Ev_imul hq_153 (show decode prog_7_method_29_code 134 = .ok (.imul, 1) by decide +kernel) ?_
          refine Ev_iconst (v := 4) hq_153 (show decode prog_7_method_29_code 135 = .ok (.iconst 4, 1) by decide +kernel) (by decide) ?_
          refine Ev_iadd hq_153 (show decode prog_7_method_29_code 136 = .ok (.iadd, 1) by decide +kernel) ?_
          refine Ev_iconst (v := 1) hq_153 (show decode prog_7_method_29_code 137 = .ok (.iconst 1, 1) by decide +kernel) (by decide) ?_
          obtain ⟨h26, k⟩ := k
          refine Ev_iast hq_153 (show decode prog_7_method_29_code 138 = .ok (.iastore, 1) by decide +kernel) (SGn hS (by decide)) (SGk hS rfl) (SGi hS rfl h26) ?_
          obtain ⟨I27, eI27⟩ : ∃ I27 : zI, I27 = z_up I25 60 ((5 * (I25 57 0)) + 4).toNatClampNeg 1 := ⟨_, rfl⟩
          have k := k I27 eI27
          rw [← eI27]
          refine Ev_aload_n hq_153 (show decode prog_7_method_29_code 139 = .ok (.aload_n 0, 1) by decide +kernel) rfl ?_
          refine Ev_dup hq_153 (show decode prog_7_method_29_code 140 = .ok (.dup, 1) by decide +kernel) rfl ?_
          refine Ev_getI hq_153 (show decode prog_7_method_29_code 141 = .ok (.getfield 87, 3) by decide +kernel) rfl (SGn hS (by decide)) (SGk hS rfl) (by decide) rfl ?_
          refine Ev_iconst (v := 1) hq_153 (show decode prog_7_method_29_code 144 = .ok (.iconst 1, 1) by decide +kernel) (by decide) ?_
          refine Ev_iadd hq_153 (show decode prog_7_method_29_code 145 = .ok (.iadd, 1) by decide +kernel) ?_
          refine Ev_putI hq_153 (show decode prog_7_method_29_code 146 = .ok (.putfield 87, 3) by decide +kernel) rfl (SGn hS (by decide)) (SGk hS rfl) (by decide) (by decide) rfl (fun hz => by cases hz) ?_
          obtain ⟨I28, eI28⟩ : ∃ I28 : zI, I28 = z_up I27 57 0 ((I27 57 0) + 1) := ⟨_, rfl⟩
          have k := k I28 eI28
          rw [← eI28]
          refine Ev_aload_n hq_153 (show decode prog_7_method_29_code 149 = .ok (.aload_n 0, 1) by decide +kernel) rfl ?_
          refine Ev_getI hq_153 (show decode prog_7_method_29_code 150 = .ok (.getfield 87, 3) by decide +kernel) rfl (SGn hS (by decide)) (SGk hS rfl) (by decide) rfl ?_
          refine Ev_iconst (v := 1) hq_153 (show decode prog_7_method_29_code 153 = .ok (.iconst 1, 1) by decide +kernel) (by decide) ?_
          refine Ev_isub hq_153 (show decode prog_7_method_29_code 154 = .ok (.isub, 1) by decide +kernel) ?_
          exact Ev_iret hq_153 (show decode prog_7_method_29_code 155 = .ok (.ireturn, 1) by decide +kernel) rfl k
        · have k := k.2 (Classical.not_not.mp c13)
          refine Ev_bipush (v := (-4)) hq_153 (show decode prog_7_method_29_code 41 = .ok (.bipush (-4), 2) by decide +kernel) (by decide) ?_
          exact Ev_iret hq_153 (show decode prog_7_method_29_code 43 = .ok (.ireturn, 1) by decide +kernel) rfl k
      · have k := k.2 (Classical.not_not.mp c12)
        refine Ev_bipush (v := (-2)) hq_153 (show decode prog_7_method_29_code 30 = .ok (.bipush (-2), 2) by decide +kernel) (by decide) ?_
        exact Ev_iret hq_153 (show decode prog_7_method_29_code 32 = .ok (.ireturn, 1) by decide +kernel) rfl k
set_option maxRecDepth 20000 in
theorem wp_Z_set {X : Nat × (Nat → Int32)} {d : Nat} {G : zG} {I : zI} {res : Option Value × zG × zI} (x1 : Int32) (x2 : Int32) (x3 : Int32) (hS : SG G) 
    (k : ∃ (r3 : Int32) (I1 : zI), Cv X d 148 [.ref 57, .int x1] G I (some (.int r3), G, I1) ∧ ((¬ r3 = 0 → ∃ (r7 : Int32) (I5 : zI), Cv X d 131 [.int x2, .int 0, .int 4] G I1 (some (.int r7), G, I5) ∧ ((r7 = 0 → res = (some (.int (-7)), G, I5)) ∧ (¬ r7 = 0 → ∃ (r11 : Int32) (I9 : zI), Cv X d 155 [.int x2] G I5 (some (.int r11), G, I9) ∧ (∃ (r14 : Int32) (I12 : zI), Cv X d 131 [.int x3, .int 0, .int r11] G I9 (some (.int r14), G, I12) ∧ ((¬ r14 = 0 → z_inr ((5 * x1) + x2) 20 ∧ (∀ y17 : Int32, y17 = (I12 60 ((5 * x1) + x2).toNatClampNeg) → z_inr ((5 * x1) + x2) 20 ∧ (∀ I19 : zI, I19 = z_up I12 60 ((5 * x1) + x2).toNatClampNeg x3 → res = (some (.int y17), G, I19)))) ∧ (r14 = 0 → res = (some (.int (-7)), G, I12))))))) ∧ (r3 = 0 → res = (some (.int (-5)), G, I1)))) :
    Ev X (d + 1) 154 0 [.ref 57, .int x1, .int x2, .int x3, zU] [] G I res := by
  refine Ev_aload_n hq_154 (show decode prog_7_method_31_code 0 = .ok (.aload_n 0, 1) by decide +kernel) rfl ?_
  refine Ev_iload_n hq_154 (show decode prog_7_method_31_code 1 = .ok (.iload_n 1, 1) by decide +kernel) rfl ?_
  obtain ⟨r3, I1, h2, k⟩ := k
  refine Ev_virt (as := [.int x1]) hq_154 (show decode prog_7_method_31_code 2 = .ok (.invokevirtual 176, 3) by decide +kernel) rfl hq_148 rfl (z_le rfl) ⟨(SGn hS (by decide)), (SGk hS rfl), by decide⟩ h2 ?_
  refine Ev_if_ne (tgt := 11) hq_154 (show decode prog_7_method_31_code 5 = .ok (.ifCond .ne 6, 3) by decide +kernel) (by decide) (fun c4 => ?_) (fun c4 => ?_)
  · have k := k.1 c4
    refine Ev_iload_n hq_154 (show decode prog_7_method_31_code 11 = .ok (.iload_n 2, 1) by decide +kernel) rfl ?_
    refine Ev_iconst (v := 0) hq_154 (show decode prog_7_method_31_code 12 = .ok (.iconst 0, 1) by decide +kernel) (by decide) ?_
    refine Ev_iconst (v := 4) hq_154 (show decode prog_7_method_31_code 13 = .ok (.iconst 4, 1) by decide +kernel) (by decide) ?_
    obtain ⟨r7, I5, h6, k⟩ := k
    refine Ev_stat (as := [.int x2, .int 0, .int 4]) hq_154 (show decode prog_7_method_31_code 14 = .ok (.invokestatic 90, 3) by decide +kernel) rfl (Or.inl rfl) hq_131 rfl (z_le rfl) h6 ?_
    refine Ev_if_eq (tgt := 32) hq_154 (show decode prog_7_method_31_code 17 = .ok (.ifCond .eq 15, 3) by decide +kernel) (by decide) (fun c8 => ?_) (fun c8 => ?_)
    · have k := k.1 c8
      refine Ev_bipush (v := (-7)) hq_154 (show decode prog_7_method_31_code 32 = .ok (.bipush (-7), 2) by decide +kernel) (by decide) ?_
      exact Ev_iret hq_154 (show decode prog_7_method_31_code 34 = .ok (.ireturn, 1) by decide +kernel) rfl k
    · have k := k.2 c8
      refine Ev_iload_n hq_154 (show decode prog_7_method_31_code 20 = .ok (.iload_n 3, 1) by decide +kernel) rfl ?_
      refine Ev_iconst (v := 0) hq_154 (show decode prog_7_method_31_code 21 = .ok (.iconst 0, 1) by decide +kernel) (by decide) ?_
      refine Ev_iload_n hq_154 (show decode prog_7_method_31_code 22 = .ok (.iload_n 2, 1) by decide +kernel) rfl ?_
      obtain ⟨r11, I9, h10, k⟩ := k
      refine Ev_stat (as := [.int x2]) hq_154 (show decode prog_7_method_31_code 23 = .ok (.invokestatic 184, 3) by decide +kernel) rfl (Or.inl rfl) hq_155 rfl (z_le rfl) h10 ?_
      obtain ⟨r14, I12, h13, k⟩ := k
      refine Ev_stat (as := [.int x3, .int 0, .int r11]) hq_154 (show decode prog_7_method_31_code 26 = .ok (.invokestatic 90, 3) by decide +kernel) rfl (Or.inl rfl) hq_131 rfl (z_le rfl) h13 ?_
      refine Ev_if_ne (tgt := 35) hq_154 (show decode prog_7_method_31_code 29 = .ok (.ifCond .ne 6, 3) by decide +kernel) (by decide) (fun c15 => ?_) (fun c15 => ?_)
      · have k := k.1 c15
        refine Ev_aload_n hq_154 (show decode prog_7_method_31_code 35 = .ok (.aload_n 0, 1) by decide +kernel) rfl ?_
        refine Ev_getR hq_154 (show decode prog_7_method_31_code 36 = .ok (.getfield 16, 3) by decide +kernel) rfl (SGn hS (by decide)) (SGk hS rfl) (by decide) rfl (SGr hS rfl) ?_
        refine Ev_iconst (v := 5) hq_154 (show decode prog_7_method_31_code 39 = .ok (.iconst 5, 1) by decide +kernel) (by decide) ?_
        refine Ev_iload_n hq_154 (show decode prog_7_method_31_code 40 = .ok (.iload_n 1, 1) by decide +kernel) rfl ?_
        refine Ev_imul hq_154 (show decode prog_7_method_31_code 41 = .ok (.imul, 1) by decide +kernel) ?_
        refine Ev_iload_n hq_154 (show decode prog_7_method_31_code 42 = .ok (.iload_n 2, 1) by decide +kernel) rfl ?_
        refine Ev_iadd hq_154 (show decode prog_7_method_31_code 43 = .ok (.iadd, 1) by decide +kernel) ?_
        obtain ⟨h16, k⟩ := k
        refine Ev_iald hq_154 (show decode prog_7_method_31_code 44 = .ok (.iaload, 1) by decide +kernel) (SGn hS (by decide)) (SGk hS rfl) (SGi hS rfl h16) ?_
        obtain ⟨y17, ey17⟩ : ∃ y17 : Int32, y17 = (I12 60 ((5 * x1) + x2).toNatClampNeg) := ⟨_, rfl⟩
        have k := k y17 ey17
        rw [← ey17]
        refine Ev_istore (lo2 := [.ref 57, .int x1, .int x2, .int x3, .int y17]) hq_154 (show decode prog_7_method_31_code 45 = .ok (.istore 4, 2) by decide +kernel) (z_le rfl) rfl ?_
        refine Ev_aload_n hq_154 (show decode prog_7_method_31_code 47 = .ok (.aload_n 0, 1) by decide +kernel) rfl ?_
        refine Ev_getR hq_154 (show decode prog_7_method_31_code 48 = .ok (.getfield 16, 3) by decide +kernel) rfl (SGn hS (by decide)) (SGk hS rfl) (by decide) rfl (SGr hS rfl) ?_
        refine Ev_iconst (v := 5) hq_154 (show decode prog_7_method_31_code 51 = .ok (.iconst 5, 1) by decide +kernel) (by decide) ?_
        refine Ev_iload_n hq_154 (show decode prog_7_method_31_code 52 = .ok (.iload_n 1, 1) by decide +kernel) rfl ?_
        refine Ev_imul hq_154 (show decode prog_7_method_31_code 53 = .ok (.imul, 1) by decide +kernel) ?_
        refine Ev_iload_n hq_154 (show decode prog_7_method_31_code 54 = .ok (.iload_n 2, 1) by decide +kernel) rfl ?_
        refine Ev_iadd hq_154 (show decode prog_7_method_31_code 55 = .ok (.iadd, 1) by decide +kernel) ?_
        refine Ev_iload_n hq_154 (show decode prog_7_method_31_code 56 = .ok (.iload_n 3, 1) by decide +kernel) rfl ?_
        obtain ⟨h18, k⟩ := k
        refine Ev_iast hq_154 (show decode prog_7_method_31_code 57 = .ok (.iastore, 1) by decide +kernel) (SGn hS (by decide)) (SGk hS rfl) (SGi hS rfl h18) ?_
        obtain ⟨I19, eI19⟩ : ∃ I19 : zI, I19 = z_up I12 60 ((5 * x1) + x2).toNatClampNeg x3 := ⟨_, rfl⟩
        have k := k I19 eI19
        rw [← eI19]
        refine Ev_iload hq_154 (show decode prog_7_method_31_code 58 = .ok (.iload 4, 2) by decide +kernel) rfl ?_
        exact Ev_iret hq_154 (show decode prog_7_method_31_code 60 = .ok (.ireturn, 1) by decide +kernel) rfl k
      · have k := k.2 (Classical.not_not.mp c15)
        refine Ev_bipush (v := (-7)) hq_154 (show decode prog_7_method_31_code 32 = .ok (.bipush (-7), 2) by decide +kernel) (by decide) ?_
        exact Ev_iret hq_154 (show decode prog_7_method_31_code 34 = .ok (.ireturn, 1) by decide +kernel) rfl k
  · have k := k.2 (Classical.not_not.mp c4)
    refine Ev_bipush (v := (-5)) hq_154 (show decode prog_7_method_31_code 8 = .ok (.bipush (-5), 2) by decide +kernel) (by decide) ?_
    exact Ev_iret hq_154 (show decode prog_7_method_31_code 10 = .ok (.ireturn, 1) by decide +kernel) rfl k
set_option maxRecDepth 20000 in
theorem wp_Z_most {X : Nat × (Nat → Int32)} {d : Nat} {G : zG} {I : zI} {res : Option Value × zG × zI} (x0 : Int32) 
    (k : (¬ x0 = 0 → (¬ x0 = 3 → (¬ x0 = 4 → res = (some (.int 999), G, I)) ∧ (x0 = 4 → res = (some (.int 1), G, I))) ∧ (x0 = 3 → res = (some (.int 16), G, I))) ∧ (x0 = 0 → res = (some (.int 4), G, I))) :
    Ev X d 155 0 [.int x0] [] G I res := by
  refine Ev_iload_n hq_155 (show decode prog_7_method_30_code 0 = .ok (.iload_n 0, 1) by decide +kernel) rfl ?_
  refine Ev_if_ne (tgt := 8) hq_155 (show decode prog_7_method_30_code 1 = .ok (.ifCond .ne 7, 3) by decide +kernel) (by decide) (fun c1 => ?_) (fun c1 => ?_)
  · have k := k.1 c1
    refine Ev_iload_n hq_155 (show decode prog_7_method_30_code 8 = .ok (.iload_n 0, 1) by decide +kernel) rfl ?_
    refine Ev_iconst (v := 3) hq_155 (show decode prog_7_method_30_code 9 = .ok (.iconst 3, 1) by decide +kernel) (by decide) ?_
    refine Ev_icmp_ne (tgt := 18) hq_155 (show decode prog_7_method_30_code 10 = .ok (.if_icmp .ne 8, 3) by decide +kernel) (by decide) (fun c2 => ?_) (fun c2 => ?_)
    · have k := k.1 c2
      refine Ev_iload_n hq_155 (show decode prog_7_method_30_code 18 = .ok (.iload_n 0, 1) by decide +kernel) rfl ?_
      refine Ev_iconst (v := 4) hq_155 (show decode prog_7_method_30_code 19 = .ok (.iconst 4, 1) by decide +kernel) (by decide) ?_
      refine Ev_icmp_ne (tgt := 27) hq_155 (show decode prog_7_method_30_code 20 = .ok (.if_icmp .ne 7, 3) by decide +kernel) (by decide) (fun c3 => ?_) (fun c3 => ?_)
      · have k := k.1 c3
        refine Ev_sipush (v := 999) hq_155 (show decode prog_7_method_30_code 27 = .ok (.sipush 999, 3) by decide +kernel) (by decide) ?_
        exact Ev_iret hq_155 (show decode prog_7_method_30_code 30 = .ok (.ireturn, 1) by decide +kernel) rfl k
      · have k := k.2 (Classical.not_not.mp c3)
        refine Ev_iconst (v := 1) hq_155 (show decode prog_7_method_30_code 23 = .ok (.iconst 1, 1) by decide +kernel) (by decide) ?_
        refine Ev_goto (tgt := 30) hq_155 (show decode prog_7_method_30_code 24 = .ok (.goto 6, 3) by decide +kernel) (by decide) ?_
        exact Ev_iret hq_155 (show decode prog_7_method_30_code 30 = .ok (.ireturn, 1) by decide +kernel) rfl k
    · have k := k.2 (Classical.not_not.mp c2)
      refine Ev_bipush (v := 16) hq_155 (show decode prog_7_method_30_code 13 = .ok (.bipush 16, 2) by decide +kernel) (by decide) ?_
      refine Ev_goto (tgt := 30) hq_155 (show decode prog_7_method_30_code 15 = .ok (.goto 15, 3) by decide +kernel) (by decide) ?_
      exact Ev_iret hq_155 (show decode prog_7_method_30_code 30 = .ok (.ireturn, 1) by decide +kernel) rfl k
  · have k := k.2 (Classical.not_not.mp c1)
    refine Ev_iconst (v := 4) hq_155 (show decode prog_7_method_30_code 4 = .ok (.iconst 4, 1) by decide +kernel) (by decide) ?_
    refine Ev_goto (tgt := 30) hq_155 (show decode prog_7_method_30_code 5 = .ok (.goto 25, 3) by decide +kernel) (by decide) ?_
    exact Ev_iret hq_155 (show decode prog_7_method_30_code 30 = .ok (.ireturn, 1) by decide +kernel) rfl k
set_option maxRecDepth 20000 in
theorem wp_Z_told {X : Nat × (Nat → Int32)} {d : Nat} {G : zG} {I : zI} {res : Option Value × zG × zI} (x1 : Int32) (x2 : Int32) (hS : SG G) 
    (k : ∃ (r3 : Int32) (I1 : zI), Cv X d 148 [.ref 57, .int x1] G I (some (.int r3), G, I1) ∧ ((¬ r3 = 0 → (x2 = 0 → z_inr ((5 * x1) + x2) 20 ∧ (res = (some (.int (I1 60 ((5 * x1) + x2).toNatClampNeg)), G, I1))) ∧ (¬ x2 = 0 → (x2 = 1 → z_inr ((5 * x1) + x2) 20 ∧ (res = (some (.int (I1 60 ((5 * x1) + x2).toNatClampNeg)), G, I1))) ∧ (¬ x2 = 1 → (x2 = 2 → z_inr ((5 * x1) + x2) 20 ∧ (res = (some (.int (I1 60 ((5 * x1) + x2).toNatClampNeg)), G, I1))) ∧ (¬ x2 = 2 → (x2 = 3 → z_inr ((5 * x1) + x2) 20 ∧ (res = (some (.int (I1 60 ((5 * x1) + x2).toNatClampNeg)), G, I1))) ∧ (¬ x2 = 3 → (x2 = 4 → z_inr ((5 * x1) + x2) 20 ∧ (res = (some (.int (I1 60 ((5 * x1) + x2).toNatClampNeg)), G, I1))) ∧ (¬ x2 = 4 → (x2 = 5 → z_inr x1 4 ∧ (res = (some (.int (I1 58 x1.toNatClampNeg)), G, I1))) ∧ (¬ x2 = 5 → (x2 = 6 → z_inr x1 4 ∧ (res = (some (.int (I1 59 x1.toNatClampNeg)), G, I1))) ∧ (¬ x2 = 6 → (x2 = 7 → ∃ (r22 : Int32) (I20 : zI), Cv X d 157 [.ref 57, .int x1] G I1 (some (.int r22), G, I20) ∧ (res = (some (.int r22), G, I20))) ∧ (¬ x2 = 7 → res = (some (.int (-7)), G, I1)))))))))) ∧ (r3 = 0 → res = (some (.int (-5)), G, I1)))) :
    Ev X (d + 1) 156 0 [.ref 57, .int x1, .int x2] [] G I res := by
  refine Ev_aload_n hq_156 (show decode prog_7_method_33_code 0 = .ok (.aload_n 0, 1) by decide +kernel) rfl ?_
  refine Ev_iload_n hq_156 (show decode prog_7_method_33_code 1 = .ok (.iload_n 1, 1) by decide +kernel) rfl ?_
  obtain ⟨r3, I1, h2, k⟩ := k
  refine Ev_virt (as := [.int x1]) hq_156 (show decode prog_7_method_33_code 2 = .ok (.invokevirtual 176, 3) by decide +kernel) rfl hq_148 rfl (z_le rfl) ⟨(SGn hS (by decide)), (SGk hS rfl), by decide⟩ h2 ?_
  refine Ev_if_ne (tgt := 11) hq_156 (show decode prog_7_method_33_code 5 = .ok (.ifCond .ne 6, 3) by decide +kernel) (by decide) (fun c4 => ?_) (fun c4 => ?_)
  · have k := k.1 c4
    refine Ev_iload_n hq_156 (show decode prog_7_method_33_code 11 = .ok (.iload_n 2, 1) by decide +kernel) rfl ?_
    by_cases c5 : x2 = 0
    · have k := k.1 c5
      refine Ev_tableIn (off := 48) (tgt := 60) hq_156 (show decode prog_7_method_33_code 12 = .ok (.tableswitch 79 0 7 #[48, 48, 48, 48, 48, 59, 66, 73], 48) by decide +kernel) (by rw [c5]; decide) (by rw [c5]; decide) (by rw [c5]; decide) (by decide) ?_
      refine Ev_aload_n hq_156 (show decode prog_7_method_33_code 60 = .ok (.aload_n 0, 1) by decide +kernel) rfl ?_
      refine Ev_getR hq_156 (show decode prog_7_method_33_code 61 = .ok (.getfield 16, 3) by decide +kernel) rfl (SGn hS (by decide)) (SGk hS rfl) (by decide) rfl (SGr hS rfl) ?_
      refine Ev_iconst (v := 5) hq_156 (show decode prog_7_method_33_code 64 = .ok (.iconst 5, 1) by decide +kernel) (by decide) ?_
      refine Ev_iload_n hq_156 (show decode prog_7_method_33_code 65 = .ok (.iload_n 1, 1) by decide +kernel) rfl ?_
      refine Ev_imul hq_156 (show decode prog_7_method_33_code 66 = .ok (.imul, 1) by decide +kernel) ?_
      refine Ev_iload_n hq_156 (show decode prog_7_method_33_code 67 = .ok (.iload_n 2, 1) by decide +kernel) rfl ?_
      refine Ev_iadd hq_156 (show decode prog_7_method_33_code 68 = .ok (.iadd, 1) by decide +kernel) ?_
      obtain ⟨h6, k⟩ := k
      refine Ev_iald hq_156 (show decode prog_7_method_33_code 69 = .ok (.iaload, 1) by decide +kernel) (SGn hS (by decide)) (SGk hS rfl) (SGi hS rfl h6) ?_
      exact Ev_iret hq_156 (show decode prog_7_method_33_code 70 = .ok (.ireturn, 1) by decide +kernel) rfl k
    have k := k.2 c5
    by_cases c7 : x2 = 1
    · have k := k.1 c7
      refine Ev_tableIn (off := 48) (tgt := 60) hq_156 (show decode prog_7_method_33_code 12 = .ok (.tableswitch 79 0 7 #[48, 48, 48, 48, 48, 59, 66, 73], 48) by decide +kernel) (by rw [c7]; decide) (by rw [c7]; decide) (by rw [c7]; decide) (by decide) ?_
      refine Ev_aload_n hq_156 (show decode prog_7_method_33_code 60 = .ok (.aload_n 0, 1) by decide +kernel) rfl ?_
      refine Ev_getR hq_156 (show decode prog_7_method_33_code 61 = .ok (.getfield 16, 3) by decide +kernel) rfl (SGn hS (by decide)) (SGk hS rfl) (by decide) rfl (SGr hS rfl) ?_
      refine Ev_iconst (v := 5) hq_156 (show decode prog_7_method_33_code 64 = .ok (.iconst 5, 1) by decide +kernel) (by decide) ?_
      refine Ev_iload_n hq_156 (show decode prog_7_method_33_code 65 = .ok (.iload_n 1, 1) by decide +kernel) rfl ?_
      refine Ev_imul hq_156 (show decode prog_7_method_33_code 66 = .ok (.imul, 1) by decide +kernel) ?_
      refine Ev_iload_n hq_156 (show decode prog_7_method_33_code 67 = .ok (.iload_n 2, 1) by decide +kernel) rfl ?_
      refine Ev_iadd hq_156 (show decode prog_7_method_33_code 68 = .ok (.iadd, 1) by decide +kernel) ?_
      obtain ⟨h8, k⟩ := k
      refine Ev_iald hq_156 (show decode prog_7_method_33_code 69 = .ok (.iaload, 1) by decide +kernel) (SGn hS (by decide)) (SGk hS rfl) (SGi hS rfl h8) ?_
      exact Ev_iret hq_156 (show decode prog_7_method_33_code 70 = .ok (.ireturn, 1) by decide +kernel) rfl k
    have k := k.2 c7
    by_cases c9 : x2 = 2
    · have k := k.1 c9
      refine Ev_tableIn (off := 48) (tgt := 60) hq_156 (show decode prog_7_method_33_code 12 = .ok (.tableswitch 79 0 7 #[48, 48, 48, 48, 48, 59, 66, 73], 48) by decide +kernel) (by rw [c9]; decide) (by rw [c9]; decide) (by rw [c9]; decide) (by decide) ?_
      refine Ev_aload_n hq_156 (show decode prog_7_method_33_code 60 = .ok (.aload_n 0, 1) by decide +kernel) rfl ?_
      refine Ev_getR hq_156 (show decode prog_7_method_33_code 61 = .ok (.getfield 16, 3) by decide +kernel) rfl (SGn hS (by decide)) (SGk hS rfl) (by decide) rfl (SGr hS rfl) ?_
      refine Ev_iconst (v := 5) hq_156 (show decode prog_7_method_33_code 64 = .ok (.iconst 5, 1) by decide +kernel) (by decide) ?_
      refine Ev_iload_n hq_156 (show decode prog_7_method_33_code 65 = .ok (.iload_n 1, 1) by decide +kernel) rfl ?_
      refine Ev_imul hq_156 (show decode prog_7_method_33_code 66 = .ok (.imul, 1) by decide +kernel) ?_
      refine Ev_iload_n hq_156 (show decode prog_7_method_33_code 67 = .ok (.iload_n 2, 1) by decide +kernel) rfl ?_
      refine Ev_iadd hq_156 (show decode prog_7_method_33_code 68 = .ok (.iadd, 1) by decide +kernel) ?_
      obtain ⟨h10, k⟩ := k
      refine Ev_iald hq_156 (show decode prog_7_method_33_code 69 = .ok (.iaload, 1) by decide +kernel) (SGn hS (by decide)) (SGk hS rfl) (SGi hS rfl h10) ?_
      exact Ev_iret hq_156 (show decode prog_7_method_33_code 70 = .ok (.ireturn, 1) by decide +kernel) rfl k
    have k := k.2 c9
    by_cases c11 : x2 = 3
    · have k := k.1 c11
      refine Ev_tableIn (off := 48) (tgt := 60) hq_156 (show decode prog_7_method_33_code 12 = .ok (.tableswitch 79 0 7 #[48, 48, 48, 48, 48, 59, 66, 73], 48) by decide +kernel) (by rw [c11]; decide) (by rw [c11]; decide) (by rw [c11]; decide) (by decide) ?_
      refine Ev_aload_n hq_156 (show decode prog_7_method_33_code 60 = .ok (.aload_n 0, 1) by decide +kernel) rfl ?_
      refine Ev_getR hq_156 (show decode prog_7_method_33_code 61 = .ok (.getfield 16, 3) by decide +kernel) rfl (SGn hS (by decide)) (SGk hS rfl) (by decide) rfl (SGr hS rfl) ?_
      refine Ev_iconst (v := 5) hq_156 (show decode prog_7_method_33_code 64 = .ok (.iconst 5, 1) by decide +kernel) (by decide) ?_
      refine Ev_iload_n hq_156 (show decode prog_7_method_33_code 65 = .ok (.iload_n 1, 1) by decide +kernel) rfl ?_
      refine Ev_imul hq_156 (show decode prog_7_method_33_code 66 = .ok (.imul, 1) by decide +kernel) ?_
      refine Ev_iload_n hq_156 (show decode prog_7_method_33_code 67 = .ok (.iload_n 2, 1) by decide +kernel) rfl ?_
      refine Ev_iadd hq_156 (show decode prog_7_method_33_code 68 = .ok (.iadd, 1) by decide +kernel) ?_
      obtain ⟨h12, k⟩ := k
      refine Ev_iald hq_156 (show decode prog_7_method_33_code 69 = .ok (.iaload, 1) by decide +kernel) (SGn hS (by decide)) (SGk hS rfl) (SGi hS rfl h12) ?_
      exact Ev_iret hq_156 (show decode prog_7_method_33_code 70 = .ok (.ireturn, 1) by decide +kernel) rfl k
    have k := k.2 c11
    by_cases c13 : x2 = 4
    · have k := k.1 c13
      refine Ev_tableIn (off := 48) (tgt := 60) hq_156 (show decode prog_7_method_33_code 12 = .ok (.tableswitch 79 0 7 #[48, 48, 48, 48, 48, 59, 66, 73], 48) by decide +kernel) (by rw [c13]; decide) (by rw [c13]; decide) (by rw [c13]; decide) (by decide) ?_
      refine Ev_aload_n hq_156 (show decode prog_7_method_33_code 60 = .ok (.aload_n 0, 1) by decide +kernel) rfl ?_
      refine Ev_getR hq_156 (show decode prog_7_method_33_code 61 = .ok (.getfield 16, 3) by decide +kernel) rfl (SGn hS (by decide)) (SGk hS rfl) (by decide) rfl (SGr hS rfl) ?_
      refine Ev_iconst (v := 5) hq_156 (show decode prog_7_method_33_code 64 = .ok (.iconst 5, 1) by decide +kernel) (by decide) ?_
      refine Ev_iload_n hq_156 (show decode prog_7_method_33_code 65 = .ok (.iload_n 1, 1) by decide +kernel) rfl ?_
      refine Ev_imul hq_156 (show decode prog_7_method_33_code 66 = .ok (.imul, 1) by decide +kernel) ?_
      refine Ev_iload_n hq_156 (show decode prog_7_method_33_code 67 = .ok (.iload_n 2, 1) by decide +kernel) rfl ?_
      refine Ev_iadd hq_156 (show decode prog_7_method_33_code 68 = .ok (.iadd, 1) by decide +kernel) ?_
      obtain ⟨h14, k⟩ := k
      refine Ev_iald hq_156 (show decode prog_7_method_33_code 69 = .ok (.iaload, 1) by decide +kernel) (SGn hS (by decide)) (SGk hS rfl) (SGi hS rfl h14) ?_
      exact Ev_iret hq_156 (show decode prog_7_method_33_code 70 = .ok (.ireturn, 1) by decide +kernel) rfl k
    have k := k.2 c13
    by_cases c15 : x2 = 5
    · have k := k.1 c15
      refine Ev_tableIn (off := 59) (tgt := 71) hq_156 (show decode prog_7_method_33_code 12 = .ok (.tableswitch 79 0 7 #[48, 48, 48, 48, 48, 59, 66, 73], 48) by decide +kernel) (by rw [c15]; decide) (by rw [c15]; decide) (by rw [c15]; decide) (by decide) ?_
      refine Ev_aload_n hq_156 (show decode prog_7_method_33_code 71 = .ok (.aload_n 0, 1) by decide +kernel) rfl ?_
      refine Ev_getR hq_156 (show decode prog_7_method_33_code 72 = .ok (.getfield 7, 3) by decide +kernel) rfl (SGn hS (by decide)) (SGk hS rfl) (by decide) rfl (SGr hS rfl) ?_
      refine Ev_iload_n hq_156 (show decode prog_7_method_33_code 75 = .ok (.iload_n 1, 1) by decide +kernel) rfl ?_
      obtain ⟨h16, k⟩ := k
      refine Ev_iald hq_156 (show decode prog_7_method_33_code 76 = .ok (.iaload, 1) by decide +kernel) (SGn hS (by decide)) (SGk hS rfl) (SGi hS rfl h16) ?_
      exact Ev_iret hq_156 (show decode prog_7_method_33_code 77 = .ok (.ireturn, 1) by decide +kernel) rfl k
    have k := k.2 c15
    by_cases c17 : x2 = 6
    · have k := k.1 c17
      refine Ev_tableIn (off := 66) (tgt := 78) hq_156 (show decode prog_7_method_33_code 12 = .ok (.tableswitch 79 0 7 #[48, 48, 48, 48, 48, 59, 66, 73], 48) by decide +kernel) (by rw [c17]; decide) (by rw [c17]; decide) (by rw [c17]; decide) (by decide) ?_
      refine Ev_aload_n hq_156 (show decode prog_7_method_33_code 78 = .ok (.aload_n 0, 1) by decide +kernel) rfl ?_
      refine Ev_getR hq_156 (show decode prog_7_method_33_code 79 = .ok (.getfield 13, 3) by decide +kernel) rfl (SGn hS (by decide)) (SGk hS rfl) (by decide) rfl (SGr hS rfl) ?_
      refine Ev_iload_n hq_156 (show decode prog_7_method_33_code 82 = .ok (.iload_n 1, 1) by decide +kernel) rfl ?_
      obtain ⟨h18, k⟩ := k
      refine Ev_iald hq_156 (show decode prog_7_method_33_code 83 = .ok (.iaload, 1) by decide +kernel) (SGn hS (by decide)) (SGk hS rfl) (SGi hS rfl h18) ?_
      exact Ev_iret hq_156 (show decode prog_7_method_33_code 84 = .ok (.ireturn, 1) by decide +kernel) rfl k
    have k := k.2 c17
    by_cases c19 : x2 = 7
    · have k := k.1 c19
      refine Ev_tableIn (off := 73) (tgt := 85) hq_156 (show decode prog_7_method_33_code 12 = .ok (.tableswitch 79 0 7 #[48, 48, 48, 48, 48, 59, 66, 73], 48) by decide +kernel) (by rw [c19]; decide) (by rw [c19]; decide) (by rw [c19]; decide) (by decide) ?_
      refine Ev_aload_n hq_156 (show decode prog_7_method_33_code 85 = .ok (.aload_n 0, 1) by decide +kernel) rfl ?_
      refine Ev_iload_n hq_156 (show decode prog_7_method_33_code 86 = .ok (.iload_n 1, 1) by decide +kernel) rfl ?_
      obtain ⟨r22, I20, h21, k⟩ := k
      refine Ev_virt (as := [.int x1]) hq_156 (show decode prog_7_method_33_code 87 = .ok (.invokevirtual 187, 3) by decide +kernel) rfl hq_157 rfl (z_le rfl) ⟨(SGn hS (by decide)), (SGk hS rfl), by decide⟩ h21 ?_
      exact Ev_iret hq_156 (show decode prog_7_method_33_code 90 = .ok (.ireturn, 1) by decide +kernel) rfl k
    have k := k.2 c19
    have ec5 : (x2).toInt ≠ 0 := z_ne (k := 0) c5
    have ec7 : (x2).toInt ≠ 1 := z_ne (k := 1) c7
    have ec9 : (x2).toInt ≠ 2 := z_ne (k := 2) c9
    have ec11 : (x2).toInt ≠ 3 := z_ne (k := 3) c11
    have ec13 : (x2).toInt ≠ 4 := z_ne (k := 4) c13
    have ec15 : (x2).toInt ≠ 5 := z_ne (k := 5) c15
    have ec17 : (x2).toInt ≠ 6 := z_ne (k := 6) c17
    have ec19 : (x2).toInt ≠ 7 := z_ne (k := 7) c19
    refine Ev_tableOut (tgt := 91) hq_156 (show decode prog_7_method_33_code 12 = .ok (.tableswitch 79 0 7 #[48, 48, 48, 48, 48, 59, 66, 73], 48) by decide +kernel) (by omega) (by decide) ?_
    refine Ev_bipush (v := (-7)) hq_156 (show decode prog_7_method_33_code 91 = .ok (.bipush (-7), 2) by decide +kernel) (by decide) ?_
    exact Ev_iret hq_156 (show decode prog_7_method_33_code 93 = .ok (.ireturn, 1) by decide +kernel) rfl k
  · have k := k.2 (Classical.not_not.mp c4)
    refine Ev_bipush (v := (-5)) hq_156 (show decode prog_7_method_33_code 8 = .ok (.bipush (-5), 2) by decide +kernel) (by decide) ?_
    exact Ev_iret hq_156 (show decode prog_7_method_33_code 10 = .ok (.ireturn, 1) by decide +kernel) rfl k
set_option maxRecDepth 20000 in
theorem wp_Z_scaldsOf {X : Nat × (Nat → Int32)} {d : Nat} {G : zG} {I : zI} {res : Option Value × zG × zI} (x1 : Int32) (hS : SG G) 
    (k : z_inr x1 4 ∧ ((¬ (I 58 x1.toNatClampNeg) = 3 → z_inr x1 4 ∧ ((¬ (I 58 x1.toNatClampNeg) = 5 → res = (some (.int 50), G, I)) ∧ ((I 58 x1.toNatClampNeg) = 5 → z_inr x1 4 ∧ (res = (some (.int (50 - (4 * (I 59 x1.toNatClampNeg)))), G, I))))) ∧ ((I 58 x1.toNatClampNeg) = 3 → z_inr x1 4 ∧ (res = (some (.int (50 + (10 * (I 59 x1.toNatClampNeg)))), G, I))))) :
    Ev X d 157 0 [.ref 57, .int x1] [] G I res := by
  refine Ev_aload_n hq_157 (show decode prog_7_method_32_code 0 = .ok (.aload_n 0, 1) by decide +kernel) rfl ?_
  refine Ev_getR hq_157 (show decode prog_7_method_32_code 1 = .ok (.getfield 7, 3) by decide +kernel) rfl (SGn hS (by decide)) (SGk hS rfl) (by decide) rfl (SGr hS rfl) ?_
  refine Ev_iload_n hq_157 (show decode prog_7_method_32_code 4 = .ok (.iload_n 1, 1) by decide +kernel) rfl ?_
  obtain ⟨h1, k⟩ := k
  refine Ev_iald hq_157 (show decode prog_7_method_32_code 5 = .ok (.iaload, 1) by decide +kernel) (SGn hS (by decide)) (SGk hS rfl) (SGi hS rfl h1) ?_
  refine Ev_iconst (v := 3) hq_157 (show decode prog_7_method_32_code 6 = .ok (.iconst 3, 1) by decide +kernel) (by decide) ?_
  refine Ev_icmp_ne (tgt := 25) hq_157 (show decode prog_7_method_32_code 7 = .ok (.if_icmp .ne 18, 3) by decide +kernel) (by decide) (fun c2 => ?_) (fun c2 => ?_)
  · have k := k.1 c2
    refine Ev_aload_n hq_157 (show decode prog_7_method_32_code 25 = .ok (.aload_n 0, 1) by decide +kernel) rfl ?_
    refine Ev_getR hq_157 (show decode prog_7_method_32_code 26 = .ok (.getfield 7, 3) by decide +kernel) rfl (SGn hS (by decide)) (SGk hS rfl) (by decide) rfl (SGr hS rfl) ?_
    refine Ev_iload_n hq_157 (show decode prog_7_method_32_code 29 = .ok (.iload_n 1, 1) by decide +kernel) rfl ?_
    obtain ⟨h3, k⟩ := k
    refine Ev_iald hq_157 (show decode prog_7_method_32_code 30 = .ok (.iaload, 1) by decide +kernel) (SGn hS (by decide)) (SGk hS rfl) (SGi hS rfl h3) ?_
    refine Ev_iconst (v := 5) hq_157 (show decode prog_7_method_32_code 31 = .ok (.iconst 5, 1) by decide +kernel) (by decide) ?_
    refine Ev_icmp_ne (tgt := 49) hq_157 (show decode prog_7_method_32_code 32 = .ok (.if_icmp .ne 17, 3) by decide +kernel) (by decide) (fun c4 => ?_) (fun c4 => ?_)
    · have k := k.1 c4
      refine Ev_bipush (v := 50) hq_157 (show decode prog_7_method_32_code 49 = .ok (.bipush 50, 2) by decide +kernel) (by decide) ?_
      exact Ev_iret hq_157 (show decode prog_7_method_32_code 51 = .ok (.ireturn, 1) by decide +kernel) rfl k
    · have k := k.2 (Classical.not_not.mp c4)
      refine Ev_bipush (v := 50) hq_157 (show decode prog_7_method_32_code 35 = .ok (.bipush 50, 2) by decide +kernel) (by decide) ?_
      refine Ev_iconst (v := 4) hq_157 (show decode prog_7_method_32_code 37 = .ok (.iconst 4, 1) by decide +kernel) (by decide) ?_
      refine Ev_aload_n hq_157 (show decode prog_7_method_32_code 38 = .ok (.aload_n 0, 1) by decide +kernel) rfl ?_
      refine Ev_getR hq_157 (show decode prog_7_method_32_code 39 = .ok (.getfield 13, 3) by decide +kernel) rfl (SGn hS (by decide)) (SGk hS rfl) (by decide) rfl (SGr hS rfl) ?_
      refine Ev_iload_n hq_157 (show decode prog_7_method_32_code 42 = .ok (.iload_n 1, 1) by decide +kernel) rfl ?_
      obtain ⟨h5, k⟩ := k
      refine Ev_iald hq_157 (show decode prog_7_method_32_code 43 = .ok (.iaload, 1) by decide +kernel) (SGn hS (by decide)) (SGk hS rfl) (SGi hS rfl h5) ?_
      refine Ev_imul hq_157 (show decode prog_7_method_32_code 44 = .ok (.imul, 1) by decide +kernel) ?_
      refine Ev_isub hq_157 (show decode prog_7_method_32_code 45 = .ok (.isub, 1) by decide +kernel) ?_
      refine Ev_goto (tgt := 51) hq_157 (show decode prog_7_method_32_code 46 = .ok (.goto 5, 3) by decide +kernel) (by decide) ?_
      exact Ev_iret hq_157 (show decode prog_7_method_32_code 51 = .ok (.ireturn, 1) by decide +kernel) rfl k
  · have k := k.2 (Classical.not_not.mp c2)
    refine Ev_bipush (v := 50) hq_157 (show decode prog_7_method_32_code 10 = .ok (.bipush 50, 2) by decide +kernel) (by decide) ?_
    refine Ev_bipush (v := 10) hq_157 (show decode prog_7_method_32_code 12 = .ok (.bipush 10, 2) by decide +kernel) (by decide) ?_
    refine Ev_aload_n hq_157 (show decode prog_7_method_32_code 14 = .ok (.aload_n 0, 1) by decide +kernel) rfl ?_
    refine Ev_getR hq_157 (show decode prog_7_method_32_code 15 = .ok (.getfield 13, 3) by decide +kernel) rfl (SGn hS (by decide)) (SGk hS rfl) (by decide) rfl (SGr hS rfl) ?_
    refine Ev_iload_n hq_157 (show decode prog_7_method_32_code 18 = .ok (.iload_n 1, 1) by decide +kernel) rfl ?_
    obtain ⟨h6, k⟩ := k
    refine Ev_iald hq_157 (show decode prog_7_method_32_code 19 = .ok (.iaload, 1) by decide +kernel) (SGn hS (by decide)) (SGk hS rfl) (SGi hS rfl h6) ?_
    refine Ev_imul hq_157 (show decode prog_7_method_32_code 20 = .ok (.imul, 1) by decide +kernel) ?_
    refine Ev_iadd hq_157 (show decode prog_7_method_32_code 21 = .ok (.iadd, 1) by decide +kernel) ?_
    refine Ev_goto (tgt := 51) hq_157 (show decode prog_7_method_32_code 22 = .ok (.goto 29, 3) by decide +kernel) (by decide) ?_
    exact Ev_iret hq_157 (show decode prog_7_method_32_code 51 = .ok (.ireturn, 1) by decide +kernel) rfl k
set_option maxRecDepth 20000 in
theorem wp_Z_at {X : Nat × (Nat → Int32)} {d : Nat} {G : zG} {I : zI} {res : Option Value × zG × zI} (x1 : Int32) (x2 : Int32) (x3 : Int32) (hS : SG G) 
    (k : ∃ (r3 : Int32) (I1 : zI), Cv X d 148 [.ref 57, .int x1] G I (some (.int r3), G, I1) ∧ ((¬ r3 = 0 → ∃ (r7 : Int32) (I5 : zI), Cv X d 131 [.int x2, .int 0, .int 29] G I1 (some (.int r7), G, I5) ∧ ((r7 = 0 → res = (some (.int (-200000)), G, I5)) ∧ (¬ r7 = 0 → ∃ (r11 : Int32) (I9 : zI), Cv X d 131 [.int x3, .int 0, .int 2] G I5 (some (.int r11), G, I9) ∧ ((¬ r11 = 0 → ∃ (I13 : zI), Cv X d 159 [.ref 57, .int 30] G I9 (none, G, I13) ∧ (z_inr ((4 * x2) + x1) 120 ∧ (∀ y16 : Int32, y16 = (I13 74 ((4 * x2) + x1).toNatClampNeg) → (¬ x3 = 0 → (¬ x3 = 1 → z_inr ((5 * x1) + 1) 20 ∧ (res = (some (.int ((I13 60 ((5 * x1) + 1).toNatClampNeg) - y16)), G, I13))) ∧ (x3 = 1 → z_inr (((4 * x2) + 4) + x1) 124 ∧ (res = (some (.int (I13 73 (((4 * x2) + 4) + x1).toNatClampNeg)), G, I13)))) ∧ (x3 = 0 → res = (some (.int y16), G, I13))))) ∧ (r11 = 0 → res = (some (.int (-200000)), G, I9)))))) ∧ (r3 = 0 → res = (some (.int (-100000)), G, I1)))) :
    Ev X (d + 1) 158 0 [.ref 57, .int x1, .int x2, .int x3, zU] [] G I res := by
  refine Ev_aload_n hq_158 (show decode prog_7_method_42_code 0 = .ok (.aload_n 0, 1) by decide +kernel) rfl ?_
  refine Ev_iload_n hq_158 (show decode prog_7_method_42_code 1 = .ok (.iload_n 1, 1) by decide +kernel) rfl ?_
  obtain ⟨r3, I1, h2, k⟩ := k
  refine Ev_virt (as := [.int x1]) hq_158 (show decode prog_7_method_42_code 2 = .ok (.invokevirtual 176, 3) by decide +kernel) rfl hq_148 rfl (z_le rfl) ⟨(SGn hS (by decide)), (SGk hS rfl), by decide⟩ h2 ?_
  refine Ev_if_ne (tgt := 11) hq_158 (show decode prog_7_method_42_code 5 = .ok (.ifCond .ne 6, 3) by decide +kernel) (by decide) (fun c4 => ?_) (fun c4 => ?_)
  · have k := k.1 c4
    refine Ev_iload_n hq_158 (show decode prog_7_method_42_code 11 = .ok (.iload_n 2, 1) by decide +kernel) rfl ?_
    refine Ev_iconst (v := 0) hq_158 (show decode prog_7_method_42_code 12 = .ok (.iconst 0, 1) by decide +kernel) (by decide) ?_
    refine Ev_bipush (v := 29) hq_158 (show decode prog_7_method_42_code 13 = .ok (.bipush 29, 2) by decide +kernel) (by decide) ?_
    obtain ⟨r7, I5, h6, k⟩ := k
    refine Ev_stat (as := [.int x2, .int 0, .int 29]) hq_158 (show decode prog_7_method_42_code 15 = .ok (.invokestatic 90, 3) by decide +kernel) rfl (Or.inl rfl) hq_131 rfl (z_le rfl) h6 ?_
    refine Ev_if_eq (tgt := 30) hq_158 (show decode prog_7_method_42_code 18 = .ok (.ifCond .eq 12, 3) by decide +kernel) (by decide) (fun c8 => ?_) (fun c8 => ?_)
    · have k := k.1 c8
      refine Ev_ldc (v := (-200000)) hq_158 (show decode prog_7_method_42_code 30 = .ok (.ldc 212, 2) by decide +kernel) rfl ?_
      exact Ev_iret hq_158 (show decode prog_7_method_42_code 32 = .ok (.ireturn, 1) by decide +kernel) rfl k
    · have k := k.2 c8
      refine Ev_iload_n hq_158 (show decode prog_7_method_42_code 21 = .ok (.iload_n 3, 1) by decide +kernel) rfl ?_
      refine Ev_iconst (v := 0) hq_158 (show decode prog_7_method_42_code 22 = .ok (.iconst 0, 1) by decide +kernel) (by decide) ?_
      refine Ev_iconst (v := 2) hq_158 (show decode prog_7_method_42_code 23 = .ok (.iconst 2, 1) by decide +kernel) (by decide) ?_
      obtain ⟨r11, I9, h10, k⟩ := k
      refine Ev_stat (as := [.int x3, .int 0, .int 2]) hq_158 (show decode prog_7_method_42_code 24 = .ok (.invokestatic 90, 3) by decide +kernel) rfl (Or.inl rfl) hq_131 rfl (z_le rfl) h10 ?_
      refine Ev_if_ne (tgt := 33) hq_158 (show decode prog_7_method_42_code 27 = .ok (.ifCond .ne 6, 3) by decide +kernel) (by decide) (fun c12 => ?_) (fun c12 => ?_)
      · have k := k.1 c12
        refine Ev_aload_n hq_158 (show decode prog_7_method_42_code 33 = .ok (.aload_n 0, 1) by decide +kernel) rfl ?_
        refine Ev_bipush (v := 30) hq_158 (show decode prog_7_method_42_code 34 = .ok (.bipush 30, 2) by decide +kernel) (by decide) ?_
        obtain ⟨I13, h14, k⟩ := k
        refine Ev_virt (as := [.int 30]) hq_158 (show decode prog_7_method_42_code 36 = .ok (.invokevirtual 205, 3) by decide +kernel) rfl hq_159 rfl (z_le rfl) ⟨(SGn hS (by decide)), (SGk hS rfl), by decide⟩ h14 ?_
        refine Ev_aload_n hq_158 (show decode prog_7_method_42_code 39 = .ok (.aload_n 0, 1) by decide +kernel) rfl ?_
        refine Ev_getR hq_158 (show decode prog_7_method_42_code 40 = .ok (.getfield 58, 3) by decide +kernel) rfl (SGn hS (by decide)) (SGk hS rfl) (by decide) rfl (SGr hS rfl) ?_
        refine Ev_iconst (v := 4) hq_158 (show decode prog_7_method_42_code 43 = .ok (.iconst 4, 1) by decide +kernel) (by decide) ?_
        refine Ev_iload_n hq_158 (show decode prog_7_method_42_code 44 = .ok (.iload_n 2, 1) by decide +kernel) rfl ?_
        refine Ev_imul hq_158 (show decode prog_7_method_42_code 45 = .ok (.imul, 1) by decide +kernel) ?_
        refine Ev_iload_n hq_158 (show decode prog_7_method_42_code 46 = .ok (.iload_n 1, 1) by decide +kernel) rfl ?_
        refine Ev_iadd hq_158 (show decode prog_7_method_42_code 47 = .ok (.iadd, 1) by decide +kernel) ?_
        obtain ⟨h15, k⟩ := k
        refine Ev_iald hq_158 (show decode prog_7_method_42_code 48 = .ok (.iaload, 1) by decide +kernel) (SGn hS (by decide)) (SGk hS rfl) (SGi hS rfl h15) ?_
        obtain ⟨y16, ey16⟩ : ∃ y16 : Int32, y16 = (I13 74 ((4 * x2) + x1).toNatClampNeg) := ⟨_, rfl⟩
        have k := k y16 ey16
        rw [← ey16]
        refine Ev_istore (lo2 := [.ref 57, .int x1, .int x2, .int x3, .int y16]) hq_158 (show decode prog_7_method_42_code 49 = .ok (.istore 4, 2) by decide +kernel) (z_le rfl) rfl ?_
        refine Ev_iload_n hq_158 (show decode prog_7_method_42_code 51 = .ok (.iload_n 3, 1) by decide +kernel) rfl ?_
        refine Ev_if_ne (tgt := 60) hq_158 (show decode prog_7_method_42_code 52 = .ok (.ifCond .ne 8, 3) by decide +kernel) (by decide) (fun c17 => ?_) (fun c17 => ?_)
        · have k := k.1 c17
          refine Ev_iload_n hq_158 (show decode prog_7_method_42_code 60 = .ok (.iload_n 3, 1) by decide +kernel) rfl ?_
          refine Ev_iconst (v := 1) hq_158 (show decode prog_7_method_42_code 61 = .ok (.iconst 1, 1) by decide +kernel) (by decide) ?_
          refine Ev_icmp_ne (tgt := 80) hq_158 (show decode prog_7_method_42_code 62 = .ok (.if_icmp .ne 18, 3) by decide +kernel) (by decide) (fun c18 => ?_) (fun c18 => ?_)
          · have k := k.1 c18
            refine Ev_aload_n hq_158 (show decode prog_7_method_42_code 80 = .ok (.aload_n 0, 1) by decide +kernel) rfl ?_
            refine Ev_getR hq_158 (show decode prog_7_method_42_code 81 = .ok (.getfield 16, 3) by decide +kernel) rfl (SGn hS (by decide)) (SGk hS rfl) (by decide) rfl (SGr hS rfl) ?_
            refine Ev_iconst (v := 5) hq_158 (show decode prog_7_method_42_code 84 = .ok (.iconst 5, 1) by decide +kernel) (by decide) ?_
            refine Ev_iload_n hq_158 (show decode prog_7_method_42_code 85 = .ok (.iload_n 1, 1) by decide +kernel) rfl ?_
            refine Ev_imul hq_158 (show decode prog_7_method_42_code 86 = .ok (.imul, 1) by decide +kernel) ?_
            refine Ev_iconst (v := 1) hq_158 (show decode prog_7_method_42_code 87 = .ok (.iconst 1, 1) by decide +kernel) (by decide) ?_
            refine Ev_iadd hq_158 (show decode prog_7_method_42_code 88 = .ok (.iadd, 1) by decide +kernel) ?_
            obtain ⟨h19, k⟩ := k
            refine Ev_iald hq_158 (show decode prog_7_method_42_code 89 = .ok (.iaload, 1) by decide +kernel) (SGn hS (by decide)) (SGk hS rfl) (SGi hS rfl h19) ?_
            refine Ev_iload hq_158 (show decode prog_7_method_42_code 90 = .ok (.iload 4, 2) by decide +kernel) rfl ?_
            refine Ev_isub hq_158 (show decode prog_7_method_42_code 92 = .ok (.isub, 1) by decide +kernel) ?_
            exact Ev_iret hq_158 (show decode prog_7_method_42_code 93 = .ok (.ireturn, 1) by decide +kernel) rfl k
          · have k := k.2 (Classical.not_not.mp c18)
            refine Ev_aload_n hq_158 (show decode prog_7_method_42_code 65 = .ok (.aload_n 0, 1) by decide +kernel) rfl ?_
            refine Ev_getR hq_158 (show decode prog_7_method_42_code 66 = .ok (.getfield 55, 3) by decide +kernel) rfl (SGn hS (by decide)) (SGk hS rfl) (by decide) rfl (SGr hS rfl) ?_
            refine Ev_iconst (v := 4) hq_158 (show decode prog_7_method_42_code 69 = .ok (.iconst 4, 1) by decide +kernel) (by decide) ?_
            refine Ev_iload_n hq_158 (show decode prog_7_method_42_code 70 = .ok (.iload_n 2, 1) by decide +kernel) rfl ?_
            refine Ev_imul hq_158 (show decode prog_7_method_42_code 71 = .ok (.imul, 1) by decide +kernel) ?_
            refine Ev_iconst (v := 4) hq_158 (show decode prog_7_method_42_code 72 = .ok (.iconst 4, 1) by decide +kernel) (by decide) ?_
            refine Ev_iadd hq_158 (show decode prog_7_method_42_code 73 = .ok (.iadd, 1) by decide +kernel) ?_
            refine Ev_iload_n hq_158 (show decode prog_7_method_42_code 74 = .ok (.iload_n 1, 1) by decide +kernel) rfl ?_
            refine Ev_iadd hq_158 (show decode prog_7_method_42_code 75 = .ok (.iadd, 1) by decide +kernel) ?_
            obtain ⟨h20, k⟩ := k
            refine Ev_iald hq_158 (show decode prog_7_method_42_code 76 = .ok (.iaload, 1) by decide +kernel) (SGn hS (by decide)) (SGk hS rfl) (SGi hS rfl h20) ?_
            refine Ev_goto (tgt := 93) hq_158 (show decode prog_7_method_42_code 77 = .ok (.goto 16, 3) by decide +kernel) (by decide) ?_
            exact Ev_iret hq_158 (show decode prog_7_method_42_code 93 = .ok (.ireturn, 1) by decide +kernel) rfl k
        · have k := k.2 (Classical.not_not.mp c17)
          refine Ev_iload hq_158 (show decode prog_7_method_42_code 55 = .ok (.iload 4, 2) by decide +kernel) rfl ?_
          refine Ev_goto (tgt := 93) hq_158 (show decode prog_7_method_42_code 57 = .ok (.goto 36, 3) by decide +kernel) (by decide) ?_
          exact Ev_iret hq_158 (show decode prog_7_method_42_code 93 = .ok (.ireturn, 1) by decide +kernel) rfl k
      · have k := k.2 (Classical.not_not.mp c12)
        refine Ev_ldc (v := (-200000)) hq_158 (show decode prog_7_method_42_code 30 = .ok (.ldc 212, 2) by decide +kernel) rfl ?_
        exact Ev_iret hq_158 (show decode prog_7_method_42_code 32 = .ok (.ireturn, 1) by decide +kernel) rfl k
  · have k := k.2 (Classical.not_not.mp c4)
    refine Ev_ldc (v := (-100000)) hq_158 (show decode prog_7_method_42_code 8 = .ok (.ldc 211, 2) by decide +kernel) rfl ?_
    exact Ev_iret hq_158 (show decode prog_7_method_42_code 10 = .ok (.ireturn, 1) by decide +kernel) rfl k
set_option maxRecDepth 20000 in
theorem wp_Z_runs {X : Nat × (Nat → Int32)} {d : Nat} {G : zG} {I : zI} {res : Option Value × zG × zI} (x1 : Int32) 
    (k : Ev X d 159 2 [.ref 57, .int x1, .int 0] [] G I res) :
    Ev X d 159 0 [.ref 57, .int x1, zU] [] G I res := by
  refine Ev_iconst (v := 0) hq_159 (show decode prog_7_method_38_code 0 = .ok (.iconst 0, 1) by decide +kernel) (by decide) ?_
  refine Ev_istore_n (lo2 := [.ref 57, .int x1, .int 0]) hq_159 (show decode prog_7_method_38_code 1 = .ok (.istore_n 2, 1) by decide +kernel) (z_le rfl) rfl ?_
  exact k
set_option maxRecDepth 20000 in
theorem wp_Z_runs_2 {X : Nat × (Nat → Int32)} {d : Nat} {G : zG} {I : zI} {res : Option Value × zG × zI} (x1 : Int32) (x2 : Int32) (hS : SG G) 
    (k : ((I 57 0) ≤ x2 → Ev X d 159 55 [.ref 57, .int x1, .int 0] [] G I res) ∧ (¬ (I 57 0) ≤ x2 → z_inr ((5 * x2) + 2) 20 ∧ (z_inr x2 124 ∧ (∀ I4 : zI, I4 = z_up I 73 x2.toNatClampNeg (I 60 ((5 * x2) + 2).toNatClampNeg) → z_inr x2 4 ∧ (∀ I6 : zI, I6 = z_up I4 75 x2.toNatClampNeg 0 → z_inr x2 4 ∧ (∀ I8 : zI, I8 = z_up I6 76 x2.toNatClampNeg 0 → z_inr x2 4 ∧ (∀ I10 : zI, I10 = z_up I8 77 x2.toNatClampNeg 0 → ∀ y11 : Int32, y11 = x2 + 1 → Ev X d 159 2 [.ref 57, .int x1, .int y11] [] G I10 res))))))) :
    Ev X d 159 2 [.ref 57, .int x1, .int x2] [] G I res := by
  refine Ev_iload_n hq_159 (show decode prog_7_method_38_code 2 = .ok (.iload_n 2, 1) by decide +kernel) rfl ?_
  refine Ev_aload_n hq_159 (show decode prog_7_method_38_code 3 = .ok (.aload_n 0, 1) by decide +kernel) rfl ?_
  refine Ev_getI hq_159 (show decode prog_7_method_38_code 4 = .ok (.getfield 87, 3) by decide +kernel) rfl (SGn hS (by decide)) (SGk hS rfl) (by decide) rfl ?_
  refine Ev_icmp_ge (tgt := 53) hq_159 (show decode prog_7_method_38_code 7 = .ok (.if_icmp .ge 46, 3) by decide +kernel) (by decide) (fun c1 => ?_) (fun c1 => ?_)
  · have k := k.1 c1
    refine Ev_iconst (v := 0) hq_159 (show decode prog_7_method_38_code 53 = .ok (.iconst 0, 1) by decide +kernel) (by decide) ?_
    refine Ev_istore_n (lo2 := [.ref 57, .int x1, .int 0]) hq_159 (show decode prog_7_method_38_code 54 = .ok (.istore_n 2, 1) by decide +kernel) (z_le rfl) rfl ?_
    exact k
  · have k := k.2 c1
    refine Ev_aload_n hq_159 (show decode prog_7_method_38_code 10 = .ok (.aload_n 0, 1) by decide +kernel) rfl ?_
    refine Ev_getR hq_159 (show decode prog_7_method_38_code 11 = .ok (.getfield 55, 3) by decide +kernel) rfl (SGn hS (by decide)) (SGk hS rfl) (by decide) rfl (SGr hS rfl) ?_
    refine Ev_iload_n hq_159 (show decode prog_7_method_38_code 14 = .ok (.iload_n 2, 1) by decide +kernel) rfl ?_
    refine Ev_aload_n hq_159 (show decode prog_7_method_38_code 15 = .ok (.aload_n 0, 1) by decide +kernel) rfl ?_
    refine Ev_getR hq_159 (show decode prog_7_method_38_code 16 = .ok (.getfield 16, 3) by decide +kernel) rfl (SGn hS (by decide)) (SGk hS rfl) (by decide) rfl (SGr hS rfl) ?_
    refine Ev_iconst (v := 5) hq_159 (show decode prog_7_method_38_code 19 = .ok (.iconst 5, 1) by decide +kernel) (by decide) ?_
    refine Ev_iload_n hq_159 (show decode prog_7_method_38_code 20 = .ok (.iload_n 2, 1) by decide +kernel) rfl ?_
    refine Ev_imul hq_159 (show decode prog_7_method_38_code 21 = .ok (.imul, 1) by decide +kernel) ?_
    refine Ev_iconst (v := 2) hq_159 (show decode prog_7_method_38_code 22 = .ok (.iconst 2, 1) by decide +kernel) (by decide) ?_
    refine Ev_iadd hq_159 (show decode prog_7_method_38_code 23 = .ok (.iadd, 1) by decide +kernel) ?_
    obtain ⟨h2, k⟩ := k
    refine Ev_iald hq_159 (show decode prog_7_method_38_code 24 = .ok (.iaload, 1) by decide +kernel) (SGn hS (by decide)) (SGk hS rfl) (SGi hS rfl h2) ?_
    obtain ⟨h3, k⟩ := k
    refine Ev_iast hq_159 (show decode prog_7_method_38_code 25 = .ok (.iastore, 1) by decide +kernel) (SGn hS (by decide)) (SGk hS rfl) (SGi hS rfl h3) ?_
    obtain ⟨I4, eI4⟩ : ∃ I4 : zI, I4 = z_up I 73 x2.toNatClampNeg (I 60 ((5 * x2) + 2).toNatClampNeg) := ⟨_, rfl⟩
    have k := k I4 eI4
    rw [← eI4]
    refine Ev_aload_n hq_159 (show decode prog_7_method_38_code 26 = .ok (.aload_n 0, 1) by decide +kernel) rfl ?_
    refine Ev_getR hq_159 (show decode prog_7_method_38_code 27 = .ok (.getfield 61, 3) by decide +kernel) rfl (SGn hS (by decide)) (SGk hS rfl) (by decide) rfl (SGr hS rfl) ?_
    refine Ev_iload_n hq_159 (show decode prog_7_method_38_code 30 = .ok (.iload_n 2, 1) by decide +kernel) rfl ?_
    refine Ev_iconst (v := 0) hq_159 (show decode prog_7_method_38_code 31 = .ok (.iconst 0, 1) by decide +kernel) (by decide) ?_
    obtain ⟨h5, k⟩ := k
    refine Ev_iast hq_159 (show decode prog_7_method_38_code 32 = .ok (.iastore, 1) by decide +kernel) (SGn hS (by decide)) (SGk hS rfl) (SGi hS rfl h5) ?_
    obtain ⟨I6, eI6⟩ : ∃ I6 : zI, I6 = z_up I4 75 x2.toNatClampNeg 0 := ⟨_, rfl⟩
    have k := k I6 eI6
    rw [← eI6]
    refine Ev_aload_n hq_159 (show decode prog_7_method_38_code 33 = .ok (.aload_n 0, 1) by decide +kernel) rfl ?_
    refine Ev_getR hq_159 (show decode prog_7_method_38_code 34 = .ok (.getfield 64, 3) by decide +kernel) rfl (SGn hS (by decide)) (SGk hS rfl) (by decide) rfl (SGr hS rfl) ?_
    refine Ev_iload_n hq_159 (show decode prog_7_method_38_code 37 = .ok (.iload_n 2, 1) by decide +kernel) rfl ?_
    refine Ev_iconst (v := 0) hq_159 (show decode prog_7_method_38_code 38 = .ok (.iconst 0, 1) by decide +kernel) (by decide) ?_
    obtain ⟨h7, k⟩ := k
    refine Ev_iast hq_159 (show decode prog_7_method_38_code 39 = .ok (.iastore, 1) by decide +kernel) (SGn hS (by decide)) (SGk hS rfl) (SGi hS rfl h7) ?_
    obtain ⟨I8, eI8⟩ : ∃ I8 : zI, I8 = z_up I6 76 x2.toNatClampNeg 0 := ⟨_, rfl⟩
    have k := k I8 eI8
    rw [← eI8]
    refine Ev_aload_n hq_159 (show decode prog_7_method_38_code 40 = .ok (.aload_n 0, 1) by decide +kernel) rfl ?_
    refine Ev_getR hq_159 (show decode prog_7_method_38_code 41 = .ok (.getfield 67, 3) by decide +kernel) rfl (SGn hS (by decide)) (SGk hS rfl) (by decide) rfl (SGr hS rfl) ?_
    refine Ev_iload_n hq_159 (show decode prog_7_method_38_code 44 = .ok (.iload_n 2, 1) by decide +kernel) rfl ?_
    refine Ev_iconst (v := 0) hq_159 (show decode prog_7_method_38_code 45 = .ok (.iconst 0, 1) by decide +kernel) (by decide) ?_
    obtain ⟨h9, k⟩ := k
    refine Ev_iast hq_159 (show decode prog_7_method_38_code 46 = .ok (.iastore, 1) by decide +kernel) (SGn hS (by decide)) (SGk hS rfl) (SGi hS rfl h9) ?_
    obtain ⟨I10, eI10⟩ : ∃ I10 : zI, I10 = z_up I8 77 x2.toNatClampNeg 0 := ⟨_, rfl⟩
    have k := k I10 eI10
    rw [← eI10]
    obtain ⟨y11, ey11⟩ : ∃ y11 : Int32, y11 = x2 + 1 := ⟨_, rfl⟩
    have k := k y11 ey11
    refine Ev_iinc (v := y11) (lo2 := [.ref 57, .int x1, .int y11]) hq_159 (show decode prog_7_method_38_code 47 = .ok (.iinc 2 1, 3) by decide +kernel) rfl (by rw [ey11]; rfl) rfl ?_
    refine Ev_goto (tgt := 2) hq_159 (show decode prog_7_method_38_code 50 = .ok (.goto (-48), 3) by decide +kernel) (by decide) ?_
    exact k
set_option maxRecDepth 20000 in
theorem wp_Z_runs_55 {X : Nat × (Nat → Int32)} {d : Nat} {G : zG} {I : zI} {res : Option Value × zG × zI} (x1 : Int32) (x2 : Int32) (hS : SG G) 
    (k : (x1 ≤ x2 → res = (none, G, I)) ∧ (¬ x1 ≤ x2 → ∃ (I2 : zI), Cv X d 160 [.ref 57, .int x2] G I (none, G, I2) ∧ (∀ y4 : Int32, y4 = x2 + 1 → Ev X (d + 1) 159 55 [.ref 57, .int x1, .int y4] [] G I2 res))) :
    Ev X (d + 1) 159 55 [.ref 57, .int x1, .int x2] [] G I res := by
  refine Ev_iload_n hq_159 (show decode prog_7_method_38_code 55 = .ok (.iload_n 2, 1) by decide +kernel) rfl ?_
  refine Ev_iload_n hq_159 (show decode prog_7_method_38_code 56 = .ok (.iload_n 1, 1) by decide +kernel) rfl ?_
  refine Ev_icmp_ge (tgt := 71) hq_159 (show decode prog_7_method_38_code 57 = .ok (.if_icmp .ge 14, 3) by decide +kernel) (by decide) (fun c1 => ?_) (fun c1 => ?_)
  · have k := k.1 c1
    exact Ev_vret hq_159 (show decode prog_7_method_38_code 71 = .ok (.return_, 1) by decide +kernel) k
  · have k := k.2 c1
    refine Ev_aload_n hq_159 (show decode prog_7_method_38_code 60 = .ok (.aload_n 0, 1) by decide +kernel) rfl ?_
    refine Ev_iload_n hq_159 (show decode prog_7_method_38_code 61 = .ok (.iload_n 2, 1) by decide +kernel) rfl ?_
    obtain ⟨I2, h3, k⟩ := k
    refine Ev_virt (as := [.int x2]) hq_159 (show decode prog_7_method_38_code 62 = .ok (.invokevirtual 202, 3) by decide +kernel) rfl hq_160 rfl (z_le rfl) ⟨(SGn hS (by decide)), (SGk hS rfl), by decide⟩ h3 ?_
    obtain ⟨y4, ey4⟩ : ∃ y4 : Int32, y4 = x2 + 1 := ⟨_, rfl⟩
    have k := k y4 ey4
    refine Ev_iinc (v := y4) (lo2 := [.ref 57, .int x1, .int y4]) hq_159 (show decode prog_7_method_38_code 65 = .ok (.iinc 2 1, 3) by decide +kernel) rfl (by rw [ey4]; rfl) rfl ?_
    refine Ev_goto (tgt := 55) hq_159 (show decode prog_7_method_38_code 68 = .ok (.goto (-13), 3) by decide +kernel) (by decide) ?_
    exact k
set_option maxRecDepth 20000 in
theorem wp_Z_beats {X : Nat × (Nat → Int32)} {d : Nat} {G : zG} {I : zI} {res : Option Value × zG × zI} (x1 : Int32) 
    (k : Ev X d 160 2 [.ref 57, .int x1, .int 0, zU, zU, zU] [] G I res) :
    Ev X d 160 0 [.ref 57, .int x1, zU, zU, zU, zU] [] G I res := by
  refine Ev_iconst (v := 0) hq_160 (show decode prog_7_method_37_code 0 = .ok (.iconst 0, 1) by decide +kernel) (by decide) ?_
  refine Ev_istore_n (lo2 := [.ref 57, .int x1, .int 0, zU, zU, zU]) hq_160 (show decode prog_7_method_37_code 1 = .ok (.istore_n 2, 1) by decide +kernel) (z_le rfl) rfl ?_
  exact k
set_option maxRecDepth 20000 in
theorem wp_Z_beats_2 {X : Nat × (Nat → Int32)} {d : Nat} {G : zG} {I : zI} {res : Option Value × zG × zI} (x1 : Int32) (x2 : Int32) (hS : SG G) 
    (k : ((I 57 0) ≤ x2 → Ev X (d + 1) 160 34 [.ref 57, .int x1, .int 0, zU, zU, zU] [] G I res) ∧ (¬ (I 57 0) ≤ x2 → ∃ (r4 : Int32) (I2 : zI), Cv X d 161 [.ref 57, .int x2, .int x1] G I (some (.int r4), G, I2) ∧ (z_inr ((4 * x1) + x2) 120 ∧ (∀ I6 : zI, I6 = z_up I2 74 ((4 * x1) + x2).toNatClampNeg r4 → ∀ y7 : Int32, y7 = x2 + 1 → Ev X (d + 1) 160 2 [.ref 57, .int x1, .int y7, zU, zU, zU] [] G I6 res)))) :
    Ev X (d + 1) 160 2 [.ref 57, .int x1, .int x2, zU, zU, zU] [] G I res := by
  refine Ev_iload_n hq_160 (show decode prog_7_method_37_code 2 = .ok (.iload_n 2, 1) by decide +kernel) rfl ?_
  refine Ev_aload_n hq_160 (show decode prog_7_method_37_code 3 = .ok (.aload_n 0, 1) by decide +kernel) rfl ?_
  refine Ev_getI hq_160 (show decode prog_7_method_37_code 4 = .ok (.getfield 87, 3) by decide +kernel) rfl (SGn hS (by decide)) (SGk hS rfl) (by decide) rfl ?_
  refine Ev_icmp_ge (tgt := 32) hq_160 (show decode prog_7_method_37_code 7 = .ok (.if_icmp .ge 25, 3) by decide +kernel) (by decide) (fun c1 => ?_) (fun c1 => ?_)
  · have k := k.1 c1
    refine Ev_iconst (v := 0) hq_160 (show decode prog_7_method_37_code 32 = .ok (.iconst 0, 1) by decide +kernel) (by decide) ?_
    refine Ev_istore_n (lo2 := [.ref 57, .int x1, .int 0, zU, zU, zU]) hq_160 (show decode prog_7_method_37_code 33 = .ok (.istore_n 2, 1) by decide +kernel) (z_le rfl) rfl ?_
    exact k
  · have k := k.2 c1
    refine Ev_aload_n hq_160 (show decode prog_7_method_37_code 10 = .ok (.aload_n 0, 1) by decide +kernel) rfl ?_
    refine Ev_getR hq_160 (show decode prog_7_method_37_code 11 = .ok (.getfield 58, 3) by decide +kernel) rfl (SGn hS (by decide)) (SGk hS rfl) (by decide) rfl (SGr hS rfl) ?_
    refine Ev_iconst (v := 4) hq_160 (show decode prog_7_method_37_code 14 = .ok (.iconst 4, 1) by decide +kernel) (by decide) ?_
    refine Ev_iload_n hq_160 (show decode prog_7_method_37_code 15 = .ok (.iload_n 1, 1) by decide +kernel) rfl ?_
    refine Ev_imul hq_160 (show decode prog_7_method_37_code 16 = .ok (.imul, 1) by decide +kernel) ?_
    refine Ev_iload_n hq_160 (show decode prog_7_method_37_code 17 = .ok (.iload_n 2, 1) by decide +kernel) rfl ?_
    refine Ev_iadd hq_160 (show decode prog_7_method_37_code 18 = .ok (.iadd, 1) by decide +kernel) ?_
    refine Ev_aload_n hq_160 (show decode prog_7_method_37_code 19 = .ok (.aload_n 0, 1) by decide +kernel) rfl ?_
    refine Ev_iload_n hq_160 (show decode prog_7_method_37_code 20 = .ok (.iload_n 2, 1) by decide +kernel) rfl ?_
    refine Ev_iload_n hq_160 (show decode prog_7_method_37_code 21 = .ok (.iload_n 1, 1) by decide +kernel) rfl ?_
    obtain ⟨r4, I2, h3, k⟩ := k
    refine Ev_virt (as := [.int x2, .int x1]) hq_160 (show decode prog_7_method_37_code 22 = .ok (.invokevirtual 196, 3) by decide +kernel) rfl hq_161 rfl (z_le rfl) ⟨(SGn hS (by decide)), (SGk hS rfl), by decide⟩ h3 ?_
    obtain ⟨h5, k⟩ := k
    refine Ev_iast hq_160 (show decode prog_7_method_37_code 25 = .ok (.iastore, 1) by decide +kernel) (SGn hS (by decide)) (SGk hS rfl) (SGi hS rfl h5) ?_
    obtain ⟨I6, eI6⟩ : ∃ I6 : zI, I6 = z_up I2 74 ((4 * x1) + x2).toNatClampNeg r4 := ⟨_, rfl⟩
    have k := k I6 eI6
    rw [← eI6]
    obtain ⟨y7, ey7⟩ : ∃ y7 : Int32, y7 = x2 + 1 := ⟨_, rfl⟩
    have k := k y7 ey7
    refine Ev_iinc (v := y7) (lo2 := [.ref 57, .int x1, .int y7, zU, zU, zU]) hq_160 (show decode prog_7_method_37_code 26 = .ok (.iinc 2 1, 3) by decide +kernel) rfl (by rw [ey7]; rfl) rfl ?_
    refine Ev_goto (tgt := 2) hq_160 (show decode prog_7_method_37_code 29 = .ok (.goto (-27), 3) by decide +kernel) (by decide) ?_
    exact k
set_option maxRecDepth 20000 in
theorem wp_Z_beats_34 {X : Nat × (Nat → Int32)} {d : Nat} {G : zG} {I : zI} {res : Option Value × zG × zI} (x1 : Int32) (x2 : Int32) (v3 : Value) (cv3 : v3.category = 1) (v4 : Value) (cv4 : v4.category = 1) (v5 : Value) (cv5 : v5.category = 1) (hS : SG G) 
    (k : ((I 57 0) ≤ x2 → res = (none, G, I)) ∧ (¬ (I 57 0) ≤ x2 → z_inr ((4 * x1) + x2) 124 ∧ (∀ y3 : Int32, y3 = (I 73 ((4 * x1) + x2).toNatClampNeg) → z_inr ((5 * x2) + 1) 20 ∧ (z_inr ((4 * x1) + x2) 120 ∧ (∀ y6 : Int32, y6 = ((I 60 ((5 * x2) + 1).toNatClampNeg) - (I 74 ((4 * x1) + x2).toNatClampNeg)) → (¬ x1 = 0 → z_inr ((5 * x2) + 1) 20 ∧ (z_inr ((4 * (x1 - 1)) + x2) 120 ∧ (∀ y10 : Int32, y10 = ((I 60 ((5 * x2) + 1).toNatClampNeg) - (I 74 ((4 * (x1 - 1)) + x2).toNatClampNeg)) → z_inr ((4 * (x1 + 1)) + x2) 124 ∧ (∀ I12 : zI, I12 = z_up I 73 ((4 * (x1 + 1)) + x2).toNatClampNeg y3 → ∃ (r15 : Int32) (I13 : zI), Cv X d 143 [.ref 57, .int x2] G I12 (some (.int r15), G, I13) ∧ ((r15 = 0 → ∀ y17 : Int32, y17 = x2 + 1 → Ev X (d + 1) 160 34 [.ref 57, .int x1, .int y17, .int y3, .int y6, .int y10] [] G I13 res) ∧ (¬ r15 = 0 → z_inr x2 4 ∧ (∃ (r21 : Int32) (I19 : zI), Cv X d 149 [.ref 57, .int 1, .int x2, .int y6, .int y10, .int y3, .int x1] G I13 (some (.int r21), G, I19) ∧ (z_inr x2 4 ∧ (∀ I23 : zI, I23 = z_up I19 75 x2.toNatClampNeg ((I13 75 x2.toNatClampNeg) + r21) → z_inr x2 4 ∧ (∃ (r27 : Int32) (I25 : zI), Cv X d 149 [.ref 57, .int 2, .int x2, .int y6, .int y10, .int y3, .int x1] G I23 (some (.int r27), G, I25) ∧ ((¬ r27 = 1 → z_inr x2 4 ∧ (∀ I30 : zI, I30 = z_up I25 76 x2.toNatClampNeg ((I23 76 x2.toNatClampNeg) ||| 0) → z_inr x2 4 ∧ (∃ (r34 : Int32) (I32 : zI), Cv X d 157 [.ref 57, .int x2] G I30 (some (.int r34), G, I32) ∧ (((-y6) < r34 → z_inr x2 4 ∧ (∀ I37 : zI, I37 = z_up I32 77 x2.toNatClampNeg ((I30 77 x2.toNatClampNeg) + 0) → ∃ (r40 : Int32) (I38 : zI), Cv X d 149 [.ref 57, .int 0, .int x2, .int y6, .int y10, .int y3, .int x1] G I37 (some (.int r40), G, I38) ∧ (∃ (r43 : Int32) (I41 : zI), Cv X d 163 [.ref 57, .int x2, .int r40] G I38 (some (.int r43), G, I41) ∧ (∃ (r46 : Int32) (I44 : zI), Cv X d 152 [.int (y3 + r43), .int 0, .int 999] G I41 (some (.int r46), G, I44) ∧ (z_inr ((4 * (x1 + 1)) + x2) 124 ∧ (∀ I48 : zI, I48 = z_up I44 73 ((4 * (x1 + 1)) + x2).toNatClampNeg r46 → ∀ y49 : Int32, y49 = x2 + 1 → Ev X (d + 1) 160 34 [.ref 57, .int x1, .int y49, .int y3, .int y6, .int y10] [] G I48 res)))))) ∧ (¬ (-y6) < r34 → z_inr x2 4 ∧ (∀ I51 : zI, I51 = z_up I32 77 x2.toNatClampNeg ((I30 77 x2.toNatClampNeg) + 1) → ∃ (r54 : Int32) (I52 : zI), Cv X d 149 [.ref 57, .int 0, .int x2, .int y6, .int y10, .int y3, .int x1] G I51 (some (.int r54), G, I52) ∧ (∃ (r57 : Int32) (I55 : zI), Cv X d 163 [.ref 57, .int x2, .int r54] G I52 (some (.int r57), G, I55) ∧ (∃ (r60 : Int32) (I58 : zI), Cv X d 152 [.int (y3 + r57), .int 0, .int 999] G I55 (some (.int r60), G, I58) ∧ (z_inr ((4 * (x1 + 1)) + x2) 124 ∧ (∀ I62 : zI, I62 = z_up I58 73 ((4 * (x1 + 1)) + x2).toNatClampNeg r60 → ∀ y63 : Int32, y63 = x2 + 1 → Ev X (d + 1) 160 34 [.ref 57, .int x1, .int y63, .int y3, .int y6, .int y10] [] G I62 res)))))))))) ∧ (r27 = 1 → z_inr x2 4 ∧ (∀ I65 : zI, I65 = z_up I25 76 x2.toNatClampNeg ((I23 76 x2.toNatClampNeg) ||| (1 <<< (x1 &&& 31))) → z_inr x2 4 ∧ (∃ (r69 : Int32) (I67 : zI), Cv X d 157 [.ref 57, .int x2] G I65 (some (.int r69), G, I67) ∧ (((-y6) < r69 → z_inr x2 4 ∧ (∀ I72 : zI, I72 = z_up I67 77 x2.toNatClampNeg ((I65 77 x2.toNatClampNeg) + 0) → ∃ (r75 : Int32) (I73 : zI), Cv X d 149 [.ref 57, .int 0, .int x2, .int y6, .int y10, .int y3, .int x1] G I72 (some (.int r75), G, I73) ∧ (∃ (r78 : Int32) (I76 : zI), Cv X d 163 [.ref 57, .int x2, .int r75] G I73 (some (.int r78), G, I76) ∧ (∃ (r81 : Int32) (I79 : zI), Cv X d 152 [.int (y3 + r78), .int 0, .int 999] G I76 (some (.int r81), G, I79) ∧ (z_inr ((4 * (x1 + 1)) + x2) 124 ∧ (∀ I83 : zI, I83 = z_up I79 73 ((4 * (x1 + 1)) + x2).toNatClampNeg r81 → ∀ y84 : Int32, y84 = x2 + 1 → Ev X (d + 1) 160 34 [.ref 57, .int x1, .int y84, .int y3, .int y6, .int y10] [] G I83 res)))))) ∧ (¬ (-y6) < r69 → z_inr x2 4 ∧ (∀ I86 : zI, I86 = z_up I67 77 x2.toNatClampNeg ((I65 77 x2.toNatClampNeg) + 1) → ∃ (r89 : Int32) (I87 : zI), Cv X d 149 [.ref 57, .int 0, .int x2, .int y6, .int y10, .int y3, .int x1] G I86 (some (.int r89), G, I87) ∧ (∃ (r92 : Int32) (I90 : zI), Cv X d 163 [.ref 57, .int x2, .int r89] G I87 (some (.int r92), G, I90) ∧ (∃ (r95 : Int32) (I93 : zI), Cv X d 152 [.int (y3 + r92), .int 0, .int 999] G I90 (some (.int r95), G, I93) ∧ (z_inr ((4 * (x1 + 1)) + x2) 124 ∧ (∀ I97 : zI, I97 = z_up I93 73 ((4 * (x1 + 1)) + x2).toNatClampNeg r95 → ∀ y98 : Int32, y98 = x2 + 1 → Ev X (d + 1) 160 34 [.ref 57, .int x1, .int y98, .int y3, .int y6, .int y10] [] G I97 res))))))))))))))))))))) ∧ (x1 = 0 → z_inr ((4 * (x1 + 1)) + x2) 124 ∧ (∀ I100 : zI, I100 = z_up I 73 ((4 * (x1 + 1)) + x2).toNatClampNeg y3 → ∃ (r103 : Int32) (I101 : zI), Cv X d 143 [.ref 57, .int x2] G I100 (some (.int r103), G, I101) ∧ ((r103 = 0 → ∀ y105 : Int32, y105 = x2 + 1 → Ev X (d + 1) 160 34 [.ref 57, .int x1, .int y105, .int y3, .int y6, .int y6] [] G I101 res) ∧ (¬ r103 = 0 → z_inr x2 4 ∧ (∃ (r109 : Int32) (I107 : zI), Cv X d 149 [.ref 57, .int 1, .int x2, .int y6, .int y6, .int y3, .int x1] G I101 (some (.int r109), G, I107) ∧ (z_inr x2 4 ∧ (∀ I111 : zI, I111 = z_up I107 75 x2.toNatClampNeg ((I101 75 x2.toNatClampNeg) + r109) → z_inr x2 4 ∧ (∃ (r115 : Int32) (I113 : zI), Cv X d 149 [.ref 57, .int 2, .int x2, .int y6, .int y6, .int y3, .int x1] G I111 (some (.int r115), G, I113) ∧ ((¬ r115 = 1 → z_inr x2 4 ∧ (∀ I118 : zI, I118 = z_up I113 76 x2.toNatClampNeg ((I111 76 x2.toNatClampNeg) ||| 0) → z_inr x2 4 ∧ (∃ (r122 : Int32) (I120 : zI), Cv X d 157 [.ref 57, .int x2] G I118 (some (.int r122), G, I120) ∧ (((-y6) < r122 → z_inr x2 4 ∧ (∀ I125 : zI, I125 = z_up I120 77 x2.toNatClampNeg ((I118 77 x2.toNatClampNeg) + 0) → ∃ (r128 : Int32) (I126 : zI), Cv X d 149 [.ref 57, .int 0, .int x2, .int y6, .int y6, .int y3, .int x1] G I125 (some (.int r128), G, I126) ∧ (∃ (r131 : Int32) (I129 : zI), Cv X d 163 [.ref 57, .int x2, .int r128] G I126 (some (.int r131), G, I129) ∧ (∃ (r134 : Int32) (I132 : zI), Cv X d 152 [.int (y3 + r131), .int 0, .int 999] G I129 (some (.int r134), G, I132) ∧ (z_inr ((4 * (x1 + 1)) + x2) 124 ∧ (∀ I136 : zI, I136 = z_up I132 73 ((4 * (x1 + 1)) + x2).toNatClampNeg r134 → ∀ y137 : Int32, y137 = x2 + 1 → Ev X (d + 1) 160 34 [.ref 57, .int x1, .int y137, .int y3, .int y6, .int y6] [] G I136 res)))))) ∧ (¬ (-y6) < r122 → z_inr x2 4 ∧ (∀ I139 : zI, I139 = z_up I120 77 x2.toNatClampNeg ((I118 77 x2.toNatClampNeg) + 1) → ∃ (r142 : Int32) (I140 : zI), Cv X d 149 [.ref 57, .int 0, .int x2, .int y6, .int y6, .int y3, .int x1] G I139 (some (.int r142), G, I140) ∧ (∃ (r145 : Int32) (I143 : zI), Cv X d 163 [.ref 57, .int x2, .int r142] G I140 (some (.int r145), G, I143) ∧ (∃ (r148 : Int32) (I146 : zI), Cv X d 152 [.int (y3 + r145), .int 0, .int 999] G I143 (some (.int r148), G, I146) ∧ (z_inr ((4 * (x1 + 1)) + x2) 124 ∧ (∀ I150 : zI, I150 = z_up I146 73 ((4 * (x1 + 1)) + x2).toNatClampNeg r148 → ∀ y151 : Int32, y151 = x2 + 1 → Ev X (d + 1) 160 34 [.ref 57, .int x1, .int y151, .int y3, .int y6, .int y6] [] G I150 res)))))))))) ∧ (r115 = 1 → z_inr x2 4 ∧ (∀ I153 : zI, I153 = z_up I113 76 x2.toNatClampNeg ((I111 76 x2.toNatClampNeg) ||| (1 <<< (x1 &&& 31))) → z_inr x2 4 ∧ (∃ (r157 : Int32) (I155 : zI), Cv X d 157 [.ref 57, .int x2] G I153 (some (.int r157), G, I155) ∧ (((-y6) < r157 → z_inr x2 4 ∧ (∀ I160 : zI, I160 = z_up I155 77 x2.toNatClampNeg ((I153 77 x2.toNatClampNeg) + 0) → ∃ (r163 : Int32) (I161 : zI), Cv X d 149 [.ref 57, .int 0, .int x2, .int y6, .int y6, .int y3, .int x1] G I160 (some (.int r163), G, I161) ∧ (∃ (r166 : Int32) (I164 : zI), Cv X d 163 [.ref 57, .int x2, .int r163] G I161 (some (.int r166), G, I164) ∧ (∃ (r169 : Int32) (I167 : zI), Cv X d 152 [.int (y3 + r166), .int 0, .int 999] G I164 (some (.int r169), G, I167) ∧ (z_inr ((4 * (x1 + 1)) + x2) 124 ∧ (∀ I171 : zI, I171 = z_up I167 73 ((4 * (x1 + 1)) + x2).toNatClampNeg r169 → ∀ y172 : Int32, y172 = x2 + 1 → Ev X (d + 1) 160 34 [.ref 57, .int x1, .int y172, .int y3, .int y6, .int y6] [] G I171 res)))))) ∧ (¬ (-y6) < r157 → z_inr x2 4 ∧ (∀ I174 : zI, I174 = z_up I155 77 x2.toNatClampNeg ((I153 77 x2.toNatClampNeg) + 1) → ∃ (r177 : Int32) (I175 : zI), Cv X d 149 [.ref 57, .int 0, .int x2, .int y6, .int y6, .int y3, .int x1] G I174 (some (.int r177), G, I175) ∧ (∃ (r180 : Int32) (I178 : zI), Cv X d 163 [.ref 57, .int x2, .int r177] G I175 (some (.int r180), G, I178) ∧ (∃ (r183 : Int32) (I181 : zI), Cv X d 152 [.int (y3 + r180), .int 0, .int 999] G I178 (some (.int r183), G, I181) ∧ (z_inr ((4 * (x1 + 1)) + x2) 124 ∧ (∀ I185 : zI, I185 = z_up I181 73 ((4 * (x1 + 1)) + x2).toNatClampNeg r183 → ∀ y186 : Int32, y186 = x2 + 1 → Ev X (d + 1) 160 34 [.ref 57, .int x1, .int y186, .int y3, .int y6, .int y6] [] G I185 res)))))))))))))))))))))))) :
    Ev X (d + 1) 160 34 [.ref 57, .int x1, .int x2, v3, v4, v5] [] G I res := by
  refine Ev_iload_n hq_160 (show decode prog_7_method_37_code 34 = .ok (.iload_n 2, 1) by decide +kernel) rfl ?_
  refine Ev_aload_n hq_160 (show decode prog_7_method_37_code 35 = .ok (.aload_n 0, 1) by decide +kernel) rfl ?_
  refine Ev_getI hq_160 (show decode prog_7_method_37_code 36 = .ok (.getfield 87, 3) by decide +kernel) rfl (SGn hS (by decide)) (SGk hS rfl) (by decide) rfl ?_
  refine Ev_icmp_ge (tgt := 253) hq_160 (show decode prog_7_method_37_code 39 = .ok (.if_icmp .ge 214, 3) by decide +kernel) (by decide) (fun c1 => ?_) (fun c1 => ?_)
  · have k := k.1 c1
    exact Ev_vret hq_160 (show decode prog_7_method_37_code 253 = .ok (.return_, 1) by decide +kernel) k
  · have k := k.2 c1
    refine Ev_aload_n hq_160 (show decode prog_7_method_37_code 42 = .ok (.aload_n 0, 1) by decide +kernel) rfl ?_
    refine Ev_getR hq_160 (show decode prog_7_method_37_code 43 = .ok (.getfield 55, 3) by decide +kernel) rfl (SGn hS (by decide)) (SGk hS rfl) (by decide) rfl (SGr hS rfl) ?_
    refine Ev_iconst (v := 4) hq_160 (show decode prog_7_method_37_code 46 = .ok (.iconst 4, 1) by decide +kernel) (by decide) ?_
    refine Ev_iload_n hq_160 (show decode prog_7_method_37_code 47 = .ok (.iload_n 1, 1) by decide +kernel) rfl ?_
    refine Ev_imul hq_160 (show decode prog_7_method_37_code 48 = .ok (.imul, 1) by decide +kernel) ?_
    refine Ev_iload_n hq_160 (show decode prog_7_method_37_code 49 = .ok (.iload_n 2, 1) by decide +kernel) rfl ?_
    refine Ev_iadd hq_160 (show decode prog_7_method_37_code 50 = .ok (.iadd, 1) by decide +kernel) ?_
    obtain ⟨h2, k⟩ := k
    refine Ev_iald hq_160 (show decode prog_7_method_37_code 51 = .ok (.iaload, 1) by decide +kernel) (SGn hS (by decide)) (SGk hS rfl) (SGi hS rfl h2) ?_
    obtain ⟨y3, ey3⟩ : ∃ y3 : Int32, y3 = (I 73 ((4 * x1) + x2).toNatClampNeg) := ⟨_, rfl⟩
    have k := k y3 ey3
    rw [← ey3]
    refine Ev_istore_n (lo2 := [.ref 57, .int x1, .int x2, .int y3, v4, v5]) hq_160 (show decode prog_7_method_37_code 52 = .ok (.istore_n 3, 1) by decide +kernel) (z_le rfl) rfl ?_
    refine Ev_aload_n hq_160 (show decode prog_7_method_37_code 53 = .ok (.aload_n 0, 1) by decide +kernel) rfl ?_
    refine Ev_getR hq_160 (show decode prog_7_method_37_code 54 = .ok (.getfield 16, 3) by decide +kernel) rfl (SGn hS (by decide)) (SGk hS rfl) (by decide) rfl (SGr hS rfl) ?_
    refine Ev_iconst (v := 5) hq_160 (show decode prog_7_method_37_code 57 = .ok (.iconst 5, 1) by decide +kernel) (by decide) ?_
    refine Ev_iload_n hq_160 (show decode prog_7_method_37_code 58 = .ok (.iload_n 2, 1) by decide +kernel) rfl ?_
    refine Ev_imul hq_160 (show decode prog_7_method_37_code 59 = .ok (.imul, 1) by decide +kernel) ?_
    refine Ev_iconst (v := 1) hq_160 (show decode prog_7_method_37_code 60 = .ok (.iconst 1, 1) by decide +kernel) (by decide) ?_
    refine Ev_iadd hq_160 (show decode prog_7_method_37_code 61 = .ok (.iadd, 1) by decide +kernel) ?_
    obtain ⟨h4, k⟩ := k
    refine Ev_iald hq_160 (show decode prog_7_method_37_code 62 = .ok (.iaload, 1) by decide +kernel) (SGn hS (by decide)) (SGk hS rfl) (SGi hS rfl h4) ?_
    refine Ev_aload_n hq_160 (show decode prog_7_method_37_code 63 = .ok (.aload_n 0, 1) by decide +kernel) rfl ?_
    refine Ev_getR hq_160 (show decode prog_7_method_37_code 64 = .ok (.getfield 58, 3) by decide +kernel) rfl (SGn hS (by decide)) (SGk hS rfl) (by decide) rfl (SGr hS rfl) ?_
    refine Ev_iconst (v := 4) hq_160 (show decode prog_7_method_37_code 67 = .ok (.iconst 4, 1) by decide +kernel) (by decide) ?_
    refine Ev_iload_n hq_160 (show decode prog_7_method_37_code 68 = .ok (.iload_n 1, 1) by decide +kernel) rfl ?_
    refine Ev_imul hq_160 (show decode prog_7_method_37_code 69 = .ok (.imul, 1) by decide +kernel) ?_
    refine Ev_iload_n hq_160 (show decode prog_7_method_37_code 70 = .ok (.iload_n 2, 1) by decide +kernel) rfl ?_
    refine Ev_iadd hq_160 (show decode prog_7_method_37_code 71 = .ok (.iadd, 1) by decide +kernel) ?_
    obtain ⟨h5, k⟩ := k
    refine Ev_iald hq_160 (show decode prog_7_method_37_code 72 = .ok (.iaload, 1) by decide +kernel) (SGn hS (by decide)) (SGk hS rfl) (SGi hS rfl h5) ?_
    refine Ev_isub hq_160 (show decode prog_7_method_37_code 73 = .ok (.isub, 1) by decide +kernel) ?_
    obtain ⟨y6, ey6⟩ : ∃ y6 : Int32, y6 = ((I 60 ((5 * x2) + 1).toNatClampNeg) - (I 74 ((4 * x1) + x2).toNatClampNeg)) := ⟨_, rfl⟩
    have k := k y6 ey6
    rw [← ey6]
    refine Ev_istore (lo2 := [.ref 57, .int x1, .int x2, .int y3, .int y6, v5]) hq_160 (show decode prog_7_method_37_code 74 = .ok (.istore 4, 2) by decide +kernel) (z_le rfl) rfl ?_
    refine Ev_iload_n hq_160 (show decode prog_7_method_37_code 76 = .ok (.iload_n 1, 1) by decide +kernel) rfl ?_
    refine Ev_if_ne (tgt := 85) hq_160 (show decode prog_7_method_37_code 77 = .ok (.ifCond .ne 8, 3) by decide +kernel) (by decide) (fun c7 => ?_) (fun c7 => ?_)
    · have k := k.1 c7
      refine Ev_aload_n hq_160 (show decode prog_7_method_37_code 85 = .ok (.aload_n 0, 1) by decide +kernel) rfl ?_
      refine Ev_getR hq_160 (show decode prog_7_method_37_code 86 = .ok (.getfield 16, 3) by decide +kernel) rfl (SGn hS (by decide)) (SGk hS rfl) (by decide) rfl (SGr hS rfl) ?_
      refine Ev_iconst (v := 5) hq_160 (show decode prog_7_method_37_code 89 = .ok (.iconst 5, 1) by decide +kernel) (by decide) ?_
      refine Ev_iload_n hq_160 (show decode prog_7_method_37_code 90 = .ok (.iload_n 2, 1) by decide +kernel) rfl ?_
      refine Ev_imul hq_160 (show decode prog_7_method_37_code 91 = .ok (.imul, 1) by decide +kernel) ?_
      refine Ev_iconst (v := 1) hq_160 (show decode prog_7_method_37_code 92 = .ok (.iconst 1, 1) by decide +kernel) (by decide) ?_
      refine Ev_iadd hq_160 (show decode prog_7_method_37_code 93 = .ok (.iadd, 1) by decide +kernel) ?_
      obtain ⟨h8, k⟩ := k
      refine Ev_iald hq_160 (show decode prog_7_method_37_code 94 = .ok (.iaload, 1) by decide +kernel) (SGn hS (by decide)) (SGk hS rfl) (SGi hS rfl h8) ?_
      refine Ev_aload_n hq_160 (show decode prog_7_method_37_code 95 = .ok (.aload_n 0, 1) by decide +kernel) rfl ?_
      refine Ev_getR hq_160 (show decode prog_7_method_37_code 96 = .ok (.getfield 58, 3) by decide +kernel) rfl (SGn hS (by decide)) (SGk hS rfl) (by decide) rfl (SGr hS rfl) ?_
      refine Ev_iconst (v := 4) hq_160 (show decode prog_7_method_37_code 99 = .ok (.iconst 4, 1) by decide +kernel) (by decide) ?_
      refine Ev_iload_n hq_160 (show decode prog_7_method_37_code 100 = .ok (.iload_n 1, 1) by decide +kernel) rfl ?_
      refine Ev_iconst (v := 1) hq_160 (show decode prog_7_method_37_code 101 = .ok (.iconst 1, 1) by decide +kernel) (by decide) ?_
      refine Ev_isub hq_160 (show decode prog_7_method_37_code 102 = .ok (.isub, 1) by decide +kernel) ?_
      refine Ev_imul hq_160 (show decode prog_7_method_37_code 103 = .ok (.imul, 1) by decide +kernel) ?_
      refine Ev_iload_n hq_160 (show decode prog_7_method_37_code 104 = .ok (.iload_n 2, 1) by decide +kernel) rfl ?_
      refine Ev_iadd hq_160 (show decode prog_7_method_37_code 105 = .ok (.iadd, 1) by decide +kernel) ?_
      obtain ⟨h9, k⟩ := k
      refine Ev_iald hq_160 (show decode prog_7_method_37_code 106 = .ok (.iaload, 1) by decide +kernel) (SGn hS (by decide)) (SGk hS rfl) (SGi hS rfl h9) ?_
      refine Ev_isub hq_160 (show decode prog_7_method_37_code 107 = .ok (.isub, 1) by decide +kernel) ?_
      obtain ⟨y10, ey10⟩ : ∃ y10 : Int32, y10 = ((I 60 ((5 * x2) + 1).toNatClampNeg) - (I 74 ((4 * (x1 - 1)) + x2).toNatClampNeg)) := ⟨_, rfl⟩
      have k := k y10 ey10
      rw [← ey10]
      refine Ev_istore (lo2 := [.ref 57, .int x1, .int x2, .int y3, .int y6, .int y10]) hq_160 (show decode prog_7_method_37_code 108 = .ok (.istore 5, 2) by decide +kernel) (z_le rfl) rfl ?_
      refine Ev_aload_n hq_160 (show decode prog_7_method_37_code 110 = .ok (.aload_n 0, 1) by decide +kernel) rfl ?_
      refine Ev_getR hq_160 (show decode prog_7_method_37_code 111 = .ok (.getfield 55, 3) by decide +kernel) rfl (SGn hS (by decide)) (SGk hS rfl) (by decide) rfl (SGr hS rfl) ?_
      refine Ev_iconst (v := 4) hq_160 (show decode prog_7_method_37_code 114 = .ok (.iconst 4, 1) by decide +kernel) (by decide) ?_
      refine Ev_iload_n hq_160 (show decode prog_7_method_37_code 115 = .ok (.iload_n 1, 1) by decide +kernel) rfl ?_
      refine Ev_iconst (v := 1) hq_160 (show decode prog_7_method_37_code 116 = .ok (.iconst 1, 1) by decide +kernel) (by decide) ?_
      refine Ev_iadd hq_160 (show decode prog_7_method_37_code 117 = .ok (.iadd, 1) by decide +kernel) ?_
      refine Ev_imul hq_160 (show decode prog_7_method_37_code 118 = .ok (.imul, 1) by decide +kernel) ?_
      refine Ev_iload_n hq_160 (show decode prog_7_method_37_code 119 = .ok (.iload_n 2, 1) by decide +kernel) rfl ?_
      refine Ev_iadd hq_160 (show decode prog_7_method_37_code 120 = .ok (.iadd, 1) by decide +kernel) ?_
      refine Ev_iload_n hq_160 (show decode prog_7_method_37_code 121 = .ok (.iload_n 3, 1) by decide +kernel) rfl ?_
      obtain ⟨h11, k⟩ := k
      refine Ev_iast hq_160 (show decode prog_7_method_37_code 122 = .ok (.iastore, 1) by decide +kernel) (SGn hS (by decide)) (SGk hS rfl) (SGi hS rfl h11) ?_
      obtain ⟨I12, eI12⟩ : ∃ I12 : zI, I12 = z_up I 73 ((4 * (x1 + 1)) + x2).toNatClampNeg y3 := ⟨_, rfl⟩
      have k := k I12 eI12
      rw [← eI12]
      refine Ev_aload_n hq_160 (show decode prog_7_method_37_code 123 = .ok (.aload_n 0, 1) by decide +kernel) rfl ?_
      refine Ev_iload_n hq_160 (show decode prog_7_method_37_code 124 = .ok (.iload_n 2, 1) by decide +kernel) rfl ?_
      obtain ⟨r15, I13, h14, k⟩ := k
      refine Ev_virt (as := [.int x2]) hq_160 (show decode prog_7_method_37_code 125 = .ok (.invokevirtual 94, 3) by decide +kernel) rfl hq_143 rfl (z_le rfl) ⟨(SGn hS (by decide)), (SGk hS rfl), by decide⟩ h14 ?_
      refine Ev_if_eq (tgt := 247) hq_160 (show decode prog_7_method_37_code 128 = .ok (.ifCond .eq 119, 3) by decide +kernel) (by decide) (fun c16 => ?_) (fun c16 => ?_)
      · have k := k.1 c16
        obtain ⟨y17, ey17⟩ : ∃ y17 : Int32, y17 = x2 + 1 := ⟨_, rfl⟩
        have k := k y17 ey17
        refine Ev_iinc (v := y17) (lo2 := [.ref 57, .int x1, .int y17, .int y3, .int y6, .int y10]) hq_160 (show decode prog_7_method_37_code 247 = .ok (.iinc 2 1, 3) by decide +kernel) rfl (by rw [ey17]; rfl) rfl ?_
        refine Ev_goto (tgt := 34) hq_160 (show decode prog_7_method_37_code 250 = .ok (.goto (-216), 3) by decide +kernel) (by decide) ?_
        exact k
      · have k := k.2 c16
        refine Ev_aload_n hq_160 (show decode prog_7_method_37_code 131 = .ok (.aload_n 0, 1) by decide +kernel) rfl ?_
        refine Ev_getR hq_160 (show decode prog_7_method_37_code 132 = .ok (.getfield 61, 3) by decide +kernel) rfl (SGn hS (by decide)) (SGk hS rfl) (by decide) rfl (SGr hS rfl) ?_
        refine Ev_iload_n hq_160 (show decode prog_7_method_37_code 135 = .ok (.iload_n 2, 1) by decide +kernel) rfl ?_
        refine Ev_dup2 hq_160 (show decode prog_7_method_37_code 136 = .ok (.dup2, 1) by decide +kernel) ⟨rfl, rfl⟩ ?_
        obtain ⟨h18, k⟩ := k
        refine Ev_iald hq_160 (show decode prog_7_method_37_code 137 = .ok (.iaload, 1) by decide +kernel) (SGn hS (by decide)) (SGk hS rfl) (SGi hS rfl h18) ?_
        refine Ev_aload_n hq_160 (show decode prog_7_method_37_code 138 = .ok (.aload_n 0, 1) by decide +kernel) rfl ?_
        refine Ev_iconst (v := 1) hq_160 (show decode prog_7_method_37_code 139 = .ok (.iconst 1, 1) by decide +kernel) (by decide) ?_
        refine Ev_iload_n hq_160 (show decode prog_7_method_37_code 140 = .ok (.iload_n 2, 1) by decide +kernel) rfl ?_
        refine Ev_iload hq_160 (show decode prog_7_method_37_code 141 = .ok (.iload 4, 2) by decide +kernel) rfl ?_
        refine Ev_iload hq_160 (show decode prog_7_method_37_code 143 = .ok (.iload 5, 2) by decide +kernel) rfl ?_
        refine Ev_iload_n hq_160 (show decode prog_7_method_37_code 145 = .ok (.iload_n 3, 1) by decide +kernel) rfl ?_
        refine Ev_iload_n hq_160 (show decode prog_7_method_37_code 146 = .ok (.iload_n 1, 1) by decide +kernel) rfl ?_
        obtain ⟨r21, I19, h20, k⟩ := k
        refine Ev_virt (as := [.int 1, .int x2, .int y6, .int y10, .int y3, .int x1]) hq_160 (show decode prog_7_method_37_code 147 = .ok (.invokevirtual 180, 3) by decide +kernel) rfl hq_149 rfl (z_le rfl) ⟨(SGn hS (by decide)), (SGk hS rfl), by decide⟩ h20 ?_
        refine Ev_iadd hq_160 (show decode prog_7_method_37_code 150 = .ok (.iadd, 1) by decide +kernel) ?_
        obtain ⟨h22, k⟩ := k
        refine Ev_iast hq_160 (show decode prog_7_method_37_code 151 = .ok (.iastore, 1) by decide +kernel) (SGn hS (by decide)) (SGk hS rfl) (SGi hS rfl h22) ?_
        obtain ⟨I23, eI23⟩ : ∃ I23 : zI, I23 = z_up I19 75 x2.toNatClampNeg ((I13 75 x2.toNatClampNeg) + r21) := ⟨_, rfl⟩
        have k := k I23 eI23
        rw [← eI23]
        refine Ev_aload_n hq_160 (show decode prog_7_method_37_code 152 = .ok (.aload_n 0, 1) by decide +kernel) rfl ?_
        refine Ev_getR hq_160 (show decode prog_7_method_37_code 153 = .ok (.getfield 64, 3) by decide +kernel) rfl (SGn hS (by decide)) (SGk hS rfl) (by decide) rfl (SGr hS rfl) ?_
        refine Ev_iload_n hq_160 (show decode prog_7_method_37_code 156 = .ok (.iload_n 2, 1) by decide +kernel) rfl ?_
        refine Ev_dup2 hq_160 (show decode prog_7_method_37_code 157 = .ok (.dup2, 1) by decide +kernel) ⟨rfl, rfl⟩ ?_
        obtain ⟨h24, k⟩ := k
        refine Ev_iald hq_160 (show decode prog_7_method_37_code 158 = .ok (.iaload, 1) by decide +kernel) (SGn hS (by decide)) (SGk hS rfl) (SGi hS rfl h24) ?_
        refine Ev_aload_n hq_160 (show decode prog_7_method_37_code 159 = .ok (.aload_n 0, 1) by decide +kernel) rfl ?_
        refine Ev_iconst (v := 2) hq_160 (show decode prog_7_method_37_code 160 = .ok (.iconst 2, 1) by decide +kernel) (by decide) ?_
        refine Ev_iload_n hq_160 (show decode prog_7_method_37_code 161 = .ok (.iload_n 2, 1) by decide +kernel) rfl ?_
        refine Ev_iload hq_160 (show decode prog_7_method_37_code 162 = .ok (.iload 4, 2) by decide +kernel) rfl ?_
        refine Ev_iload hq_160 (show decode prog_7_method_37_code 164 = .ok (.iload 5, 2) by decide +kernel) rfl ?_
        refine Ev_iload_n hq_160 (show decode prog_7_method_37_code 166 = .ok (.iload_n 3, 1) by decide +kernel) rfl ?_
        refine Ev_iload_n hq_160 (show decode prog_7_method_37_code 167 = .ok (.iload_n 1, 1) by decide +kernel) rfl ?_
        obtain ⟨r27, I25, h26, k⟩ := k
        refine Ev_virt (as := [.int 2, .int x2, .int y6, .int y10, .int y3, .int x1]) hq_160 (show decode prog_7_method_37_code 168 = .ok (.invokevirtual 180, 3) by decide +kernel) rfl hq_149 rfl (z_le rfl) ⟨(SGn hS (by decide)), (SGk hS rfl), by decide⟩ h26 ?_
        refine Ev_iconst (v := 1) hq_160 (show decode prog_7_method_37_code 171 = .ok (.iconst 1, 1) by decide +kernel) (by decide) ?_
        refine Ev_icmp_ne (tgt := 181) hq_160 (show decode prog_7_method_37_code 172 = .ok (.if_icmp .ne 9, 3) by decide +kernel) (by decide) (fun c28 => ?_) (fun c28 => ?_)
        · have k := k.1 c28
          refine Ev_iconst (v := 0) hq_160 (show decode prog_7_method_37_code 181 = .ok (.iconst 0, 1) by decide +kernel) (by decide) ?_
          refine Ev_ior hq_160 (show decode prog_7_method_37_code 182 = .ok (.ior, 1) by decide +kernel) ?_
          obtain ⟨h29, k⟩ := k
          refine Ev_iast hq_160 (show decode prog_7_method_37_code 183 = .ok (.iastore, 1) by decide +kernel) (SGn hS (by decide)) (SGk hS rfl) (SGi hS rfl h29) ?_
          obtain ⟨I30, eI30⟩ : ∃ I30 : zI, I30 = z_up I25 76 x2.toNatClampNeg ((I23 76 x2.toNatClampNeg) ||| 0) := ⟨_, rfl⟩
          have k := k I30 eI30
          rw [← eI30]
          refine Ev_aload_n hq_160 (show decode prog_7_method_37_code 184 = .ok (.aload_n 0, 1) by decide +kernel) rfl ?_
          refine Ev_getR hq_160 (show decode prog_7_method_37_code 185 = .ok (.getfield 67, 3) by decide +kernel) rfl (SGn hS (by decide)) (SGk hS rfl) (by decide) rfl (SGr hS rfl) ?_
          refine Ev_iload_n hq_160 (show decode prog_7_method_37_code 188 = .ok (.iload_n 2, 1) by decide +kernel) rfl ?_
          refine Ev_dup2 hq_160 (show decode prog_7_method_37_code 189 = .ok (.dup2, 1) by decide +kernel) ⟨rfl, rfl⟩ ?_
          obtain ⟨h31, k⟩ := k
          refine Ev_iald hq_160 (show decode prog_7_method_37_code 190 = .ok (.iaload, 1) by decide +kernel) (SGn hS (by decide)) (SGk hS rfl) (SGi hS rfl h31) ?_
          refine Ev_iload hq_160 (show decode prog_7_method_37_code 191 = .ok (.iload 4, 2) by decide +kernel) rfl ?_
          refine Ev_ineg hq_160 (show decode prog_7_method_37_code 193 = .ok (.ineg, 1) by decide +kernel) ?_
          refine Ev_aload_n hq_160 (show decode prog_7_method_37_code 194 = .ok (.aload_n 0, 1) by decide +kernel) rfl ?_
          refine Ev_iload_n hq_160 (show decode prog_7_method_37_code 195 = .ok (.iload_n 2, 1) by decide +kernel) rfl ?_
          obtain ⟨r34, I32, h33, k⟩ := k
          refine Ev_virt (as := [.int x2]) hq_160 (show decode prog_7_method_37_code 196 = .ok (.invokevirtual 187, 3) by decide +kernel) rfl hq_157 rfl (z_le rfl) ⟨(SGn hS (by decide)), (SGk hS rfl), by decide⟩ h33 ?_
          refine Ev_icmp_lt (tgt := 206) hq_160 (show decode prog_7_method_37_code 199 = .ok (.if_icmp .lt 7, 3) by decide +kernel) (by decide) (fun c35 => ?_) (fun c35 => ?_)
          · have k := k.1 c35
            refine Ev_iconst (v := 0) hq_160 (show decode prog_7_method_37_code 206 = .ok (.iconst 0, 1) by decide +kernel) (by decide) ?_
            refine Ev_iadd hq_160 (show decode prog_7_method_37_code 207 = .ok (.iadd, 1) by decide +kernel) ?_
            obtain ⟨h36, k⟩ := k
            refine Ev_iast hq_160 (show decode prog_7_method_37_code 208 = .ok (.iastore, 1) by decide +kernel) (SGn hS (by decide)) (SGk hS rfl) (SGi hS rfl h36) ?_
            obtain ⟨I37, eI37⟩ : ∃ I37 : zI, I37 = z_up I32 77 x2.toNatClampNeg ((I30 77 x2.toNatClampNeg) + 0) := ⟨_, rfl⟩
            have k := k I37 eI37
            rw [← eI37]
            refine Ev_aload_n hq_160 (show decode prog_7_method_37_code 209 = .ok (.aload_n 0, 1) by decide +kernel) rfl ?_
            refine Ev_getR hq_160 (show decode prog_7_method_37_code 210 = .ok (.getfield 55, 3) by decide +kernel) rfl (SGn hS (by decide)) (SGk hS rfl) (by decide) rfl (SGr hS rfl) ?_
            refine Ev_iconst (v := 4) hq_160 (show decode prog_7_method_37_code 213 = .ok (.iconst 4, 1) by decide +kernel) (by decide) ?_
            refine Ev_iload_n hq_160 (show decode prog_7_method_37_code 214 = .ok (.iload_n 1, 1) by decide +kernel) rfl ?_
            refine Ev_iconst (v := 1) hq_160 (show decode prog_7_method_37_code 215 = .ok (.iconst 1, 1) by decide +kernel) (by decide) ?_
            refine Ev_iadd hq_160 (show decode prog_7_method_37_code 216 = .ok (.iadd, 1) by decide +kernel) ?_
            refine Ev_imul hq_160 (show decode prog_7_method_37_code 217 = .ok (.imul, 1) by decide +kernel) ?_
            refine Ev_iload_n hq_160 (show decode prog_7_method_37_code 218 = .ok (.iload_n 2, 1) by decide +kernel) rfl ?_
            refine Ev_iadd hq_160 (show decode prog_7_method_37_code 219 = .ok (.iadd, 1) by decide +kernel) ?_
            refine Ev_iload_n hq_160 (show decode prog_7_method_37_code 220 = .ok (.iload_n 3, 1) by decide +kernel) rfl ?_
            refine Ev_aload_n hq_160 (show decode prog_7_method_37_code 221 = .ok (.aload_n 0, 1) by decide +kernel) rfl ?_
            refine Ev_iload_n hq_160 (show decode prog_7_method_37_code 222 = .ok (.iload_n 2, 1) by decide +kernel) rfl ?_
            refine Ev_aload_n hq_160 (show decode prog_7_method_37_code 223 = .ok (.aload_n 0, 1) by decide +kernel) rfl ?_
            refine Ev_iconst (v := 0) hq_160 (show decode prog_7_method_37_code 224 = .ok (.iconst 0, 1) by decide +kernel) (by decide) ?_
            refine Ev_iload_n hq_160 (show decode prog_7_method_37_code 225 = .ok (.iload_n 2, 1) by decide +kernel) rfl ?_
            refine Ev_iload hq_160 (show decode prog_7_method_37_code 226 = .ok (.iload 4, 2) by decide +kernel) rfl ?_
            refine Ev_iload hq_160 (show decode prog_7_method_37_code 228 = .ok (.iload 5, 2) by decide +kernel) rfl ?_
            refine Ev_iload_n hq_160 (show decode prog_7_method_37_code 230 = .ok (.iload_n 3, 1) by decide +kernel) rfl ?_
            refine Ev_iload_n hq_160 (show decode prog_7_method_37_code 231 = .ok (.iload_n 1, 1) by decide +kernel) rfl ?_
            obtain ⟨r40, I38, h39, k⟩ := k
            refine Ev_virt (as := [.int 0, .int x2, .int y6, .int y10, .int y3, .int x1]) hq_160 (show decode prog_7_method_37_code 232 = .ok (.invokevirtual 180, 3) by decide +kernel) rfl hq_149 rfl (z_le rfl) ⟨(SGn hS (by decide)), (SGk hS rfl), by decide⟩ h39 ?_
            obtain ⟨r43, I41, h42, k⟩ := k
            refine Ev_virt (as := [.int x2, .int r40]) hq_160 (show decode prog_7_method_37_code 235 = .ok (.invokevirtual 199, 3) by decide +kernel) rfl hq_163 rfl (z_le rfl) ⟨(SGn hS (by decide)), (SGk hS rfl), by decide⟩ h42 ?_
            refine Ev_iadd hq_160 (show decode prog_7_method_37_code 238 = .ok (.iadd, 1) by decide +kernel) ?_
            refine Ev_iconst (v := 0) hq_160 (show decode prog_7_method_37_code 239 = .ok (.iconst 0, 1) by decide +kernel) (by decide) ?_
            refine Ev_sipush (v := 999) hq_160 (show decode prog_7_method_37_code 240 = .ok (.sipush 999, 3) by decide +kernel) (by decide) ?_
            obtain ⟨r46, I44, h45, k⟩ := k
            refine Ev_stat (as := [.int (y3 + r43), .int 0, .int 999]) hq_160 (show decode prog_7_method_37_code 243 = .ok (.invokestatic 173, 3) by decide +kernel) rfl (Or.inl rfl) hq_152 rfl (z_le rfl) h45 ?_
            obtain ⟨h47, k⟩ := k
            refine Ev_iast hq_160 (show decode prog_7_method_37_code 246 = .ok (.iastore, 1) by decide +kernel) (SGn hS (by decide)) (SGk hS rfl) (SGi hS rfl h47) ?_
            obtain ⟨I48, eI48⟩ : ∃ I48 : zI, I48 = z_up I44 73 ((4 * (x1 + 1)) + x2).toNatClampNeg r46 := ⟨_, rfl⟩
            have k := k I48 eI48
            rw [← eI48]
            obtain ⟨y49, ey49⟩ : ∃ y49 : Int32, y49 = x2 + 1 := ⟨_, rfl⟩
            have k := k y49 ey49
            refine Ev_iinc (v := y49) (lo2 := [.ref 57, .int x1, .int y49, .int y3, .int y6, .int y10]) hq_160 (show decode prog_7_method_37_code 247 = .ok (.iinc 2 1, 3) by decide +kernel) rfl (by rw [ey49]; rfl) rfl ?_
            refine Ev_goto (tgt := 34) hq_160 (show decode prog_7_method_37_code 250 = .ok (.goto (-216), 3) by decide +kernel) (by decide) ?_
            exact k
          · have k := k.2 c35
            refine Ev_iconst (v := 1) hq_160 (show decode prog_7_method_37_code 202 = .ok (.iconst 1, 1) by decide +kernel) (by decide) ?_
            refine Ev_goto (tgt := 207) hq_160 (show decode prog_7_method_37_code 203 = .ok (.goto 4, 3) by decide +kernel) (by decide) ?_
            refine Ev_iadd hq_160 (show decode prog_7_method_37_code 207 = .ok (.iadd, 1) by decide +kernel) ?_
            obtain ⟨h50, k⟩ := k
            refine Ev_iast hq_160 (show decode prog_7_method_37_code 208 = .ok (.iastore, 1) by decide +kernel) (SGn hS (by decide)) (SGk hS rfl) (SGi hS rfl h50) ?_
            obtain ⟨I51, eI51⟩ : ∃ I51 : zI, I51 = z_up I32 77 x2.toNatClampNeg ((I30 77 x2.toNatClampNeg) + 1) := ⟨_, rfl⟩
            have k := k I51 eI51
            rw [← eI51]
            refine Ev_aload_n hq_160 (show decode prog_7_method_37_code 209 = .ok (.aload_n 0, 1) by decide +kernel) rfl ?_
            refine Ev_getR hq_160 (show decode prog_7_method_37_code 210 = .ok (.getfield 55, 3) by decide +kernel) rfl (SGn hS (by decide)) (SGk hS rfl) (by decide) rfl (SGr hS rfl) ?_
            refine Ev_iconst (v := 4) hq_160 (show decode prog_7_method_37_code 213 = .ok (.iconst 4, 1) by decide +kernel) (by decide) ?_
            refine Ev_iload_n hq_160 (show decode prog_7_method_37_code 214 = .ok (.iload_n 1, 1) by decide +kernel) rfl ?_
            refine Ev_iconst (v := 1) hq_160 (show decode prog_7_method_37_code 215 = .ok (.iconst 1, 1) by decide +kernel) (by decide) ?_
            refine Ev_iadd hq_160 (show decode prog_7_method_37_code 216 = .ok (.iadd, 1) by decide +kernel) ?_
            refine Ev_imul hq_160 (show decode prog_7_method_37_code 217 = .ok (.imul, 1) by decide +kernel) ?_
            refine Ev_iload_n hq_160 (show decode prog_7_method_37_code 218 = .ok (.iload_n 2, 1) by decide +kernel) rfl ?_
            refine Ev_iadd hq_160 (show decode prog_7_method_37_code 219 = .ok (.iadd, 1) by decide +kernel) ?_
            refine Ev_iload_n hq_160 (show decode prog_7_method_37_code 220 = .ok (.iload_n 3, 1) by decide +kernel) rfl ?_
            refine Ev_aload_n hq_160 (show decode prog_7_method_37_code 221 = .ok (.aload_n 0, 1) by decide +kernel) rfl ?_
            refine Ev_iload_n hq_160 (show decode prog_7_method_37_code 222 = .ok (.iload_n 2, 1) by decide +kernel) rfl ?_
            refine Ev_aload_n hq_160 (show decode prog_7_method_37_code 223 = .ok (.aload_n 0, 1) by decide +kernel) rfl ?_
            refine Ev_iconst (v := 0) hq_160 (show decode prog_7_method_37_code 224 = .ok (.iconst 0, 1) by decide +kernel) (by decide) ?_
            refine Ev_iload_n hq_160 (show decode prog_7_method_37_code 225 = .ok (.iload_n 2, 1) by decide +kernel) rfl ?_
            refine Ev_iload hq_160 (show decode prog_7_method_37_code 226 = .ok (.iload 4, 2) by decide +kernel) rfl ?_
            refine Ev_iload hq_160 (show decode prog_7_method_37_code 228 = .ok (.iload 5, 2) by decide +kernel) rfl ?_
            refine Ev_iload_n hq_160 (show decode prog_7_method_37_code 230 = .ok (.iload_n 3, 1) by decide +kernel) rfl ?_
            refine Ev_iload_n hq_160 (show decode prog_7_method_37_code 231 = .ok (.iload_n 1, 1) by decide +kernel) rfl ?_
            obtain ⟨r54, I52, h53, k⟩ := k
            refine Ev_virt (as := [.int 0, .int x2, .int y6, .int y10, .int y3, .int x1]) hq_160 (show decode prog_7_method_37_code 232 = .ok (.invokevirtual 180, 3) by decide +kernel) rfl hq_149 rfl (z_le rfl) ⟨(SGn hS (by decide)), (SGk hS rfl), by decide⟩ h53 ?_
            obtain ⟨r57, I55, h56, k⟩ := k
            refine Ev_virt (as := [.int x2, .int r54]) hq_160 (show decode prog_7_method_37_code 235 = .ok (.invokevirtual 199, 3) by decide +kernel) rfl hq_163 rfl (z_le rfl) ⟨(SGn hS (by decide)), (SGk hS rfl), by decide⟩ h56 ?_
            refine Ev_iadd hq_160 (show decode prog_7_method_37_code 238 = .ok (.iadd, 1) by decide +kernel) ?_
            refine Ev_iconst (v := 0) hq_160 (show decode prog_7_method_37_code 239 = .ok (.iconst 0, 1) by decide +kernel) (by decide) ?_
            refine Ev_sipush (v := 999) hq_160 (show decode prog_7_method_37_code 240 = .ok (.sipush 999, 3) by decide +kernel) (by decide) ?_
            obtain ⟨r60, I58, h59, k⟩ := k
            refine Ev_stat (as := [.int (y3 + r57), .int 0, .int 999]) hq_160 (show decode prog_7_method_37_code 243 = .ok (.invokestatic 173, 3) by decide +kernel) rfl (Or.inl rfl) hq_152 rfl (z_le rfl) h59 ?_
            obtain ⟨h61, k⟩ := k
            refine Ev_iast hq_160 (show decode prog_7_method_37_code 246 = .ok (.iastore, 1) by decide +kernel) (SGn hS (by decide)) (SGk hS rfl) (SGi hS rfl h61) ?_
            obtain ⟨I62, eI62⟩ : ∃ I62 : zI, I62 = z_up I58 73 ((4 * (x1 + 1)) + x2).toNatClampNeg r60 := ⟨_, rfl⟩
            have k := k I62 eI62
            rw [← eI62]
            obtain ⟨y63, ey63⟩ : ∃ y63 : Int32, y63 = x2 + 1 := ⟨_, rfl⟩
            have k := k y63 ey63
            refine Ev_iinc (v := y63) (lo2 := [.ref 57, .int x1, .int y63, .int y3, .int y6, .int y10]) hq_160 (show decode prog_7_method_37_code 247 = .ok (.iinc 2 1, 3) by decide +kernel) rfl (by rw [ey63]; rfl) rfl ?_
            refine Ev_goto (tgt := 34) hq_160 (show decode prog_7_method_37_code 250 = .ok (.goto (-216), 3) by decide +kernel) (by decide) ?_
            exact k
        · have k := k.2 (Classical.not_not.mp c28)
          refine Ev_iconst (v := 1) hq_160 (show decode prog_7_method_37_code 175 = .ok (.iconst 1, 1) by decide +kernel) (by decide) ?_
          refine Ev_iload_n hq_160 (show decode prog_7_method_37_code 176 = .ok (.iload_n 1, 1) by decide +kernel) rfl ?_
          refine Ev_ishl hq_160 (show decode prog_7_method_37_code 177 = .ok (.ishl, 1) by decide +kernel) ?_
          refine Ev_goto (tgt := 182) hq_160 (show decode prog_7_method_37_code 178 = .ok (.goto 4, 3) by decide +kernel) (by decide) ?_
          refine Ev_ior hq_160 (show decode prog_7_method_37_code 182 = .ok (.ior, 1) by decide +kernel) ?_
          obtain ⟨h64, k⟩ := k
          refine Ev_iast hq_160 (show decode prog_7_method_37_code 183 = .ok (.iastore, 1) by decide +kernel) (SGn hS (by decide)) (SGk hS rfl) (SGi hS rfl h64) ?_
          obtain ⟨I65, eI65⟩ : ∃ I65 : zI, I65 = z_up I25 76 x2.toNatClampNeg ((I23 76 x2.toNatClampNeg) ||| (1 <<< (x1 &&& 31))) := ⟨_, rfl⟩
          have k := k I65 eI65
          rw [← eI65]
          refine Ev_aload_n hq_160 (show decode prog_7_method_37_code 184 = .ok (.aload_n 0, 1) by decide +kernel) rfl ?_
          refine Ev_getR hq_160 (show decode prog_7_method_37_code 185 = .ok (.getfield 67, 3) by decide +kernel) rfl (SGn hS (by decide)) (SGk hS rfl) (by decide) rfl (SGr hS rfl) ?_
          refine Ev_iload_n hq_160 (show decode prog_7_method_37_code 188 = .ok (.iload_n 2, 1) by decide +kernel) rfl ?_
          refine Ev_dup2 hq_160 (show decode prog_7_method_37_code 189 = .ok (.dup2, 1) by decide +kernel) ⟨rfl, rfl⟩ ?_
          obtain ⟨h66, k⟩ := k
          refine Ev_iald hq_160 (show decode prog_7_method_37_code 190 = .ok (.iaload, 1) by decide +kernel) (SGn hS (by decide)) (SGk hS rfl) (SGi hS rfl h66) ?_
          refine Ev_iload hq_160 (show decode prog_7_method_37_code 191 = .ok (.iload 4, 2) by decide +kernel) rfl ?_
          refine Ev_ineg hq_160 (show decode prog_7_method_37_code 193 = .ok (.ineg, 1) by decide +kernel) ?_
          refine Ev_aload_n hq_160 (show decode prog_7_method_37_code 194 = .ok (.aload_n 0, 1) by decide +kernel) rfl ?_
          refine Ev_iload_n hq_160 (show decode prog_7_method_37_code 195 = .ok (.iload_n 2, 1) by decide +kernel) rfl ?_
          obtain ⟨r69, I67, h68, k⟩ := k
          refine Ev_virt (as := [.int x2]) hq_160 (show decode prog_7_method_37_code 196 = .ok (.invokevirtual 187, 3) by decide +kernel) rfl hq_157 rfl (z_le rfl) ⟨(SGn hS (by decide)), (SGk hS rfl), by decide⟩ h68 ?_
          refine Ev_icmp_lt (tgt := 206) hq_160 (show decode prog_7_method_37_code 199 = .ok (.if_icmp .lt 7, 3) by decide +kernel) (by decide) (fun c70 => ?_) (fun c70 => ?_)
          · have k := k.1 c70
            refine Ev_iconst (v := 0) hq_160 (show decode prog_7_method_37_code 206 = .ok (.iconst 0, 1) by decide +kernel) (by decide) ?_
            refine Ev_iadd hq_160 (show decode prog_7_method_37_code 207 = .ok (.iadd, 1) by decide +kernel) ?_
            obtain ⟨h71, k⟩ := k
            refine Ev_iast hq_160 (show decode prog_7_method_37_code 208 = .ok (.iastore, 1) by decide +kernel) (SGn hS (by decide)) (SGk hS rfl) (SGi hS rfl h71) ?_
            obtain ⟨I72, eI72⟩ : ∃ I72 : zI, I72 = z_up I67 77 x2.toNatClampNeg ((I65 77 x2.toNatClampNeg) + 0) := ⟨_, rfl⟩
            have k := k I72 eI72
            rw [← eI72]
            refine Ev_aload_n hq_160 (show decode prog_7_method_37_code 209 = .ok (.aload_n 0, 1) by decide +kernel) rfl ?_
            refine Ev_getR hq_160 (show decode prog_7_method_37_code 210 = .ok (.getfield 55, 3) by decide +kernel) rfl (SGn hS (by decide)) (SGk hS rfl) (by decide) rfl (SGr hS rfl) ?_
            refine Ev_iconst (v := 4) hq_160 (show decode prog_7_method_37_code 213 = .ok (.iconst 4, 1) by decide +kernel) (by decide) ?_
            refine Ev_iload_n hq_160 (show decode prog_7_method_37_code 214 = .ok (.iload_n 1, 1) by decide +kernel) rfl ?_
            refine Ev_iconst (v := 1) hq_160 (show decode prog_7_method_37_code 215 = .ok (.iconst 1, 1) by decide +kernel) (by decide) ?_
            refine Ev_iadd hq_160 (show decode prog_7_method_37_code 216 = .ok (.iadd, 1) by decide +kernel) ?_
            refine Ev_imul hq_160 (show decode prog_7_method_37_code 217 = .ok (.imul, 1) by decide +kernel) ?_
            refine Ev_iload_n hq_160 (show decode prog_7_method_37_code 218 = .ok (.iload_n 2, 1) by decide +kernel) rfl ?_
            refine Ev_iadd hq_160 (show decode prog_7_method_37_code 219 = .ok (.iadd, 1) by decide +kernel) ?_
            refine Ev_iload_n hq_160 (show decode prog_7_method_37_code 220 = .ok (.iload_n 3, 1) by decide +kernel) rfl ?_
            refine Ev_aload_n hq_160 (show decode prog_7_method_37_code 221 = .ok (.aload_n 0, 1) by decide +kernel) rfl ?_
            refine Ev_iload_n hq_160 (show decode prog_7_method_37_code 222 = .ok (.iload_n 2, 1) by decide +kernel) rfl ?_
            refine Ev_aload_n hq_160 (show decode prog_7_method_37_code 223 = .ok (.aload_n 0, 1) by decide +kernel) rfl ?_
            refine Ev_iconst (v := 0) hq_160 (show decode prog_7_method_37_code 224 = .ok (.iconst 0, 1) by decide +kernel) (by decide) ?_
            refine Ev_iload_n hq_160 (show decode prog_7_method_37_code 225 = .ok (.iload_n 2, 1) by decide +kernel) rfl ?_
            refine Ev_iload hq_160 (show decode prog_7_method_37_code 226 = .ok (.iload 4, 2) by decide +kernel) rfl ?_
            refine Ev_iload hq_160 (show decode prog_7_method_37_code 228 = .ok (.iload 5, 2) by decide +kernel) rfl ?_
            refine Ev_iload_n hq_160 (show decode prog_7_method_37_code 230 = .ok (.iload_n 3, 1) by decide +kernel) rfl ?_
            refine Ev_iload_n hq_160 (show decode prog_7_method_37_code 231 = .ok (.iload_n 1, 1) by decide +kernel) rfl ?_
            obtain ⟨r75, I73, h74, k⟩ := k
            refine Ev_virt (as := [.int 0, .int x2, .int y6, .int y10, .int y3, .int x1]) hq_160 (show decode prog_7_method_37_code 232 = .ok (.invokevirtual 180, 3) by decide +kernel) rfl hq_149 rfl (z_le rfl) ⟨(SGn hS (by decide)), (SGk hS rfl), by decide⟩ h74 ?_
            obtain ⟨r78, I76, h77, k⟩ := k
            refine Ev_virt (as := [.int x2, .int r75]) hq_160 (show decode prog_7_method_37_code 235 = .ok (.invokevirtual 199, 3) by decide +kernel) rfl hq_163 rfl (z_le rfl) ⟨(SGn hS (by decide)), (SGk hS rfl), by decide⟩ h77 ?_
            refine Ev_iadd hq_160 (show decode prog_7_method_37_code 238 = .ok (.iadd, 1) by decide +kernel) ?_
            refine Ev_iconst (v := 0) hq_160 (show decode prog_7_method_37_code 239 = .ok (.iconst 0, 1) by decide +kernel) (by decide) ?_
            refine Ev_sipush (v := 999) hq_160 (show decode prog_7_method_37_code 240 = .ok (.sipush 999, 3) by decide +kernel) (by decide) ?_
            obtain ⟨r81, I79, h80, k⟩ := k
            refine Ev_stat (as := [.int (y3 + r78), .int 0, .int 999]) hq_160 (show decode prog_7_method_37_code 243 = .ok (.invokestatic 173, 3) by decide +kernel) rfl (Or.inl rfl) hq_152 rfl (z_le rfl) h80 ?_
            obtain ⟨h82, k⟩ := k
            refine Ev_iast hq_160 (show decode prog_7_method_37_code 246 = .ok (.iastore, 1) by decide +kernel) (SGn hS (by decide)) (SGk hS rfl) (SGi hS rfl h82) ?_
            obtain ⟨I83, eI83⟩ : ∃ I83 : zI, I83 = z_up I79 73 ((4 * (x1 + 1)) + x2).toNatClampNeg r81 := ⟨_, rfl⟩
            have k := k I83 eI83
            rw [← eI83]
            obtain ⟨y84, ey84⟩ : ∃ y84 : Int32, y84 = x2 + 1 := ⟨_, rfl⟩
            have k := k y84 ey84
            refine Ev_iinc (v := y84) (lo2 := [.ref 57, .int x1, .int y84, .int y3, .int y6, .int y10]) hq_160 (show decode prog_7_method_37_code 247 = .ok (.iinc 2 1, 3) by decide +kernel) rfl (by rw [ey84]; rfl) rfl ?_
            refine Ev_goto (tgt := 34) hq_160 (show decode prog_7_method_37_code 250 = .ok (.goto (-216), 3) by decide +kernel) (by decide) ?_
            exact k
          · have k := k.2 c70
            refine Ev_iconst (v := 1) hq_160 (show decode prog_7_method_37_code 202 = .ok (.iconst 1, 1) by decide +kernel) (by decide) ?_
            refine Ev_goto (tgt := 207) hq_160 (show decode prog_7_method_37_code 203 = .ok (.goto 4, 3) by decide +kernel) (by decide) ?_
            refine Ev_iadd hq_160 (show decode prog_7_method_37_code 207 = .ok (.iadd, 1) by decide +kernel) ?_
            obtain ⟨h85, k⟩ := k
            refine Ev_iast hq_160 (show decode prog_7_method_37_code 208 = .ok (.iastore, 1) by decide +kernel) (SGn hS (by decide)) (SGk hS rfl) (SGi hS rfl h85) ?_
            obtain ⟨I86, eI86⟩ : ∃ I86 : zI, I86 = z_up I67 77 x2.toNatClampNeg ((I65 77 x2.toNatClampNeg) + 1) := ⟨_, rfl⟩
            have k := k I86 eI86
            rw [← eI86]
            refine Ev_aload_n hq_160 (show decode prog_7_method_37_code 209 = .ok (.aload_n 0, 1) by decide +kernel) rfl ?_
            refine Ev_getR hq_160 (show decode prog_7_method_37_code 210 = .ok (.getfield 55, 3) by decide +kernel) rfl (SGn hS (by decide)) (SGk hS rfl) (by decide) rfl (SGr hS rfl) ?_
            refine Ev_iconst (v := 4) hq_160 (show decode prog_7_method_37_code 213 = .ok (.iconst 4, 1) by decide +kernel) (by decide) ?_
            refine Ev_iload_n hq_160 (show decode prog_7_method_37_code 214 = .ok (.iload_n 1, 1) by decide +kernel) rfl ?_
            refine Ev_iconst (v := 1) hq_160 (show decode prog_7_method_37_code 215 = .ok (.iconst 1, 1) by decide +kernel) (by decide) ?_
            refine Ev_iadd hq_160 (show decode prog_7_method_37_code 216 = .ok (.iadd, 1) by decide +kernel) ?_
            refine Ev_imul hq_160 (show decode prog_7_method_37_code 217 = .ok (.imul, 1) by decide +kernel) ?_
            refine Ev_iload_n hq_160 (show decode prog_7_method_37_code 218 = .ok (.iload_n 2, 1) by decide +kernel) rfl ?_
            refine Ev_iadd hq_160 (show decode prog_7_method_37_code 219 = .ok (.iadd, 1) by decide +kernel) ?_
            refine Ev_iload_n hq_160 (show decode prog_7_method_37_code 220 = .ok (.iload_n 3, 1) by decide +kernel) rfl ?_
            refine Ev_aload_n hq_160 (show decode prog_7_method_37_code 221 = .ok (.aload_n 0, 1) by decide +kernel) rfl ?_
            refine Ev_iload_n hq_160 (show decode prog_7_method_37_code 222 = .ok (.iload_n 2, 1) by decide +kernel) rfl ?_
            refine Ev_aload_n hq_160 (show decode prog_7_method_37_code 223 = .ok (.aload_n 0, 1) by decide +kernel) rfl ?_
            refine Ev_iconst (v := 0) hq_160 (show decode prog_7_method_37_code 224 = .ok (.iconst 0, 1) by decide +kernel) (by decide) ?_
            refine Ev_iload_n hq_160 (show decode prog_7_method_37_code 225 = .ok (.iload_n 2, 1) by decide +kernel) rfl ?_
            refine Ev_iload hq_160 (show decode prog_7_method_37_code 226 = .ok (.iload 4, 2) by decide +kernel) rfl ?_
            refine Ev_iload hq_160 (show decode prog_7_method_37_code 228 = .ok (.iload 5, 2) by decide +kernel) rfl ?_
            refine Ev_iload_n hq_160 (show decode prog_7_method_37_code 230 = .ok (.iload_n 3, 1) by decide +kernel) rfl ?_
            refine Ev_iload_n hq_160 (show decode prog_7_method_37_code 231 = .ok (.iload_n 1, 1) by decide +kernel) rfl ?_
            obtain ⟨r89, I87, h88, k⟩ := k
            refine Ev_virt (as := [.int 0, .int x2, .int y6, .int y10, .int y3, .int x1]) hq_160 (show decode prog_7_method_37_code 232 = .ok (.invokevirtual 180, 3) by decide +kernel) rfl hq_149 rfl (z_le rfl) ⟨(SGn hS (by decide)), (SGk hS rfl), by decide⟩ h88 ?_
            obtain ⟨r92, I90, h91, k⟩ := k
            refine Ev_virt (as := [.int x2, .int r89]) hq_160 (show decode prog_7_method_37_code 235 = .ok (.invokevirtual 199, 3) by decide +kernel) rfl hq_163 rfl (z_le rfl) ⟨(SGn hS (by decide)), (SGk hS rfl), by decide⟩ h91 ?_
            refine Ev_iadd hq_160 (show decode prog_7_method_37_code 238 = .ok (.iadd, 1) by decide +kernel) ?_
            refine Ev_iconst (v := 0) hq_160 (show decode prog_7_method_37_code 239 = .ok (.iconst 0, 1) by decide +kernel) (by decide) ?_
            refine Ev_sipush (v := 999) hq_160 (show decode prog_7_method_37_code 240 = .ok (.sipush 999, 3) by decide +kernel) (by decide) ?_
            obtain ⟨r95, I93, h94, k⟩ := k
            refine Ev_stat (as := [.int (y3 + r92), .int 0, .int 999]) hq_160 (show decode prog_7_method_37_code 243 = .ok (.invokestatic 173, 3) by decide +kernel) rfl (Or.inl rfl) hq_152 rfl (z_le rfl) h94 ?_
            obtain ⟨h96, k⟩ := k
            refine Ev_iast hq_160 (show decode prog_7_method_37_code 246 = .ok (.iastore, 1) by decide +kernel) (SGn hS (by decide)) (SGk hS rfl) (SGi hS rfl h96) ?_
            obtain ⟨I97, eI97⟩ : ∃ I97 : zI, I97 = z_up I93 73 ((4 * (x1 + 1)) + x2).toNatClampNeg r95 := ⟨_, rfl⟩
            have k := k I97 eI97
            rw [← eI97]
            obtain ⟨y98, ey98⟩ : ∃ y98 : Int32, y98 = x2 + 1 := ⟨_, rfl⟩
            have k := k y98 ey98
            refine Ev_iinc (v := y98) (lo2 := [.ref 57, .int x1, .int y98, .int y3, .int y6, .int y10]) hq_160 (show decode prog_7_method_37_code 247 = .ok (.iinc 2 1, 3) by decide +kernel) rfl (by rw [ey98]; rfl) rfl ?_
            refine Ev_goto (tgt := 34) hq_160 (show decode prog_7_method_37_code 250 = .ok (.goto (-216), 3) by decide +kernel) (by decide) ?_
            exact k
    · have k := k.2 (Classical.not_not.mp c7)
      refine Ev_iload hq_160 (show decode prog_7_method_37_code 80 = .ok (.iload 4, 2) by decide +kernel) rfl ?_
      refine Ev_goto (tgt := 108) hq_160 (show decode prog_7_method_37_code 82 = .ok (.goto 26, 3) by decide +kernel) (by decide) ?_
      refine Ev_istore (lo2 := [.ref 57, .int x1, .int x2, .int y3, .int y6, .int y6]) hq_160 (show decode prog_7_method_37_code 108 = .ok (.istore 5, 2) by decide +kernel) (z_le rfl) rfl ?_
      refine Ev_aload_n hq_160 (show decode prog_7_method_37_code 110 = .ok (.aload_n 0, 1) by decide +kernel) rfl ?_
      refine Ev_getR hq_160 (show decode prog_7_method_37_code 111 = .ok (.getfield 55, 3) by decide +kernel) rfl (SGn hS (by decide)) (SGk hS rfl) (by decide) rfl (SGr hS rfl) ?_
      refine Ev_iconst (v := 4) hq_160 (show decode prog_7_method_37_code 114 = .ok (.iconst 4, 1) by decide +kernel) (by decide) ?_
      refine Ev_iload_n hq_160 (show decode prog_7_method_37_code 115 = .ok (.iload_n 1, 1) by decide +kernel) rfl ?_
      refine Ev_iconst (v := 1) hq_160 (show decode prog_7_method_37_code 116 = .ok (.iconst 1, 1) by decide +kernel) (by decide) ?_
      refine Ev_iadd hq_160 (show decode prog_7_method_37_code 117 = .ok (.iadd, 1) by decide +kernel) ?_
      refine Ev_imul hq_160 (show decode prog_7_method_37_code 118 = .ok (.imul, 1) by decide +kernel) ?_
      refine Ev_iload_n hq_160 (show decode prog_7_method_37_code 119 = .ok (.iload_n 2, 1) by decide +kernel) rfl ?_
      refine Ev_iadd hq_160 (show decode prog_7_method_37_code 120 = .ok (.iadd, 1) by decide +kernel) ?_
      refine Ev_iload_n hq_160 (show decode prog_7_method_37_code 121 = .ok (.iload_n 3, 1) by decide +kernel) rfl ?_
      obtain ⟨h99, k⟩ := k
      refine Ev_iast hq_160 (show decode prog_7_method_37_code 122 = .ok (.iastore, 1) by decide +kernel) (SGn hS (by decide)) (SGk hS rfl) (SGi hS rfl h99) ?_
      obtain ⟨I100, eI100⟩ : ∃ I100 : zI, I100 = z_up I 73 ((4 * (x1 + 1)) + x2).toNatClampNeg y3 := ⟨_, rfl⟩
      have k := k I100 eI100
      rw [← eI100]
      refine Ev_aload_n hq_160 (show decode prog_7_method_37_code 123 = .ok (.aload_n 0, 1) by decide +kernel) rfl ?_
      refine Ev_iload_n hq_160 (show decode prog_7_method_37_code 124 = .ok (.iload_n 2, 1) by decide +kernel) rfl ?_
      obtain ⟨r103, I101, h102, k⟩ := k
      refine Ev_virt (as := [.int x2]) hq_160 (show decode prog_7_method_37_code 125 = .ok (.invokevirtual 94, 3) by decide +kernel) rfl hq_143 rfl (z_le rfl) ⟨(SGn hS (by decide)), (SGk hS rfl), by decide⟩ h102 ?_
      refine Ev_if_eq (tgt := 247) hq_160 (show decode prog_7_method_37_code 128 = .ok (.ifCond .eq 119, 3) by decide +kernel) (by decide) (fun c104 => ?_) (fun c104 => ?_)
      · have k := k.1 c104
        obtain ⟨y105, ey105⟩ : ∃ y105 : Int32, y105 = x2 + 1 := ⟨_, rfl⟩
        have k := k y105 ey105
        refine Ev_iinc (v := y105) (lo2 := [.ref 57, .int x1, .int y105, .int y3, .int y6, .int y6]) hq_160 (show decode prog_7_method_37_code 247 = .ok (.iinc 2 1, 3) by decide +kernel) rfl (by rw [ey105]; rfl) rfl ?_
        refine Ev_goto (tgt := 34) hq_160 (show decode prog_7_method_37_code 250 = .ok (.goto (-216), 3) by decide +kernel) (by decide) ?_
        exact k
      · have k := k.2 c104
        refine Ev_aload_n hq_160 (show decode prog_7_method_37_code 131 = .ok (.aload_n 0, 1) by decide +kernel) rfl ?_
        refine Ev_getR hq_160 (show decode prog_7_method_37_code 132 = .ok (.getfield 61, 3) by decide +kernel) rfl (SGn hS (by decide)) (SGk hS rfl) (by decide) rfl (SGr hS rfl) ?_
        refine Ev_iload_n hq_160 (show decode prog_7_method_37_code 135 = .ok (.iload_n 2, 1) by decide +kernel) rfl ?_
        refine Ev_dup2 hq_160 (show decode prog_7_method_37_code 136 = .ok (.dup2, 1) by decide +kernel) ⟨rfl, rfl⟩ ?_
        obtain ⟨h106, k⟩ := k
        refine Ev_iald hq_160 (show decode prog_7_method_37_code 137 = .ok (.iaload, 1) by decide +kernel) (SGn hS (by decide)) (SGk hS rfl) (SGi hS rfl h106) ?_
        refine Ev_aload_n hq_160 (show decode prog_7_method_37_code 138 = .ok (.aload_n 0, 1) by decide +kernel) rfl ?_
        refine Ev_iconst (v := 1) hq_160 (show decode prog_7_method_37_code 139 = .ok (.iconst 1, 1) by decide +kernel) (by decide) ?_
        refine Ev_iload_n hq_160 (show decode prog_7_method_37_code 140 = .ok (.iload_n 2, 1) by decide +kernel) rfl ?_
        refine Ev_iload hq_160 (show decode prog_7_method_37_code 141 = .ok (.iload 4, 2) by decide +kernel) rfl ?_
        refine Ev_iload hq_160 (show decode prog_7_method_37_code 143 = .ok (.iload 5, 2) by decide +kernel) rfl ?_
        refine Ev_iload_n hq_160 (show decode prog_7_method_37_code 145 = .ok (.iload_n 3, 1) by decide +kernel) rfl ?_
        refine Ev_iload_n hq_160 (show decode prog_7_method_37_code 146 = .ok (.iload_n 1, 1) by decide +kernel) rfl ?_
        obtain ⟨r109, I107, h108, k⟩ := k
        refine Ev_virt (as := [.int 1, .int x2, .int y6, .int y6, .int y3, .int x1]) hq_160 (show decode prog_7_method_37_code 147 = .ok (.invokevirtual 180, 3) by decide +kernel) rfl hq_149 rfl (z_le rfl) ⟨(SGn hS (by decide)), (SGk hS rfl), by decide⟩ h108 ?_
        refine Ev_iadd hq_160 (show decode prog_7_method_37_code 150 = .ok (.iadd, 1) by decide +kernel) ?_
        obtain ⟨h110, k⟩ := k
        refine Ev_iast hq_160 (show decode prog_7_method_37_code 151 = .ok (.iastore, 1) by decide +kernel) (SGn hS (by decide)) (SGk hS rfl) (SGi hS rfl h110) ?_
        obtain ⟨I111, eI111⟩ : ∃ I111 : zI, I111 = z_up I107 75 x2.toNatClampNeg ((I101 75 x2.toNatClampNeg) + r109) := ⟨_, rfl⟩
        have k := k I111 eI111
        rw [← eI111]
        refine Ev_aload_n hq_160 (show decode prog_7_method_37_code 152 = .ok (.aload_n 0, 1) by decide +kernel) rfl ?_
        refine Ev_getR hq_160 (show decode prog_7_method_37_code 153 = .ok (.getfield 64, 3) by decide +kernel) rfl (SGn hS (by decide)) (SGk hS rfl) (by decide) rfl (SGr hS rfl) ?_
        refine Ev_iload_n hq_160 (show decode prog_7_method_37_code 156 = .ok (.iload_n 2, 1) by decide +kernel) rfl ?_
        refine Ev_dup2 hq_160 (show decode prog_7_method_37_code 157 = .ok (.dup2, 1) by decide +kernel) ⟨rfl, rfl⟩ ?_
        obtain ⟨h112, k⟩ := k
        refine Ev_iald hq_160 (show decode prog_7_method_37_code 158 = .ok (.iaload, 1) by decide +kernel) (SGn hS (by decide)) (SGk hS rfl) (SGi hS rfl h112) ?_
        refine Ev_aload_n hq_160 (show decode prog_7_method_37_code 159 = .ok (.aload_n 0, 1) by decide +kernel) rfl ?_
        refine Ev_iconst (v := 2) hq_160 (show decode prog_7_method_37_code 160 = .ok (.iconst 2, 1) by decide +kernel) (by decide) ?_
        refine Ev_iload_n hq_160 (show decode prog_7_method_37_code 161 = .ok (.iload_n 2, 1) by decide +kernel) rfl ?_
        refine Ev_iload hq_160 (show decode prog_7_method_37_code 162 = .ok (.iload 4, 2) by decide +kernel) rfl ?_
        refine Ev_iload hq_160 (show decode prog_7_method_37_code 164 = .ok (.iload 5, 2) by decide +kernel) rfl ?_
        refine Ev_iload_n hq_160 (show decode prog_7_method_37_code 166 = .ok (.iload_n 3, 1) by decide +kernel) rfl ?_
        refine Ev_iload_n hq_160 (show decode prog_7_method_37_code 167 = .ok (.iload_n 1, 1) by decide +kernel) rfl ?_
        obtain ⟨r115, I113, h114, k⟩ := k
        refine Ev_virt (as := [.int 2, .int x2, .int y6, .int y6, .int y3, .int x1]) hq_160 (show decode prog_7_method_37_code 168 = .ok (.invokevirtual 180, 3) by decide +kernel) rfl hq_149 rfl (z_le rfl) ⟨(SGn hS (by decide)), (SGk hS rfl), by decide⟩ h114 ?_
        refine Ev_iconst (v := 1) hq_160 (show decode prog_7_method_37_code 171 = .ok (.iconst 1, 1) by decide +kernel) (by decide) ?_
        refine Ev_icmp_ne (tgt := 181) hq_160 (show decode prog_7_method_37_code 172 = .ok (.if_icmp .ne 9, 3) by decide +kernel) (by decide) (fun c116 => ?_) (fun c116 => ?_)
        · have k := k.1 c116
          refine Ev_iconst (v := 0) hq_160 (show decode prog_7_method_37_code 181 = .ok (.iconst 0, 1) by decide +kernel) (by decide) ?_
          refine Ev_ior hq_160 (show decode prog_7_method_37_code 182 = .ok (.ior, 1) by decide +kernel) ?_
          obtain ⟨h117, k⟩ := k
          refine Ev_iast hq_160 (show decode prog_7_method_37_code 183 = .ok (.iastore, 1) by decide +kernel) (SGn hS (by decide)) (SGk hS rfl) (SGi hS rfl h117) ?_
          obtain ⟨I118, eI118⟩ : ∃ I118 : zI, I118 = z_up I113 76 x2.toNatClampNeg ((I111 76 x2.toNatClampNeg) ||| 0) := ⟨_, rfl⟩
          have k := k I118 eI118
          rw [← eI118]
          refine Ev_aload_n hq_160 (show decode prog_7_method_37_code 184 = .ok (.aload_n 0, 1) by decide +kernel) rfl ?_
          refine Ev_getR hq_160 (show decode prog_7_method_37_code 185 = .ok (.getfield 67, 3) by decide +kernel) rfl (SGn hS (by decide)) (SGk hS rfl) (by decide) rfl (SGr hS rfl) ?_
          refine Ev_iload_n hq_160 (show decode prog_7_method_37_code 188 = .ok (.iload_n 2, 1) by decide +kernel) rfl ?_
          refine Ev_dup2 hq_160 (show decode prog_7_method_37_code 189 = .ok (.dup2, 1) by decide +kernel) ⟨rfl, rfl⟩ ?_
          obtain ⟨h119, k⟩ := k
          refine Ev_iald hq_160 (show decode prog_7_method_37_code 190 = .ok (.iaload, 1) by decide +kernel) (SGn hS (by decide)) (SGk hS rfl) (SGi hS rfl h119) ?_
          refine Ev_iload hq_160 (show decode prog_7_method_37_code 191 = .ok (.iload 4, 2) by decide +kernel) rfl ?_
          refine Ev_ineg hq_160 (show decode prog_7_method_37_code 193 = .ok (.ineg, 1) by decide +kernel) ?_
          refine Ev_aload_n hq_160 (show decode prog_7_method_37_code 194 = .ok (.aload_n 0, 1) by decide +kernel) rfl ?_
          refine Ev_iload_n hq_160 (show decode prog_7_method_37_code 195 = .ok (.iload_n 2, 1) by decide +kernel) rfl ?_
          obtain ⟨r122, I120, h121, k⟩ := k
          refine Ev_virt (as := [.int x2]) hq_160 (show decode prog_7_method_37_code 196 = .ok (.invokevirtual 187, 3) by decide +kernel) rfl hq_157 rfl (z_le rfl) ⟨(SGn hS (by decide)), (SGk hS rfl), by decide⟩ h121 ?_
          refine Ev_icmp_lt (tgt := 206) hq_160 (show decode prog_7_method_37_code 199 = .ok (.if_icmp .lt 7, 3) by decide +kernel) (by decide) (fun c123 => ?_) (fun c123 => ?_)
          · have k := k.1 c123
            refine Ev_iconst (v := 0) hq_160 (show decode prog_7_method_37_code 206 = .ok (.iconst 0, 1) by decide +kernel) (by decide) ?_
            refine Ev_iadd hq_160 (show decode prog_7_method_37_code 207 = .ok (.iadd, 1) by decide +kernel) ?_
            obtain ⟨h124, k⟩ := k
            refine Ev_iast hq_160 (show decode prog_7_method_37_code 208 = .ok (.iastore, 1) by decide +kernel) (SGn hS (by decide)) (SGk hS rfl) (SGi hS rfl h124) ?_
            obtain ⟨I125, eI125⟩ : ∃ I125 : zI, I125 = z_up I120 77 x2.toNatClampNeg ((I118 77 x2.toNatClampNeg) + 0) := ⟨_, rfl⟩
            have k := k I125 eI125
            rw [← eI125]
            refine Ev_aload_n hq_160 (show decode prog_7_method_37_code 209 = .ok (.aload_n 0, 1) by decide +kernel) rfl ?_
            refine Ev_getR hq_160 (show decode prog_7_method_37_code 210 = .ok (.getfield 55, 3) by decide +kernel) rfl (SGn hS (by decide)) (SGk hS rfl) (by decide) rfl (SGr hS rfl) ?_
            refine Ev_iconst (v := 4) hq_160 (show decode prog_7_method_37_code 213 = .ok (.iconst 4, 1) by decide +kernel) (by decide) ?_
            refine Ev_iload_n hq_160 (show decode prog_7_method_37_code 214 = .ok (.iload_n 1, 1) by decide +kernel) rfl ?_
            refine Ev_iconst (v := 1) hq_160 (show decode prog_7_method_37_code 215 = .ok (.iconst 1, 1) by decide +kernel) (by decide) ?_
            refine Ev_iadd hq_160 (show decode prog_7_method_37_code 216 = .ok (.iadd, 1) by decide +kernel) ?_
            refine Ev_imul hq_160 (show decode prog_7_method_37_code 217 = .ok (.imul, 1) by decide +kernel) ?_
            refine Ev_iload_n hq_160 (show decode prog_7_method_37_code 218 = .ok (.iload_n 2, 1) by decide +kernel) rfl ?_
            refine Ev_iadd hq_160 (show decode prog_7_method_37_code 219 = .ok (.iadd, 1) by decide +kernel) ?_
            refine Ev_iload_n hq_160 (show decode prog_7_method_37_code 220 = .ok (.iload_n 3, 1) by decide +kernel) rfl ?_
            refine Ev_aload_n hq_160 (show decode prog_7_method_37_code 221 = .ok (.aload_n 0, 1) by decide +kernel) rfl ?_
            refine Ev_iload_n hq_160 (show decode prog_7_method_37_code 222 = .ok (.iload_n 2, 1) by decide +kernel) rfl ?_
            refine Ev_aload_n hq_160 (show decode prog_7_method_37_code 223 = .ok (.aload_n 0, 1) by decide +kernel) rfl ?_
            refine Ev_iconst (v := 0) hq_160 (show decode prog_7_method_37_code 224 = .ok (.iconst 0, 1) by decide +kernel) (by decide) ?_
            refine Ev_iload_n hq_160 (show decode prog_7_method_37_code 225 = .ok (.iload_n 2, 1) by decide +kernel) rfl ?_
            refine Ev_iload hq_160 (show decode prog_7_method_37_code 226 = .ok (.iload 4, 2) by decide +kernel) rfl ?_
            refine Ev_iload hq_160 (show decode prog_7_method_37_code 228 = .ok (.iload 5, 2) by decide +kernel) rfl ?_
            refine Ev_iload_n hq_160 (show decode prog_7_method_37_code 230 = .ok (.iload_n 3, 1) by decide +kernel) rfl ?_
            refine Ev_iload_n hq_160 (show decode prog_7_method_37_code 231 = .ok (.iload_n 1, 1) by decide +kernel) rfl ?_
            obtain ⟨r128, I126, h127, k⟩ := k
            refine Ev_virt (as := [.int 0, .int x2, .int y6, .int y6, .int y3, .int x1]) hq_160 (show decode prog_7_method_37_code 232 = .ok (.invokevirtual 180, 3) by decide +kernel) rfl hq_149 rfl (z_le rfl) ⟨(SGn hS (by decide)), (SGk hS rfl), by decide⟩ h127 ?_
            obtain ⟨r131, I129, h130, k⟩ := k
            refine Ev_virt (as := [.int x2, .int r128]) hq_160 (show decode prog_7_method_37_code 235 = .ok (.invokevirtual 199, 3) by decide +kernel) rfl hq_163 rfl (z_le rfl) ⟨(SGn hS (by decide)), (SGk hS rfl), by decide⟩ h130 ?_
            refine Ev_iadd hq_160 (show decode prog_7_method_37_code 238 = .ok (.iadd, 1) by decide +kernel) ?_
            refine Ev_iconst (v := 0) hq_160 (show decode prog_7_method_37_code 239 = .ok (.iconst 0, 1) by decide +kernel) (by decide) ?_
            refine Ev_sipush (v := 999) hq_160 (show decode prog_7_method_37_code 240 = .ok (.sipush 999, 3) by decide +kernel) (by decide) ?_
            obtain ⟨r134, I132, h133, k⟩ := k
            refine Ev_stat (as := [.int (y3 + r131), .int 0, .int 999]) hq_160 (show decode prog_7_method_37_code 243 = .ok (.invokestatic 173, 3) by decide +kernel) rfl (Or.inl rfl) hq_152 rfl (z_le rfl) h133 ?_
            obtain ⟨h135, k⟩ := k
            refine Ev_iast hq_160 (show decode prog_7_method_37_code 246 = .ok (.iastore, 1) by decide +kernel) (SGn hS (by decide)) (SGk hS rfl) (SGi hS rfl h135) ?_
            obtain ⟨I136, eI136⟩ : ∃ I136 : zI, I136 = z_up I132 73 ((4 * (x1 + 1)) + x2).toNatClampNeg r134 := ⟨_, rfl⟩
            have k := k I136 eI136
            rw [← eI136]
            obtain ⟨y137, ey137⟩ : ∃ y137 : Int32, y137 = x2 + 1 := ⟨_, rfl⟩
            have k := k y137 ey137
            refine Ev_iinc (v := y137) (lo2 := [.ref 57, .int x1, .int y137, .int y3, .int y6, .int y6]) hq_160 (show decode prog_7_method_37_code 247 = .ok (.iinc 2 1, 3) by decide +kernel) rfl (by rw [ey137]; rfl) rfl ?_
            refine Ev_goto (tgt := 34) hq_160 (show decode prog_7_method_37_code 250 = .ok (.goto (-216), 3) by decide +kernel) (by decide) ?_
            exact k
          · have k := k.2 c123
            refine Ev_iconst (v := 1) hq_160 (show decode prog_7_method_37_code 202 = .ok (.iconst 1, 1) by decide +kernel) (by decide) ?_
            refine Ev_goto (tgt := 207) hq_160 (show decode prog_7_method_37_code 203 = .ok (.goto 4, 3) by decide +kernel) (by decide) ?_
            refine Ev_iadd hq_160 (show decode prog_7_method_37_code 207 = .ok (.iadd, 1) by decide +kernel) ?_
            obtain ⟨h138, k⟩ := k
            refine Ev_iast hq_160 (show decode prog_7_method_37_code 208 = .ok (.iastore, 1) by decide +kernel) (SGn hS (by decide)) (SGk hS rfl) (SGi hS rfl h138) ?_
            obtain ⟨I139, eI139⟩ : ∃ I139 : zI, I139 = z_up I120 77 x2.toNatClampNeg ((I118 77 x2.toNatClampNeg) + 1) := ⟨_, rfl⟩
            have k := k I139 eI139
            rw [← eI139]
            refine Ev_aload_n hq_160 (show decode prog_7_method_37_code 209 = .ok (.aload_n 0, 1) by decide +kernel) rfl ?_
            refine Ev_getR hq_160 (show decode prog_7_method_37_code 210 = .ok (.getfield 55, 3) by decide +kernel) rfl (SGn hS (by decide)) (SGk hS rfl) (by decide) rfl (SGr hS rfl) ?_
            refine Ev_iconst (v := 4) hq_160 (show decode prog_7_method_37_code 213 = .ok (.iconst 4, 1) by decide +kernel) (by decide) ?_
            refine Ev_iload_n hq_160 (show decode prog_7_method_37_code 214 = .ok (.iload_n 1, 1) by decide +kernel) rfl ?_
            refine Ev_iconst (v := 1) hq_160 (show decode prog_7_method_37_code 215 = .ok (.iconst 1, 1) by decide +kernel) (by decide) ?_
            refine Ev_iadd hq_160 (show decode prog_7_method_37_code 216 = .ok (.iadd, 1) by decide +kernel) ?_
            refine Ev_imul hq_160 (show decode prog_7_method_37_code 217 = .ok (.imul, 1) by decide +kernel) ?_
            refine Ev_iload_n hq_160 (show decode prog_7_method_37_code 218 = .ok (.iload_n 2, 1) by decide +kernel) rfl ?_
            refine Ev_iadd hq_160 (show decode prog_7_method_37_code 219 = .ok (.iadd, 1) by decide +kernel) ?_
            refine Ev_iload_n hq_160 (show decode prog_7_method_37_code 220 = .ok (.iload_n 3, 1) by decide +kernel) rfl ?_
            refine Ev_aload_n hq_160 (show decode prog_7_method_37_code 221 = .ok (.aload_n 0, 1) by decide +kernel) rfl ?_
            refine Ev_iload_n hq_160 (show decode prog_7_method_37_code 222 = .ok (.iload_n 2, 1) by decide +kernel) rfl ?_
            refine Ev_aload_n hq_160 (show decode prog_7_method_37_code 223 = .ok (.aload_n 0, 1) by decide +kernel) rfl ?_
            refine Ev_iconst (v := 0) hq_160 (show decode prog_7_method_37_code 224 = .ok (.iconst 0, 1) by decide +kernel) (by decide) ?_
            refine Ev_iload_n hq_160 (show decode prog_7_method_37_code 225 = .ok (.iload_n 2, 1) by decide +kernel) rfl ?_
            refine Ev_iload hq_160 (show decode prog_7_method_37_code 226 = .ok (.iload 4, 2) by decide +kernel) rfl ?_
            refine Ev_iload hq_160 (show decode prog_7_method_37_code 228 = .ok (.iload 5, 2) by decide +kernel) rfl ?_
            refine Ev_iload_n hq_160 (show decode prog_7_method_37_code 230 = .ok (.iload_n 3, 1) by decide +kernel) rfl ?_
            refine Ev_iload_n hq_160 (show decode prog_7_method_37_code 231 = .ok (.iload_n 1, 1) by decide +kernel) rfl ?_
            obtain ⟨r142, I140, h141, k⟩ := k
            refine Ev_virt (as := [.int 0, .int x2, .int y6, .int y6, .int y3, .int x1]) hq_160 (show decode prog_7_method_37_code 232 = .ok (.invokevirtual 180, 3) by decide +kernel) rfl hq_149 rfl (z_le rfl) ⟨(SGn hS (by decide)), (SGk hS rfl), by decide⟩ h141 ?_
            obtain ⟨r145, I143, h144, k⟩ := k
            refine Ev_virt (as := [.int x2, .int r142]) hq_160 (show decode prog_7_method_37_code 235 = .ok (.invokevirtual 199, 3) by decide +kernel) rfl hq_163 rfl (z_le rfl) ⟨(SGn hS (by decide)), (SGk hS rfl), by decide⟩ h144 ?_
            refine Ev_iadd hq_160 (show decode prog_7_method_37_code 238 = .ok (.iadd, 1) by decide +kernel) ?_
            refine Ev_iconst (v := 0) hq_160 (show decode prog_7_method_37_code 239 = .ok (.iconst 0, 1) by decide +kernel) (by decide) ?_
            refine Ev_sipush (v := 999) hq_160 (show decode prog_7_method_37_code 240 = .ok (.sipush 999, 3) by decide +kernel) (by decide) ?_
            obtain ⟨r148, I146, h147, k⟩ := k
            refine Ev_stat (as := [.int (y3 + r145), .int 0, .int 999]) hq_160 (show decode prog_7_method_37_code 243 = .ok (.invokestatic 173, 3) by decide +kernel) rfl (Or.inl rfl) hq_152 rfl (z_le rfl) h147 ?_
            obtain ⟨h149, k⟩ := k
            refine Ev_iast hq_160 (show decode prog_7_method_37_code 246 = .ok (.iastore, 1) by decide +kernel) (SGn hS (by decide)) (SGk hS rfl) (SGi hS rfl h149) ?_
            obtain ⟨I150, eI150⟩ : ∃ I150 : zI, I150 = z_up I146 73 ((4 * (x1 + 1)) + x2).toNatClampNeg r148 := ⟨_, rfl⟩
            have k := k I150 eI150
            rw [← eI150]
            obtain ⟨y151, ey151⟩ : ∃ y151 : Int32, y151 = x2 + 1 := ⟨_, rfl⟩
            have k := k y151 ey151
            refine Ev_iinc (v := y151) (lo2 := [.ref 57, .int x1, .int y151, .int y3, .int y6, .int y6]) hq_160 (show decode prog_7_method_37_code 247 = .ok (.iinc 2 1, 3) by decide +kernel) rfl (by rw [ey151]; rfl) rfl ?_
            refine Ev_goto (tgt := 34) hq_160 (show decode prog_7_method_37_code 250 = .ok (.goto (-216), 3) by decide +kernel) (by decide) ?_
            exact k
        · have k := k.2 (Classical.not_not.mp c116)
          refine Ev_iconst (v := 1) hq_160 (show decode prog_7_method_37_code 175 = .ok (.iconst 1, 1) by decide +kernel) (by decide) ?_
          refine Ev_iload_n hq_160 (show decode prog_7_method_37_code 176 = .ok (.iload_n 1, 1) by decide +kernel) rfl ?_
          refine Ev_ishl hq_160 (show decode prog_7_method_37_code 177 = .ok (.ishl, 1) by decide +kernel) ?_
          refine Ev_goto (tgt := 182) hq_160 (show decode prog_7_method_37_code 178 = .ok (.goto 4, 3) by decide +kernel) (by decide) ?_
          refine Ev_ior hq_160 (show decode prog_7_method_37_code 182 = .ok (.ior, 1) by decide +kernel) ?_
          obtain ⟨h152, k⟩ := k
          refine Ev_iast hq_160 (show decode prog_7_method_37_code 183 = .ok (.iastore, 1) by decide +kernel) (SGn hS (by decide)) (SGk hS rfl) (SGi hS rfl h152) ?_
          obtain ⟨I153, eI153⟩ : ∃ I153 : zI, I153 = z_up I113 76 x2.toNatClampNeg ((I111 76 x2.toNatClampNeg) ||| (1 <<< (x1 &&& 31))) := ⟨_, rfl⟩
          have k := k I153 eI153
          rw [← eI153]
          refine Ev_aload_n hq_160 (show decode prog_7_method_37_code 184 = .ok (.aload_n 0, 1) by decide +kernel) rfl ?_
          refine Ev_getR hq_160 (show decode prog_7_method_37_code 185 = .ok (.getfield 67, 3) by decide +kernel) rfl (SGn hS (by decide)) (SGk hS rfl) (by decide) rfl (SGr hS rfl) ?_
          refine Ev_iload_n hq_160 (show decode prog_7_method_37_code 188 = .ok (.iload_n 2, 1) by decide +kernel) rfl ?_
          refine Ev_dup2 hq_160 (show decode prog_7_method_37_code 189 = .ok (.dup2, 1) by decide +kernel) ⟨rfl, rfl⟩ ?_
          obtain ⟨h154, k⟩ := k
          refine Ev_iald hq_160 (show decode prog_7_method_37_code 190 = .ok (.iaload, 1) by decide +kernel) (SGn hS (by decide)) (SGk hS rfl) (SGi hS rfl h154) ?_
          refine Ev_iload hq_160 (show decode prog_7_method_37_code 191 = .ok (.iload 4, 2) by decide +kernel) rfl ?_
          refine Ev_ineg hq_160 (show decode prog_7_method_37_code 193 = .ok (.ineg, 1) by decide +kernel) ?_
          refine Ev_aload_n hq_160 (show decode prog_7_method_37_code 194 = .ok (.aload_n 0, 1) by decide +kernel) rfl ?_
          refine Ev_iload_n hq_160 (show decode prog_7_method_37_code 195 = .ok (.iload_n 2, 1) by decide +kernel) rfl ?_
          obtain ⟨r157, I155, h156, k⟩ := k
          refine Ev_virt (as := [.int x2]) hq_160 (show decode prog_7_method_37_code 196 = .ok (.invokevirtual 187, 3) by decide +kernel) rfl hq_157 rfl (z_le rfl) ⟨(SGn hS (by decide)), (SGk hS rfl), by decide⟩ h156 ?_
          refine Ev_icmp_lt (tgt := 206) hq_160 (show decode prog_7_method_37_code 199 = .ok (.if_icmp .lt 7, 3) by decide +kernel) (by decide) (fun c158 => ?_) (fun c158 => ?_)
          · have k := k.1 c158
            refine Ev_iconst (v := 0) hq_160 (show decode prog_7_method_37_code 206 = .ok (.iconst 0, 1) by decide +kernel) (by decide) ?_
            refine Ev_iadd hq_160 (show decode prog_7_method_37_code 207 = .ok (.iadd, 1) by decide +kernel) ?_
            obtain ⟨h159, k⟩ := k
            refine Ev_iast hq_160 (show decode prog_7_method_37_code 208 = .ok (.iastore, 1) by decide +kernel) (SGn hS (by decide)) (SGk hS rfl) (SGi hS rfl h159) ?_
            obtain ⟨I160, eI160⟩ : ∃ I160 : zI, I160 = z_up I155 77 x2.toNatClampNeg ((I153 77 x2.toNatClampNeg) + 0) := ⟨_, rfl⟩
            have k := k I160 eI160
            rw [← eI160]
            refine Ev_aload_n hq_160 (show decode prog_7_method_37_code 209 = .ok (.aload_n 0, 1) by decide +kernel) rfl ?_
            refine Ev_getR hq_160 (show decode prog_7_method_37_code 210 = .ok (.getfield 55, 3) by decide +kernel) rfl (SGn hS (by decide)) (SGk hS rfl) (by decide) rfl (SGr hS rfl) ?_
            refine Ev_iconst (v := 4) hq_160 (show decode prog_7_method_37_code 213 = .ok (.iconst 4, 1) by decide +kernel) (by decide) ?_
            refine Ev_iload_n hq_160 (show decode prog_7_method_37_code 214 = .ok (.iload_n 1, 1) by decide +kernel) rfl ?_
            refine Ev_iconst (v := 1) hq_160 (show decode prog_7_method_37_code 215 = .ok (.iconst 1, 1) by decide +kernel) (by decide) ?_
            refine Ev_iadd hq_160 (show decode prog_7_method_37_code 216 = .ok (.iadd, 1) by decide +kernel) ?_
            refine Ev_imul hq_160 (show decode prog_7_method_37_code 217 = .ok (.imul, 1) by decide +kernel) ?_
            refine Ev_iload_n hq_160 (show decode prog_7_method_37_code 218 = .ok (.iload_n 2, 1) by decide +kernel) rfl ?_
            refine Ev_iadd hq_160 (show decode prog_7_method_37_code 219 = .ok (.iadd, 1) by decide +kernel) ?_
            refine Ev_iload_n hq_160 (show decode prog_7_method_37_code 220 = .ok (.iload_n 3, 1) by decide +kernel) rfl ?_
            refine Ev_aload_n hq_160 (show decode prog_7_method_37_code 221 = .ok (.aload_n 0, 1) by decide +kernel) rfl ?_
            refine Ev_iload_n hq_160 (show decode prog_7_method_37_code 222 = .ok (.iload_n 2, 1) by decide +kernel) rfl ?_
            refine Ev_aload_n hq_160 (show decode prog_7_method_37_code 223 = .ok (.aload_n 0, 1) by decide +kernel) rfl ?_
            refine Ev_iconst (v := 0) hq_160 (show decode prog_7_method_37_code 224 = .ok (.iconst 0, 1) by decide +kernel) (by decide) ?_
            refine Ev_iload_n hq_160 (show decode prog_7_method_37_code 225 = .ok (.iload_n 2, 1) by decide +kernel) rfl ?_
            refine Ev_iload hq_160 (show decode prog_7_method_37_code 226 = .ok (.iload 4, 2) by decide +kernel) rfl ?_
            refine Ev_iload hq_160 (show decode prog_7_method_37_code 228 = .ok (.iload 5, 2) by decide +kernel) rfl ?_
            refine Ev_iload_n hq_160 (show decode prog_7_method_37_code 230 = .ok (.iload_n 3, 1) by decide +kernel) rfl ?_
            refine Ev_iload_n hq_160 (show decode prog_7_method_37_code 231 = .ok (.iload_n 1, 1) by decide +kernel) rfl ?_
            obtain ⟨r163, I161, h162, k⟩ := k
            refine Ev_virt (as := [.int 0, .int x2, .int y6, .int y6, .int y3, .int x1]) hq_160 (show decode prog_7_method_37_code 232 = .ok (.invokevirtual 180, 3) by decide +kernel) rfl hq_149 rfl (z_le rfl) ⟨(SGn hS (by decide)), (SGk hS rfl), by decide⟩ h162 ?_
            obtain ⟨r166, I164, h165, k⟩ := k
            refine Ev_virt (as := [.int x2, .int r163]) hq_160 (show decode prog_7_method_37_code 235 = .ok (.invokevirtual 199, 3) by decide +kernel) rfl hq_163 rfl (z_le rfl) ⟨(SGn hS (by decide)), (SGk hS rfl), by decide⟩ h165 ?_
            refine Ev_iadd hq_160 (show decode prog_7_method_37_code 238 = .ok (.iadd, 1) by decide +kernel) ?_
            refine Ev_iconst (v := 0) hq_160 (show decode prog_7_method_37_code 239 = .ok (.iconst 0, 1) by decide +kernel) (by decide) ?_
            refine Ev_sipush (v := 999) hq_160 (show decode prog_7_method_37_code 240 = .ok (.sipush 999, 3) by decide +kernel) (by decide) ?_
            obtain ⟨r169, I167, h168, k⟩ := k
            refine Ev_stat (as := [.int (y3 + r166), .int 0, .int 999]) hq_160 (show decode prog_7_method_37_code 243 = .ok (.invokestatic 173, 3) by decide +kernel) rfl (Or.inl rfl) hq_152 rfl (z_le rfl) h168 ?_
            obtain ⟨h170, k⟩ := k
            refine Ev_iast hq_160 (show decode prog_7_method_37_code 246 = .ok (.iastore, 1) by decide +kernel) (SGn hS (by decide)) (SGk hS rfl) (SGi hS rfl h170) ?_
            obtain ⟨I171, eI171⟩ : ∃ I171 : zI, I171 = z_up I167 73 ((4 * (x1 + 1)) + x2).toNatClampNeg r169 := ⟨_, rfl⟩
            have k := k I171 eI171
            rw [← eI171]
            obtain ⟨y172, ey172⟩ : ∃ y172 : Int32, y172 = x2 + 1 := ⟨_, rfl⟩
            have k := k y172 ey172
            refine Ev_iinc (v := y172) (lo2 := [.ref 57, .int x1, .int y172, .int y3, .int y6, .int y6]) hq_160 (show decode prog_7_method_37_code 247 = .ok (.iinc 2 1, 3) by decide +kernel) rfl (by rw [ey172]; rfl) rfl ?_
            refine Ev_goto (tgt := 34) hq_160 (show decode prog_7_method_37_code 250 = .ok (.goto (-216), 3) by decide +kernel) (by decide) ?_
            exact k
          · have k := k.2 c158
            refine Ev_iconst (v := 1) hq_160 (show decode prog_7_method_37_code 202 = .ok (.iconst 1, 1) by decide +kernel) (by decide) ?_
            refine Ev_goto (tgt := 207) hq_160 (show decode prog_7_method_37_code 203 = .ok (.goto 4, 3) by decide +kernel) (by decide) ?_
            refine Ev_iadd hq_160 (show decode prog_7_method_37_code 207 = .ok (.iadd, 1) by decide +kernel) ?_
            obtain ⟨h173, k⟩ := k
            refine Ev_iast hq_160 (show decode prog_7_method_37_code 208 = .ok (.iastore, 1) by decide +kernel) (SGn hS (by decide)) (SGk hS rfl) (SGi hS rfl h173) ?_
            obtain ⟨I174, eI174⟩ : ∃ I174 : zI, I174 = z_up I155 77 x2.toNatClampNeg ((I153 77 x2.toNatClampNeg) + 1) := ⟨_, rfl⟩
            have k := k I174 eI174
            rw [← eI174]
            refine Ev_aload_n hq_160 (show decode prog_7_method_37_code 209 = .ok (.aload_n 0, 1) by decide +kernel) rfl ?_
            refine Ev_getR hq_160 (show decode prog_7_method_37_code 210 = .ok (.getfield 55, 3) by decide +kernel) rfl (SGn hS (by decide)) (SGk hS rfl) (by decide) rfl (SGr hS rfl) ?_
            refine Ev_iconst (v := 4) hq_160 (show decode prog_7_method_37_code 213 = .ok (.iconst 4, 1) by decide +kernel) (by decide) ?_
            refine Ev_iload_n hq_160 (show decode prog_7_method_37_code 214 = .ok (.iload_n 1, 1) by decide +kernel) rfl ?_
            refine Ev_iconst (v := 1) hq_160 (show decode prog_7_method_37_code 215 = .ok (.iconst 1, 1) by decide +kernel) (by decide) ?_
            refine Ev_iadd hq_160 (show decode prog_7_method_37_code 216 = .ok (.iadd, 1) by decide +kernel) ?_
            refine Ev_imul hq_160 (show decode prog_7_method_37_code 217 = .ok (.imul, 1) by decide +kernel) ?_
            refine Ev_iload_n hq_160 (show decode prog_7_method_37_code 218 = .ok (.iload_n 2, 1) by decide +kernel) rfl ?_
            refine Ev_iadd hq_160 (show decode prog_7_method_37_code 219 = .ok (.iadd, 1) by decide +kernel) ?_
            refine Ev_iload_n hq_160 (show decode prog_7_method_37_code 220 = .ok (.iload_n 3, 1) by decide +kernel) rfl ?_
            refine Ev_aload_n hq_160 (show decode prog_7_method_37_code 221 = .ok (.aload_n 0, 1) by decide +kernel) rfl ?_
            refine Ev_iload_n hq_160 (show decode prog_7_method_37_code 222 = .ok (.iload_n 2, 1) by decide +kernel) rfl ?_
            refine Ev_aload_n hq_160 (show decode prog_7_method_37_code 223 = .ok (.aload_n 0, 1) by decide +kernel) rfl ?_
            refine Ev_iconst (v := 0) hq_160 (show decode prog_7_method_37_code 224 = .ok (.iconst 0, 1) by decide +kernel) (by decide) ?_
            refine Ev_iload_n hq_160 (show decode prog_7_method_37_code 225 = .ok (.iload_n 2, 1) by decide +kernel) rfl ?_
            refine Ev_iload hq_160 (show decode prog_7_method_37_code 226 = .ok (.iload 4, 2) by decide +kernel) rfl ?_
            refine Ev_iload hq_160 (show decode prog_7_method_37_code 228 = .ok (.iload 5, 2) by decide +kernel) rfl ?_
            refine Ev_iload_n hq_160 (show decode prog_7_method_37_code 230 = .ok (.iload_n 3, 1) by decide +kernel) rfl ?_
            refine Ev_iload_n hq_160 (show decode prog_7_method_37_code 231 = .ok (.iload_n 1, 1) by decide +kernel) rfl ?_
            obtain ⟨r177, I175, h176, k⟩ := k
            refine Ev_virt (as := [.int 0, .int x2, .int y6, .int y6, .int y3, .int x1]) hq_160 (show decode prog_7_method_37_code 232 = .ok (.invokevirtual 180, 3) by decide +kernel) rfl hq_149 rfl (z_le rfl) ⟨(SGn hS (by decide)), (SGk hS rfl), by decide⟩ h176 ?_
            obtain ⟨r180, I178, h179, k⟩ := k
            refine Ev_virt (as := [.int x2, .int r177]) hq_160 (show decode prog_7_method_37_code 235 = .ok (.invokevirtual 199, 3) by decide +kernel) rfl hq_163 rfl (z_le rfl) ⟨(SGn hS (by decide)), (SGk hS rfl), by decide⟩ h179 ?_
            refine Ev_iadd hq_160 (show decode prog_7_method_37_code 238 = .ok (.iadd, 1) by decide +kernel) ?_
            refine Ev_iconst (v := 0) hq_160 (show decode prog_7_method_37_code 239 = .ok (.iconst 0, 1) by decide +kernel) (by decide) ?_
            refine Ev_sipush (v := 999) hq_160 (show decode prog_7_method_37_code 240 = .ok (.sipush 999, 3) by decide +kernel) (by decide) ?_
            obtain ⟨r183, I181, h182, k⟩ := k
            refine Ev_stat (as := [.int (y3 + r180), .int 0, .int 999]) hq_160 (show decode prog_7_method_37_code 243 = .ok (.invokestatic 173, 3) by decide +kernel) rfl (Or.inl rfl) hq_152 rfl (z_le rfl) h182 ?_
            obtain ⟨h184, k⟩ := k
            refine Ev_iast hq_160 (show decode prog_7_method_37_code 246 = .ok (.iastore, 1) by decide +kernel) (SGn hS (by decide)) (SGk hS rfl) (SGi hS rfl h184) ?_
            obtain ⟨I185, eI185⟩ : ∃ I185 : zI, I185 = z_up I181 73 ((4 * (x1 + 1)) + x2).toNatClampNeg r183 := ⟨_, rfl⟩
            have k := k I185 eI185
            rw [← eI185]
            obtain ⟨y186, ey186⟩ : ∃ y186 : Int32, y186 = x2 + 1 := ⟨_, rfl⟩
            have k := k y186 ey186
            refine Ev_iinc (v := y186) (lo2 := [.ref 57, .int x1, .int y186, .int y3, .int y6, .int y6]) hq_160 (show decode prog_7_method_37_code 247 = .ok (.iinc 2 1, 3) by decide +kernel) rfl (by rw [ey186]; rfl) rfl ?_
            refine Ev_goto (tgt := 34) hq_160 (show decode prog_7_method_37_code 250 = .ok (.goto (-216), 3) by decide +kernel) (by decide) ?_
            exact k
set_option maxRecDepth 20000 in
theorem wp_Z_feltBy {X : Nat × (Nat → Int32)} {d : Nat} {G : zG} {I : zI} {res : Option Value × zG × zI} (x1 : Int32) (x2 : Int32) (hS : SG G) 
    (k : z_inr (5 * x1) 20 ∧ (∀ y2 : Int32, y2 = (x2 - (I 60 (5 * x1).toNatClampNeg)) → (0 ≤ y2 → z_inr ((4 * y2) + x1) 124 ∧ (∀ y5 : Int32, y5 = (I 73 ((4 * y2) + x1).toNatClampNeg) → ∃ (r8 : Int32) (I6 : zI), Cv X d 162 [.ref 57, .int x1, .int x2] G I (some (.int r8), G, I6) ∧ (z_inr x1 4 ∧ (∀ y10 : Int32, y10 = (I6 58 x1.toNatClampNeg) → z_inr x1 4 ∧ (∀ y12 : Int32, y12 = (I6 59 x1.toNatClampNeg) → (y10 = 1 → ∀ y14 : Int32, y14 = (y5 - (((2 * y12) + 1) * r8)) → (¬ y10 = 3 → ∃ (r18 : Int32) (I16 : zI), Cv X d 152 [.int y14, .int 0, .int 999] G I6 (some (.int r18), G, I16) ∧ (res = (some (.int r18), G, I16))) ∧ (y10 = 3 → (¬ (y12 + 2) = 0) ∧ ((¬ (x2 - x2 / (y12 + 2) * (y12 + 2)) = (y12 + 1) → ∃ (r23 : Int32) (I21 : zI), Cv X d 152 [.int y14, .int 0, .int 999] G I6 (some (.int r23), G, I21) ∧ (res = (some (.int r23), G, I21))) ∧ ((x2 - x2 / (y12 + 2) * (y12 + 2)) = (y12 + 1) → ∀ y24 : Int32, y24 = (y14 / 2) → ∃ (r27 : Int32) (I25 : zI), Cv X d 152 [.int y24, .int 0, .int 999] G I6 (some (.int r27), G, I25) ∧ (res = (some (.int r27), G, I25)))))) ∧ (¬ y10 = 1 → (¬ y10 = 3 → (¬ y10 = 3 → ∃ (r32 : Int32) (I30 : zI), Cv X d 152 [.int y5, .int 0, .int 999] G I6 (some (.int r32), G, I30) ∧ (res = (some (.int r32), G, I30))) ∧ (y10 = 3 → (¬ (y12 + 2) = 0) ∧ ((¬ (x2 - x2 / (y12 + 2) * (y12 + 2)) = (y12 + 1) → ∃ (r37 : Int32) (I35 : zI), Cv X d 152 [.int y5, .int 0, .int 999] G I6 (some (.int r37), G, I35) ∧ (res = (some (.int r37), G, I35))) ∧ ((x2 - x2 / (y12 + 2) * (y12 + 2)) = (y12 + 1) → ∀ y38 : Int32, y38 = (y5 / 2) → ∃ (r41 : Int32) (I39 : zI), Cv X d 152 [.int y38, .int 0, .int 999] G I6 (some (.int r41), G, I39) ∧ (res = (some (.int r41), G, I39)))))) ∧ (y10 = 3 → ∀ y42 : Int32, y42 = (y5 - (((2 * y12) + 1) * r8)) → (¬ y10 = 3 → ∃ (r46 : Int32) (I44 : zI), Cv X d 152 [.int y42, .int 0, .int 999] G I6 (some (.int r46), G, I44) ∧ (res = (some (.int r46), G, I44))) ∧ (y10 = 3 → (¬ (y12 + 2) = 0) ∧ ((¬ (x2 - x2 / (y12 + 2) * (y12 + 2)) = (y12 + 1) → ∃ (r51 : Int32) (I49 : zI), Cv X d 152 [.int y42, .int 0, .int 999] G I6 (some (.int r51), G, I49) ∧ (res = (some (.int r51), G, I49))) ∧ ((x2 - x2 / (y12 + 2) * (y12 + 2)) = (y12 + 1) → ∀ y52 : Int32, y52 = (y42 / 2) → ∃ (r55 : Int32) (I53 : zI), Cv X d 152 [.int y52, .int 0, .int 999] G I6 (some (.int r55), G, I53) ∧ (res = (some (.int r55), G, I53)))))))))))) ∧ (¬ 0 ≤ y2 → z_inr ((4 * 0) + x1) 124 ∧ (∀ y57 : Int32, y57 = (I 73 ((4 * 0) + x1).toNatClampNeg) → ∃ (r60 : Int32) (I58 : zI), Cv X d 162 [.ref 57, .int x1, .int x2] G I (some (.int r60), G, I58) ∧ (z_inr x1 4 ∧ (∀ y62 : Int32, y62 = (I58 58 x1.toNatClampNeg) → z_inr x1 4 ∧ (∀ y64 : Int32, y64 = (I58 59 x1.toNatClampNeg) → (y62 = 1 → ∀ y66 : Int32, y66 = (y57 - (((2 * y64) + 1) * r60)) → (¬ y62 = 3 → ∃ (r70 : Int32) (I68 : zI), Cv X d 152 [.int y66, .int 0, .int 999] G I58 (some (.int r70), G, I68) ∧ (res = (some (.int r70), G, I68))) ∧ (y62 = 3 → (¬ (y64 + 2) = 0) ∧ ((¬ (x2 - x2 / (y64 + 2) * (y64 + 2)) = (y64 + 1) → ∃ (r75 : Int32) (I73 : zI), Cv X d 152 [.int y66, .int 0, .int 999] G I58 (some (.int r75), G, I73) ∧ (res = (some (.int r75), G, I73))) ∧ ((x2 - x2 / (y64 + 2) * (y64 + 2)) = (y64 + 1) → ∀ y76 : Int32, y76 = (y66 / 2) → ∃ (r79 : Int32) (I77 : zI), Cv X d 152 [.int y76, .int 0, .int 999] G I58 (some (.int r79), G, I77) ∧ (res = (some (.int r79), G, I77)))))) ∧ (¬ y62 = 1 → (¬ y62 = 3 → (¬ y62 = 3 → ∃ (r84 : Int32) (I82 : zI), Cv X d 152 [.int y57, .int 0, .int 999] G I58 (some (.int r84), G, I82) ∧ (res = (some (.int r84), G, I82))) ∧ (y62 = 3 → (¬ (y64 + 2) = 0) ∧ ((¬ (x2 - x2 / (y64 + 2) * (y64 + 2)) = (y64 + 1) → ∃ (r89 : Int32) (I87 : zI), Cv X d 152 [.int y57, .int 0, .int 999] G I58 (some (.int r89), G, I87) ∧ (res = (some (.int r89), G, I87))) ∧ ((x2 - x2 / (y64 + 2) * (y64 + 2)) = (y64 + 1) → ∀ y90 : Int32, y90 = (y57 / 2) → ∃ (r93 : Int32) (I91 : zI), Cv X d 152 [.int y90, .int 0, .int 999] G I58 (some (.int r93), G, I91) ∧ (res = (some (.int r93), G, I91)))))) ∧ (y62 = 3 → ∀ y94 : Int32, y94 = (y57 - (((2 * y64) + 1) * r60)) → (¬ y62 = 3 → ∃ (r98 : Int32) (I96 : zI), Cv X d 152 [.int y94, .int 0, .int 999] G I58 (some (.int r98), G, I96) ∧ (res = (some (.int r98), G, I96))) ∧ (y62 = 3 → (¬ (y64 + 2) = 0) ∧ ((¬ (x2 - x2 / (y64 + 2) * (y64 + 2)) = (y64 + 1) → ∃ (r103 : Int32) (I101 : zI), Cv X d 152 [.int y94, .int 0, .int 999] G I58 (some (.int r103), G, I101) ∧ (res = (some (.int r103), G, I101))) ∧ ((x2 - x2 / (y64 + 2) * (y64 + 2)) = (y64 + 1) → ∀ y104 : Int32, y104 = (y94 / 2) → ∃ (r107 : Int32) (I105 : zI), Cv X d 152 [.int y104, .int 0, .int 999] G I58 (some (.int r107), G, I105) ∧ (res = (some (.int r107), G, I105)))))))))))))) :
    Ev X (d + 1) 161 0 [.ref 57, .int x1, .int x2, zU, zU, zU, zU, zU, zU] [] G I res := by
  refine Ev_iload_n hq_161 (show decode prog_7_method_35_code 0 = .ok (.iload_n 2, 1) by decide +kernel) rfl ?_
  refine Ev_aload_n hq_161 (show decode prog_7_method_35_code 1 = .ok (.aload_n 0, 1) by decide +kernel) rfl ?_
  refine Ev_getR hq_161 (show decode prog_7_method_35_code 2 = .ok (.getfield 16, 3) by decide +kernel) rfl (SGn hS (by decide)) (SGk hS rfl) (by decide) rfl (SGr hS rfl) ?_
  refine Ev_iconst (v := 5) hq_161 (show decode prog_7_method_35_code 5 = .ok (.iconst 5, 1) by decide +kernel) (by decide) ?_
  refine Ev_iload_n hq_161 (show decode prog_7_method_35_code 6 = .ok (.iload_n 1, 1) by decide +kernel) rfl ?_
  refine Ev_imul hq_161 (show decode prog_7_method_35_code 7 = .ok (.imul, 1) by decide +kernel) ?_
  obtain ⟨h1, k⟩ := k
  refine Ev_iald hq_161 (show decode prog_7_method_35_code 8 = .ok (.iaload, 1) by decide +kernel) (SGn hS (by decide)) (SGk hS rfl) (SGi hS rfl h1) ?_
  refine Ev_isub hq_161 (show decode prog_7_method_35_code 9 = .ok (.isub, 1) by decide +kernel) ?_
  obtain ⟨y2, ey2⟩ : ∃ y2 : Int32, y2 = (x2 - (I 60 (5 * x1).toNatClampNeg)) := ⟨_, rfl⟩
  have k := k y2 ey2
  rw [← ey2]
  refine Ev_istore_n (lo2 := [.ref 57, .int x1, .int x2, .int y2, zU, zU, zU, zU, zU]) hq_161 (show decode prog_7_method_35_code 10 = .ok (.istore_n 3, 1) by decide +kernel) (z_le rfl) rfl ?_
  refine Ev_aload_n hq_161 (show decode prog_7_method_35_code 11 = .ok (.aload_n 0, 1) by decide +kernel) rfl ?_
  refine Ev_getR hq_161 (show decode prog_7_method_35_code 12 = .ok (.getfield 55, 3) by decide +kernel) rfl (SGn hS (by decide)) (SGk hS rfl) (by decide) rfl (SGr hS rfl) ?_
  refine Ev_iconst (v := 4) hq_161 (show decode prog_7_method_35_code 15 = .ok (.iconst 4, 1) by decide +kernel) (by decide) ?_
  refine Ev_iload_n hq_161 (show decode prog_7_method_35_code 16 = .ok (.iload_n 3, 1) by decide +kernel) rfl ?_
  refine Ev_if_ge (tgt := 24) hq_161 (show decode prog_7_method_35_code 17 = .ok (.ifCond .ge 7, 3) by decide +kernel) (by decide) (fun c3 => ?_) (fun c3 => ?_)
  · have k := k.1 c3
    refine Ev_iload_n hq_161 (show decode prog_7_method_35_code 24 = .ok (.iload_n 3, 1) by decide +kernel) rfl ?_
    refine Ev_imul hq_161 (show decode prog_7_method_35_code 25 = .ok (.imul, 1) by decide +kernel) ?_
    refine Ev_iload_n hq_161 (show decode prog_7_method_35_code 26 = .ok (.iload_n 1, 1) by decide +kernel) rfl ?_
    refine Ev_iadd hq_161 (show decode prog_7_method_35_code 27 = .ok (.iadd, 1) by decide +kernel) ?_
    obtain ⟨h4, k⟩ := k
    refine Ev_iald hq_161 (show decode prog_7_method_35_code 28 = .ok (.iaload, 1) by decide +kernel) (SGn hS (by decide)) (SGk hS rfl) (SGi hS rfl h4) ?_
    obtain ⟨y5, ey5⟩ : ∃ y5 : Int32, y5 = (I 73 ((4 * y2) + x1).toNatClampNeg) := ⟨_, rfl⟩
    have k := k y5 ey5
    rw [← ey5]
    refine Ev_istore (lo2 := [.ref 57, .int x1, .int x2, .int y2, .int y5, zU, zU, zU, zU]) hq_161 (show decode prog_7_method_35_code 29 = .ok (.istore 4, 2) by decide +kernel) (z_le rfl) rfl ?_
    refine Ev_aload_n hq_161 (show decode prog_7_method_35_code 31 = .ok (.aload_n 0, 1) by decide +kernel) rfl ?_
    refine Ev_iload_n hq_161 (show decode prog_7_method_35_code 32 = .ok (.iload_n 1, 1) by decide +kernel) rfl ?_
    refine Ev_iload_n hq_161 (show decode prog_7_method_35_code 33 = .ok (.iload_n 2, 1) by decide +kernel) rfl ?_
    obtain ⟨r8, I6, h7, k⟩ := k
    refine Ev_virt (as := [.int x1, .int x2]) hq_161 (show decode prog_7_method_35_code 34 = .ok (.invokevirtual 190, 3) by decide +kernel) rfl hq_162 rfl (z_le rfl) ⟨(SGn hS (by decide)), (SGk hS rfl), by decide⟩ h7 ?_
    refine Ev_istore (lo2 := [.ref 57, .int x1, .int x2, .int y2, .int y5, .int r8, zU, zU, zU]) hq_161 (show decode prog_7_method_35_code 37 = .ok (.istore 5, 2) by decide +kernel) (z_le rfl) rfl ?_
    refine Ev_aload_n hq_161 (show decode prog_7_method_35_code 39 = .ok (.aload_n 0, 1) by decide +kernel) rfl ?_
    refine Ev_getR hq_161 (show decode prog_7_method_35_code 40 = .ok (.getfield 7, 3) by decide +kernel) rfl (SGn hS (by decide)) (SGk hS rfl) (by decide) rfl (SGr hS rfl) ?_
    refine Ev_iload_n hq_161 (show decode prog_7_method_35_code 43 = .ok (.iload_n 1, 1) by decide +kernel) rfl ?_
    obtain ⟨h9, k⟩ := k
    refine Ev_iald hq_161 (show decode prog_7_method_35_code 44 = .ok (.iaload, 1) by decide +kernel) (SGn hS (by decide)) (SGk hS rfl) (SGi hS rfl h9) ?_
    obtain ⟨y10, ey10⟩ : ∃ y10 : Int32, y10 = (I6 58 x1.toNatClampNeg) := ⟨_, rfl⟩
    have k := k y10 ey10
    rw [← ey10]
    refine Ev_istore (lo2 := [.ref 57, .int x1, .int x2, .int y2, .int y5, .int r8, .int y10, zU, zU]) hq_161 (show decode prog_7_method_35_code 45 = .ok (.istore 6, 2) by decide +kernel) (z_le rfl) rfl ?_
    refine Ev_aload_n hq_161 (show decode prog_7_method_35_code 47 = .ok (.aload_n 0, 1) by decide +kernel) rfl ?_
    refine Ev_getR hq_161 (show decode prog_7_method_35_code 48 = .ok (.getfield 13, 3) by decide +kernel) rfl (SGn hS (by decide)) (SGk hS rfl) (by decide) rfl (SGr hS rfl) ?_
    refine Ev_iload_n hq_161 (show decode prog_7_method_35_code 51 = .ok (.iload_n 1, 1) by decide +kernel) rfl ?_
    obtain ⟨h11, k⟩ := k
    refine Ev_iald hq_161 (show decode prog_7_method_35_code 52 = .ok (.iaload, 1) by decide +kernel) (SGn hS (by decide)) (SGk hS rfl) (SGi hS rfl h11) ?_
    obtain ⟨y12, ey12⟩ : ∃ y12 : Int32, y12 = (I6 59 x1.toNatClampNeg) := ⟨_, rfl⟩
    have k := k y12 ey12
    rw [← ey12]
    refine Ev_istore (lo2 := [.ref 57, .int x1, .int x2, .int y2, .int y5, .int r8, .int y10, .int y12, zU]) hq_161 (show decode prog_7_method_35_code 53 = .ok (.istore 7, 2) by decide +kernel) (z_le rfl) rfl ?_
    refine Ev_iload hq_161 (show decode prog_7_method_35_code 55 = .ok (.iload 6, 2) by decide +kernel) rfl ?_
    refine Ev_iconst (v := 1) hq_161 (show decode prog_7_method_35_code 57 = .ok (.iconst 1, 1) by decide +kernel) (by decide) ?_
    refine Ev_icmp_eq (tgt := 67) hq_161 (show decode prog_7_method_35_code 58 = .ok (.if_icmp .eq 9, 3) by decide +kernel) (by decide) (fun c13 => ?_) (fun c13 => ?_)
    · have k := k.1 c13
      refine Ev_iload hq_161 (show decode prog_7_method_35_code 67 = .ok (.iload 4, 2) by decide +kernel) rfl ?_
      refine Ev_iconst (v := 2) hq_161 (show decode prog_7_method_35_code 69 = .ok (.iconst 2, 1) by decide +kernel) (by decide) ?_
      refine Ev_iload hq_161 (show decode prog_7_method_35_code 70 = .ok (.iload 7, 2) by decide +kernel) rfl ?_
      refine Ev_imul hq_161 (show decode prog_7_method_35_code 72 = .ok (.imul, 1) by decide +kernel) ?_
      refine Ev_iconst (v := 1) hq_161 (show decode prog_7_method_35_code 73 = .ok (.iconst 1, 1) by decide +kernel) (by decide) ?_
      refine Ev_iadd hq_161 (show decode prog_7_method_35_code 74 = .ok (.iadd, 1) by decide +kernel) ?_
      refine Ev_iload hq_161 (show decode prog_7_method_35_code 75 = .ok (.iload 5, 2) by decide +kernel) rfl ?_
      refine Ev_imul hq_161 (show decode prog_7_method_35_code 77 = .ok (.imul, 1) by decide +kernel) ?_
      refine Ev_isub hq_161 (show decode prog_7_method_35_code 78 = .ok (.isub, 1) by decide +kernel) ?_
      refine Ev_goto (tgt := 84) hq_161 (show decode prog_7_method_35_code 79 = .ok (.goto 5, 3) by decide +kernel) (by decide) ?_
      obtain ⟨y14, ey14⟩ : ∃ y14 : Int32, y14 = (y5 - (((2 * y12) + 1) * r8)) := ⟨_, rfl⟩
      have k := k y14 ey14
      rw [← ey14]
      refine Ev_istore (lo2 := [.ref 57, .int x1, .int x2, .int y2, .int y5, .int r8, .int y10, .int y12, .int y14]) hq_161 (show decode prog_7_method_35_code 84 = .ok (.istore 8, 2) by decide +kernel) (z_le rfl) rfl ?_
      refine Ev_iload hq_161 (show decode prog_7_method_35_code 86 = .ok (.iload 6, 2) by decide +kernel) rfl ?_
      refine Ev_iconst (v := 3) hq_161 (show decode prog_7_method_35_code 88 = .ok (.iconst 3, 1) by decide +kernel) (by decide) ?_
      refine Ev_icmp_ne (tgt := 112) hq_161 (show decode prog_7_method_35_code 89 = .ok (.if_icmp .ne 23, 3) by decide +kernel) (by decide) (fun c15 => ?_) (fun c15 => ?_)
      · have k := k.1 c15
        refine Ev_iload hq_161 (show decode prog_7_method_35_code 112 = .ok (.iload 8, 2) by decide +kernel) rfl ?_
        refine Ev_istore (lo2 := [.ref 57, .int x1, .int x2, .int y2, .int y5, .int r8, .int y10, .int y12, .int y14]) hq_161 (show decode prog_7_method_35_code 114 = .ok (.istore 8, 2) by decide +kernel) (z_le rfl) rfl ?_
        refine Ev_iload hq_161 (show decode prog_7_method_35_code 116 = .ok (.iload 8, 2) by decide +kernel) rfl ?_
        refine Ev_iconst (v := 0) hq_161 (show decode prog_7_method_35_code 118 = .ok (.iconst 0, 1) by decide +kernel) (by decide) ?_
        refine Ev_sipush (v := 999) hq_161 (show decode prog_7_method_35_code 119 = .ok (.sipush 999, 3) by decide +kernel) (by decide) ?_
        obtain ⟨r18, I16, h17, k⟩ := k
        refine Ev_stat (as := [.int y14, .int 0, .int 999]) hq_161 (show decode prog_7_method_35_code 122 = .ok (.invokestatic 173, 3) by decide +kernel) rfl (Or.inl rfl) hq_152 rfl (z_le rfl) h17 ?_
        exact Ev_iret hq_161 (show decode prog_7_method_35_code 125 = .ok (.ireturn, 1) by decide +kernel) rfl k
      · have k := k.2 (Classical.not_not.mp c15)
        refine Ev_iload_n hq_161 (show decode prog_7_method_35_code 92 = .ok (.iload_n 2, 1) by decide +kernel) rfl ?_
        refine Ev_iload hq_161 (show decode prog_7_method_35_code 93 = .ok (.iload 7, 2) by decide +kernel) rfl ?_
        refine Ev_iconst (v := 2) hq_161 (show decode prog_7_method_35_code 95 = .ok (.iconst 2, 1) by decide +kernel) (by decide) ?_
        refine Ev_iadd hq_161 (show decode prog_7_method_35_code 96 = .ok (.iadd, 1) by decide +kernel) ?_
        obtain ⟨h19, k⟩ := k
        refine Ev_irem hq_161 (show decode prog_7_method_35_code 97 = .ok (.irem, 1) by decide +kernel) h19 ?_
        refine Ev_iload hq_161 (show decode prog_7_method_35_code 98 = .ok (.iload 7, 2) by decide +kernel) rfl ?_
        refine Ev_iconst (v := 1) hq_161 (show decode prog_7_method_35_code 100 = .ok (.iconst 1, 1) by decide +kernel) (by decide) ?_
        refine Ev_iadd hq_161 (show decode prog_7_method_35_code 101 = .ok (.iadd, 1) by decide +kernel) ?_
        refine Ev_icmp_ne (tgt := 112) hq_161 (show decode prog_7_method_35_code 102 = .ok (.if_icmp .ne 10, 3) by decide +kernel) (by decide) (fun c20 => ?_) (fun c20 => ?_)
        · have k := k.1 c20
          refine Ev_iload hq_161 (show decode prog_7_method_35_code 112 = .ok (.iload 8, 2) by decide +kernel) rfl ?_
          refine Ev_istore (lo2 := [.ref 57, .int x1, .int x2, .int y2, .int y5, .int r8, .int y10, .int y12, .int y14]) hq_161 (show decode prog_7_method_35_code 114 = .ok (.istore 8, 2) by decide +kernel) (z_le rfl) rfl ?_
          refine Ev_iload hq_161 (show decode prog_7_method_35_code 116 = .ok (.iload 8, 2) by decide +kernel) rfl ?_
          refine Ev_iconst (v := 0) hq_161 (show decode prog_7_method_35_code 118 = .ok (.iconst 0, 1) by decide +kernel) (by decide) ?_
          refine Ev_sipush (v := 999) hq_161 (show decode prog_7_method_35_code 119 = .ok (.sipush 999, 3) by decide +kernel) (by decide) ?_
          obtain ⟨r23, I21, h22, k⟩ := k
          refine Ev_stat (as := [.int y14, .int 0, .int 999]) hq_161 (show decode prog_7_method_35_code 122 = .ok (.invokestatic 173, 3) by decide +kernel) rfl (Or.inl rfl) hq_152 rfl (z_le rfl) h22 ?_
          exact Ev_iret hq_161 (show decode prog_7_method_35_code 125 = .ok (.ireturn, 1) by decide +kernel) rfl k
        · have k := k.2 (Classical.not_not.mp c20)
          refine Ev_iload hq_161 (show decode prog_7_method_35_code 105 = .ok (.iload 8, 2) by decide +kernel) rfl ?_
          refine Ev_iconst (v := 2) hq_161 (show decode prog_7_method_35_code 107 = .ok (.iconst 2, 1) by decide +kernel) (by decide) ?_
          refine Ev_idiv hq_161 (show decode prog_7_method_35_code 108 = .ok (.idiv, 1) by decide +kernel) (by decide) ?_
          refine Ev_goto (tgt := 114) hq_161 (show decode prog_7_method_35_code 109 = .ok (.goto 5, 3) by decide +kernel) (by decide) ?_
          obtain ⟨y24, ey24⟩ : ∃ y24 : Int32, y24 = (y14 / 2) := ⟨_, rfl⟩
          have k := k y24 ey24
          rw [← ey24]
          refine Ev_istore (lo2 := [.ref 57, .int x1, .int x2, .int y2, .int y5, .int r8, .int y10, .int y12, .int y24]) hq_161 (show decode prog_7_method_35_code 114 = .ok (.istore 8, 2) by decide +kernel) (z_le rfl) rfl ?_
          refine Ev_iload hq_161 (show decode prog_7_method_35_code 116 = .ok (.iload 8, 2) by decide +kernel) rfl ?_
          refine Ev_iconst (v := 0) hq_161 (show decode prog_7_method_35_code 118 = .ok (.iconst 0, 1) by decide +kernel) (by decide) ?_
          refine Ev_sipush (v := 999) hq_161 (show decode prog_7_method_35_code 119 = .ok (.sipush 999, 3) by decide +kernel) (by decide) ?_
          obtain ⟨r27, I25, h26, k⟩ := k
          refine Ev_stat (as := [.int y24, .int 0, .int 999]) hq_161 (show decode prog_7_method_35_code 122 = .ok (.invokestatic 173, 3) by decide +kernel) rfl (Or.inl rfl) hq_152 rfl (z_le rfl) h26 ?_
          exact Ev_iret hq_161 (show decode prog_7_method_35_code 125 = .ok (.ireturn, 1) by decide +kernel) rfl k
    · have k := k.2 c13
      refine Ev_iload hq_161 (show decode prog_7_method_35_code 61 = .ok (.iload 6, 2) by decide +kernel) rfl ?_
      refine Ev_iconst (v := 3) hq_161 (show decode prog_7_method_35_code 63 = .ok (.iconst 3, 1) by decide +kernel) (by decide) ?_
      refine Ev_icmp_ne (tgt := 82) hq_161 (show decode prog_7_method_35_code 64 = .ok (.if_icmp .ne 18, 3) by decide +kernel) (by decide) (fun c28 => ?_) (fun c28 => ?_)
      · have k := k.1 c28
        refine Ev_iload hq_161 (show decode prog_7_method_35_code 82 = .ok (.iload 4, 2) by decide +kernel) rfl ?_
        refine Ev_istore (lo2 := [.ref 57, .int x1, .int x2, .int y2, .int y5, .int r8, .int y10, .int y12, .int y5]) hq_161 (show decode prog_7_method_35_code 84 = .ok (.istore 8, 2) by decide +kernel) (z_le rfl) rfl ?_
        refine Ev_iload hq_161 (show decode prog_7_method_35_code 86 = .ok (.iload 6, 2) by decide +kernel) rfl ?_
        refine Ev_iconst (v := 3) hq_161 (show decode prog_7_method_35_code 88 = .ok (.iconst 3, 1) by decide +kernel) (by decide) ?_
        refine Ev_icmp_ne (tgt := 112) hq_161 (show decode prog_7_method_35_code 89 = .ok (.if_icmp .ne 23, 3) by decide +kernel) (by decide) (fun c29 => ?_) (fun c29 => ?_)
        · have k := k.1 c29
          refine Ev_iload hq_161 (show decode prog_7_method_35_code 112 = .ok (.iload 8, 2) by decide +kernel) rfl ?_
          refine Ev_istore (lo2 := [.ref 57, .int x1, .int x2, .int y2, .int y5, .int r8, .int y10, .int y12, .int y5]) hq_161 (show decode prog_7_method_35_code 114 = .ok (.istore 8, 2) by decide +kernel) (z_le rfl) rfl ?_
          refine Ev_iload hq_161 (show decode prog_7_method_35_code 116 = .ok (.iload 8, 2) by decide +kernel) rfl ?_
          refine Ev_iconst (v := 0) hq_161 (show decode prog_7_method_35_code 118 = .ok (.iconst 0, 1) by decide +kernel) (by decide) ?_
          refine Ev_sipush (v := 999) hq_161 (show decode prog_7_method_35_code 119 = .ok (.sipush 999, 3) by decide +kernel) (by decide) ?_
          obtain ⟨r32, I30, h31, k⟩ := k
          refine Ev_stat (as := [.int y5, .int 0, .int 999]) hq_161 (show decode prog_7_method_35_code 122 = .ok (.invokestatic 173, 3) by decide +kernel) rfl (Or.inl rfl) hq_152 rfl (z_le rfl) h31 ?_
          exact Ev_iret hq_161 (show decode prog_7_method_35_code 125 = .ok (.ireturn, 1) by decide +kernel) rfl k
        · have k := k.2 (Classical.not_not.mp c29)
          refine Ev_iload_n hq_161 (show decode prog_7_method_35_code 92 = .ok (.iload_n 2, 1) by decide +kernel) rfl ?_
          refine Ev_iload hq_161 (show decode prog_7_method_35_code 93 = .ok (.iload 7, 2) by decide +kernel) rfl ?_
          refine Ev_iconst (v := 2) hq_161 (show decode prog_7_method_35_code 95 = .ok (.iconst 2, 1) by decide +kernel) (by decide) ?_
          refine Ev_iadd hq_161 (show decode prog_7_method_35_code 96 = .ok (.iadd, 1) by decide +kernel) ?_
          obtain ⟨h33, k⟩ := k
          refine Ev_irem hq_161 (show decode prog_7_method_35_code 97 = .ok (.irem, 1) by decide +kernel) h33 ?_
          refine Ev_iload hq_161 (show decode prog_7_method_35_code 98 = .ok (.iload 7, 2) by decide +kernel) rfl ?_
          refine Ev_iconst (v := 1) hq_161 (show decode prog_7_method_35_code 100 = .ok (.iconst 1, 1) by decide +kernel) (by decide) ?_
          refine Ev_iadd hq_161 (show decode prog_7_method_35_code 101 = .ok (.iadd, 1) by decide +kernel) ?_
          refine Ev_icmp_ne (tgt := 112) hq_161 (show decode prog_7_method_35_code 102 = .ok (.if_icmp .ne 10, 3) by decide +kernel) (by decide) (fun c34 => ?_) (fun c34 => ?_)
          · have k := k.1 c34
            refine Ev_iload hq_161 (show decode prog_7_method_35_code 112 = .ok (.iload 8, 2) by decide +kernel) rfl ?_
            refine Ev_istore (lo2 := [.ref 57, .int x1, .int x2, .int y2, .int y5, .int r8, .int y10, .int y12, .int y5]) hq_161 (show decode prog_7_method_35_code 114 = .ok (.istore 8, 2) by decide +kernel) (z_le rfl) rfl ?_
            refine Ev_iload hq_161 (show decode prog_7_method_35_code 116 = .ok (.iload 8, 2) by decide +kernel) rfl ?_
            refine Ev_iconst (v := 0) hq_161 (show decode prog_7_method_35_code 118 = .ok (.iconst 0, 1) by decide +kernel) (by decide) ?_
            refine Ev_sipush (v := 999) hq_161 (show decode prog_7_method_35_code 119 = .ok (.sipush 999, 3) by decide +kernel) (by decide) ?_
            obtain ⟨r37, I35, h36, k⟩ := k
            refine Ev_stat (as := [.int y5, .int 0, .int 999]) hq_161 (show decode prog_7_method_35_code 122 = .ok (.invokestatic 173, 3) by decide +kernel) rfl (Or.inl rfl) hq_152 rfl (z_le rfl) h36 ?_
            exact Ev_iret hq_161 (show decode prog_7_method_35_code 125 = .ok (.ireturn, 1) by decide +kernel) rfl k
          · have k := k.2 (Classical.not_not.mp c34)
            refine Ev_iload hq_161 (show decode prog_7_method_35_code 105 = .ok (.iload 8, 2) by decide +kernel) rfl ?_
            refine Ev_iconst (v := 2) hq_161 (show decode prog_7_method_35_code 107 = .ok (.iconst 2, 1) by decide +kernel) (by decide) ?_
            refine Ev_idiv hq_161 (show decode prog_7_method_35_code 108 = .ok (.idiv, 1) by decide +kernel) (by decide) ?_
            refine Ev_goto (tgt := 114) hq_161 (show decode prog_7_method_35_code 109 = .ok (.goto 5, 3) by decide +kernel) (by decide) ?_
            obtain ⟨y38, ey38⟩ : ∃ y38 : Int32, y38 = (y5 / 2) := ⟨_, rfl⟩
            have k := k y38 ey38
            rw [← ey38]
            refine Ev_istore (lo2 := [.ref 57, .int x1, .int x2, .int y2, .int y5, .int r8, .int y10, .int y12, .int y38]) hq_161 (show decode prog_7_method_35_code 114 = .ok (.istore 8, 2) by decide +kernel) (z_le rfl) rfl ?_
            refine Ev_iload hq_161 (show decode prog_7_method_35_code 116 = .ok (.iload 8, 2) by decide +kernel) rfl ?_
            refine Ev_iconst (v := 0) hq_161 (show decode prog_7_method_35_code 118 = .ok (.iconst 0, 1) by decide +kernel) (by decide) ?_
            refine Ev_sipush (v := 999) hq_161 (show decode prog_7_method_35_code 119 = .ok (.sipush 999, 3) by decide +kernel) (by decide) ?_
            obtain ⟨r41, I39, h40, k⟩ := k
            refine Ev_stat (as := [.int y38, .int 0, .int 999]) hq_161 (show decode prog_7_method_35_code 122 = .ok (.invokestatic 173, 3) by decide +kernel) rfl (Or.inl rfl) hq_152 rfl (z_le rfl) h40 ?_
            exact Ev_iret hq_161 (show decode prog_7_method_35_code 125 = .ok (.ireturn, 1) by decide +kernel) rfl k
      · have k := k.2 (Classical.not_not.mp c28)
        refine Ev_iload hq_161 (show decode prog_7_method_35_code 67 = .ok (.iload 4, 2) by decide +kernel) rfl ?_
        refine Ev_iconst (v := 2) hq_161 (show decode prog_7_method_35_code 69 = .ok (.iconst 2, 1) by decide +kernel) (by decide) ?_
        refine Ev_iload hq_161 (show decode prog_7_method_35_code 70 = .ok (.iload 7, 2) by decide +kernel) rfl ?_
        refine Ev_imul hq_161 (show decode prog_7_method_35_code 72 = .ok (.imul, 1) by decide +kernel) ?_
        refine Ev_iconst (v := 1) hq_161 (show decode prog_7_method_35_code 73 = .ok (.iconst 1, 1) by decide +kernel) (by decide) ?_
        refine Ev_iadd hq_161 (show decode prog_7_method_35_code 74 = .ok (.iadd, 1) by decide +kernel) ?_
        refine Ev_iload hq_161 (show decode prog_7_method_35_code 75 = .ok (.iload 5, 2) by decide +kernel) rfl ?_
        refine Ev_imul hq_161 (show decode prog_7_method_35_code 77 = .ok (.imul, 1) by decide +kernel) ?_
        refine Ev_isub hq_161 (show decode prog_7_method_35_code 78 = .ok (.isub, 1) by decide +kernel) ?_
        refine Ev_goto (tgt := 84) hq_161 (show decode prog_7_method_35_code 79 = .ok (.goto 5, 3) by decide +kernel) (by decide) ?_
        obtain ⟨y42, ey42⟩ : ∃ y42 : Int32, y42 = (y5 - (((2 * y12) + 1) * r8)) := ⟨_, rfl⟩
        have k := k y42 ey42
        rw [← ey42]
        refine Ev_istore (lo2 := [.ref 57, .int x1, .int x2, .int y2, .int y5, .int r8, .int y10, .int y12, .int y42]) hq_161 (show decode prog_7_method_35_code 84 = .ok (.istore 8, 2) by decide +kernel) (z_le rfl) rfl ?_
        refine Ev_iload hq_161 (show decode prog_7_method_35_code 86 = .ok (.iload 6, 2) by decide +kernel) rfl ?_
        refine Ev_iconst (v := 3) hq_161 (show decode prog_7_method_35_code 88 = .ok (.iconst 3, 1) by decide +kernel) (by decide) ?_
        refine Ev_icmp_ne (tgt := 112) hq_161 (show decode prog_7_method_35_code 89 = .ok (.if_icmp .ne 23, 3) by decide +kernel) (by decide) (fun c43 => ?_) (fun c43 => ?_)
        · have k := k.1 c43
          refine Ev_iload hq_161 (show decode prog_7_method_35_code 112 = .ok (.iload 8, 2) by decide +kernel) rfl ?_
          refine Ev_istore (lo2 := [.ref 57, .int x1, .int x2, .int y2, .int y5, .int r8, .int y10, .int y12, .int y42]) hq_161 (show decode prog_7_method_35_code 114 = .ok (.istore 8, 2) by decide +kernel) (z_le rfl) rfl ?_
          refine Ev_iload hq_161 (show decode prog_7_method_35_code 116 = .ok (.iload 8, 2) by decide +kernel) rfl ?_
          refine Ev_iconst (v := 0) hq_161 (show decode prog_7_method_35_code 118 = .ok (.iconst 0, 1) by decide +kernel) (by decide) ?_
          refine Ev_sipush (v := 999) hq_161 (show decode prog_7_method_35_code 119 = .ok (.sipush 999, 3) by decide +kernel) (by decide) ?_
          obtain ⟨r46, I44, h45, k⟩ := k
          refine Ev_stat (as := [.int y42, .int 0, .int 999]) hq_161 (show decode prog_7_method_35_code 122 = .ok (.invokestatic 173, 3) by decide +kernel) rfl (Or.inl rfl) hq_152 rfl (z_le rfl) h45 ?_
          exact Ev_iret hq_161 (show decode prog_7_method_35_code 125 = .ok (.ireturn, 1) by decide +kernel) rfl k
        · have k := k.2 (Classical.not_not.mp c43)
          refine Ev_iload_n hq_161 (show decode prog_7_method_35_code 92 = .ok (.iload_n 2, 1) by decide +kernel) rfl ?_
          refine Ev_iload hq_161 (show decode prog_7_method_35_code 93 = .ok (.iload 7, 2) by decide +kernel) rfl ?_
          refine Ev_iconst (v := 2) hq_161 (show decode prog_7_method_35_code 95 = .ok (.iconst 2, 1) by decide +kernel) (by decide) ?_
          refine Ev_iadd hq_161 (show decode prog_7_method_35_code 96 = .ok (.iadd, 1) by decide +kernel) ?_
          obtain ⟨h47, k⟩ := k
          refine Ev_irem hq_161 (show decode prog_7_method_35_code 97 = .ok (.irem, 1) by decide +kernel) h47 ?_
          refine Ev_iload hq_161 (show decode prog_7_method_35_code 98 = .ok (.iload 7, 2) by decide +kernel) rfl ?_
          refine Ev_iconst (v := 1) hq_161 (show decode prog_7_method_35_code 100 = .ok (.iconst 1, 1) by decide +kernel) (by decide) ?_
          refine Ev_iadd hq_161 (show decode prog_7_method_35_code 101 = .ok (.iadd, 1) by decide +kernel) ?_
          refine Ev_icmp_ne (tgt := 112) hq_161 (show decode prog_7_method_35_code 102 = .ok (.if_icmp .ne 10, 3) by decide +kernel) (by decide) (fun c48 => ?_) (fun c48 => ?_)
          · have k := k.1 c48
            refine Ev_iload hq_161 (show decode prog_7_method_35_code 112 = .ok (.iload 8, 2) by decide +kernel) rfl ?_
            refine Ev_istore (lo2 := [.ref 57, .int x1, .int x2, .int y2, .int y5, .int r8, .int y10, .int y12, .int y42]) hq_161 (show decode prog_7_method_35_code 114 = .ok (.istore 8, 2) by decide +kernel) (z_le rfl) rfl ?_
            refine Ev_iload hq_161 (show decode prog_7_method_35_code 116 = .ok (.iload 8, 2) by decide +kernel) rfl ?_
            refine Ev_iconst (v := 0) hq_161 (show decode prog_7_method_35_code 118 = .ok (.iconst 0, 1) by decide +kernel) (by decide) ?_
            refine Ev_sipush (v := 999) hq_161 (show decode prog_7_method_35_code 119 = .ok (.sipush 999, 3) by decide +kernel) (by decide) ?_
            obtain ⟨r51, I49, h50, k⟩ := k
            refine Ev_stat (as := [.int y42, .int 0, .int 999]) hq_161 (show decode prog_7_method_35_code 122 = .ok (.invokestatic 173, 3) by decide +kernel) rfl (Or.inl rfl) hq_152 rfl (z_le rfl) h50 ?_
            exact Ev_iret hq_161 (show decode prog_7_method_35_code 125 = .ok (.ireturn, 1) by decide +kernel) rfl k
          · have k := k.2 (Classical.not_not.mp c48)
            refine Ev_iload hq_161 (show decode prog_7_method_35_code 105 = .ok (.iload 8, 2) by decide +kernel) rfl ?_
            refine Ev_iconst (v := 2) hq_161 (show decode prog_7_method_35_code 107 = .ok (.iconst 2, 1) by decide +kernel) (by decide) ?_
            refine Ev_idiv hq_161 (show decode prog_7_method_35_code 108 = .ok (.idiv, 1) by decide +kernel) (by decide) ?_
            refine Ev_goto (tgt := 114) hq_161 (show decode prog_7_method_35_code 109 = .ok (.goto 5, 3) by decide +kernel) (by decide) ?_
            obtain ⟨y52, ey52⟩ : ∃ y52 : Int32, y52 = (y42 / 2) := ⟨_, rfl⟩
            have k := k y52 ey52
            rw [← ey52]
            refine Ev_istore (lo2 := [.ref 57, .int x1, .int x2, .int y2, .int y5, .int r8, .int y10, .int y12, .int y52]) hq_161 (show decode prog_7_method_35_code 114 = .ok (.istore 8, 2) by decide +kernel) (z_le rfl) rfl ?_
            refine Ev_iload hq_161 (show decode prog_7_method_35_code 116 = .ok (.iload 8, 2) by decide +kernel) rfl ?_
            refine Ev_iconst (v := 0) hq_161 (show decode prog_7_method_35_code 118 = .ok (.iconst 0, 1) by decide +kernel) (by decide) ?_
            refine Ev_sipush (v := 999) hq_161 (show decode prog_7_method_35_code 119 = .ok (.sipush 999, 3) by decide +kernel) (by decide) ?_
            obtain ⟨r55, I53, h54, k⟩ := k
            refine Ev_stat (as := [.int y52, .int 0, .int 999]) hq_161 (show decode prog_7_method_35_code 122 = .ok (.invokestatic 173, 3) by decide +kernel) rfl (Or.inl rfl) hq_152 rfl (z_le rfl) h54 ?_
            exact Ev_iret hq_161 (show decode prog_7_method_35_code 125 = .ok (.ireturn, 1) by decide +kernel) rfl k
  · have k := k.2 c3
    refine Ev_iconst (v := 0) hq_161 (show decode prog_7_method_35_code 20 = .ok (.iconst 0, 1) by decide +kernel) (by decide) ?_
    refine Ev_goto (tgt := 25) hq_161 (show decode prog_7_method_35_code 21 = .ok (.goto 4, 3) by decide +kernel) (by decide) ?_
    refine Ev_imul hq_161 (show decode prog_7_method_35_code 25 = .ok (.imul, 1) by decide +kernel) ?_
    refine Ev_iload_n hq_161 (show decode prog_7_method_35_code 26 = .ok (.iload_n 1, 1) by decide +kernel) rfl ?_
    refine Ev_iadd hq_161 (show decode prog_7_method_35_code 27 = .ok (.iadd, 1) by decide +kernel) ?_
    obtain ⟨h56, k⟩ := k
    refine Ev_iald hq_161 (show decode prog_7_method_35_code 28 = .ok (.iaload, 1) by decide +kernel) (SGn hS (by decide)) (SGk hS rfl) (SGi hS rfl h56) ?_
    obtain ⟨y57, ey57⟩ : ∃ y57 : Int32, y57 = (I 73 ((4 * 0) + x1).toNatClampNeg) := ⟨_, rfl⟩
    have k := k y57 ey57
    rw [← ey57]
    refine Ev_istore (lo2 := [.ref 57, .int x1, .int x2, .int y2, .int y57, zU, zU, zU, zU]) hq_161 (show decode prog_7_method_35_code 29 = .ok (.istore 4, 2) by decide +kernel) (z_le rfl) rfl ?_
    refine Ev_aload_n hq_161 (show decode prog_7_method_35_code 31 = .ok (.aload_n 0, 1) by decide +kernel) rfl ?_
    refine Ev_iload_n hq_161 (show decode prog_7_method_35_code 32 = .ok (.iload_n 1, 1) by decide +kernel) rfl ?_
    refine Ev_iload_n hq_161 (show decode prog_7_method_35_code 33 = .ok (.iload_n 2, 1) by decide +kernel) rfl ?_
    obtain ⟨r60, I58, h59, k⟩ := k
    refine Ev_virt (as := [.int x1, .int x2]) hq_161 (show decode prog_7_method_35_code 34 = .ok (.invokevirtual 190, 3) by decide +kernel) rfl hq_162 rfl (z_le rfl) ⟨(SGn hS (by decide)), (SGk hS rfl), by decide⟩ h59 ?_
    refine Ev_istore (lo2 := [.ref 57, .int x1, .int x2, .int y2, .int y57, .int r60, zU, zU, zU]) hq_161 (show decode prog_7_method_35_code 37 = .ok (.istore 5, 2) by decide +kernel) (z_le rfl) rfl ?_
    refine Ev_aload_n hq_161 (show decode prog_7_method_35_code 39 = .ok (.aload_n 0, 1) by decide +kernel) rfl ?_
    refine Ev_getR hq_161 (show decode prog_7_method_35_code 40 = .ok (.getfield 7, 3) by decide +kernel) rfl (SGn hS (by decide)) (SGk hS rfl) (by decide) rfl (SGr hS rfl) ?_
    refine Ev_iload_n hq_161 (show decode prog_7_method_35_code 43 = .ok (.iload_n 1, 1) by decide +kernel) rfl ?_
    obtain ⟨h61, k⟩ := k
    refine Ev_iald hq_161 (show decode prog_7_method_35_code 44 = .ok (.iaload, 1) by decide +kernel) (SGn hS (by decide)) (SGk hS rfl) (SGi hS rfl h61) ?_
    obtain ⟨y62, ey62⟩ : ∃ y62 : Int32, y62 = (I58 58 x1.toNatClampNeg) := ⟨_, rfl⟩
    have k := k y62 ey62
    rw [← ey62]
    refine Ev_istore (lo2 := [.ref 57, .int x1, .int x2, .int y2, .int y57, .int r60, .int y62, zU, zU]) hq_161 (show decode prog_7_method_35_code 45 = .ok (.istore 6, 2) by decide +kernel) (z_le rfl) rfl ?_
    refine Ev_aload_n hq_161 (show decode prog_7_method_35_code 47 = .ok (.aload_n 0, 1) by decide +kernel) rfl ?_
    refine Ev_getR hq_161 (show decode prog_7_method_35_code 48 = .ok (.getfield 13, 3) by decide +kernel) rfl (SGn hS (by decide)) (SGk hS rfl) (by decide) rfl (SGr hS rfl) ?_
    refine Ev_iload_n hq_161 (show decode prog_7_method_35_code 51 = .ok (.iload_n 1, 1) by decide +kernel) rfl ?_
    obtain ⟨h63, k⟩ := k
    refine Ev_iald hq_161 (show decode prog_7_method_35_code 52 = .ok (.iaload, 1) by decide +kernel) (SGn hS (by decide)) (SGk hS rfl) (SGi hS rfl h63) ?_
    obtain ⟨y64, ey64⟩ : ∃ y64 : Int32, y64 = (I58 59 x1.toNatClampNeg) := ⟨_, rfl⟩
    have k := k y64 ey64
    rw [← ey64]
    refine Ev_istore (lo2 := [.ref 57, .int x1, .int x2, .int y2, .int y57, .int r60, .int y62, .int y64, zU]) hq_161 (show decode prog_7_method_35_code 53 = .ok (.istore 7, 2) by decide +kernel) (z_le rfl) rfl ?_
    refine Ev_iload hq_161 (show decode prog_7_method_35_code 55 = .ok (.iload 6, 2) by decide +kernel) rfl ?_
    refine Ev_iconst (v := 1) hq_161 (show decode prog_7_method_35_code 57 = .ok (.iconst 1, 1) by decide +kernel) (by decide) ?_
    refine Ev_icmp_eq (tgt := 67) hq_161 (show decode prog_7_method_35_code 58 = .ok (.if_icmp .eq 9, 3) by decide +kernel) (by decide) (fun c65 => ?_) (fun c65 => ?_)
    · have k := k.1 c65
      refine Ev_iload hq_161 (show decode prog_7_method_35_code 67 = .ok (.iload 4, 2) by decide +kernel) rfl ?_
      refine Ev_iconst (v := 2) hq_161 (show decode prog_7_method_35_code 69 = .ok (.iconst 2, 1) by decide +kernel) (by decide) ?_
      refine Ev_iload hq_161 (show decode prog_7_method_35_code 70 = .ok (.iload 7, 2) by decide +kernel) rfl ?_
      refine Ev_imul hq_161 (show decode prog_7_method_35_code 72 = .ok (.imul, 1) by decide +kernel) ?_
      refine Ev_iconst (v := 1) hq_161 (show decode prog_7_method_35_code 73 = .ok (.iconst 1, 1) by decide +kernel) (by decide) ?_
      refine Ev_iadd hq_161 (show decode prog_7_method_35_code 74 = .ok (.iadd, 1) by decide +kernel) ?_
      refine Ev_iload hq_161 (show decode prog_7_method_35_code 75 = .ok (.iload 5, 2) by decide +kernel) rfl ?_
      refine Ev_imul hq_161 (show decode prog_7_method_35_code 77 = .ok (.imul, 1) by decide +kernel) ?_
      refine Ev_isub hq_161 (show decode prog_7_method_35_code 78 = .ok (.isub, 1) by decide +kernel) ?_
      refine Ev_goto (tgt := 84) hq_161 (show decode prog_7_method_35_code 79 = .ok (.goto 5, 3) by decide +kernel) (by decide) ?_
      obtain ⟨y66, ey66⟩ : ∃ y66 : Int32, y66 = (y57 - (((2 * y64) + 1) * r60)) := ⟨_, rfl⟩
      have k := k y66 ey66
      rw [← ey66]
      refine Ev_istore (lo2 := [.ref 57, .int x1, .int x2, .int y2, .int y57, .int r60, .int y62, .int y64, .int y66]) hq_161 (show decode prog_7_method_35_code 84 = .ok (.istore 8, 2) by decide +kernel) (z_le rfl) rfl ?_
      refine Ev_iload hq_161 (show decode prog_7_method_35_code 86 = .ok (.iload 6, 2) by decide +kernel) rfl ?_
      refine Ev_iconst (v := 3) hq_161 (show decode prog_7_method_35_code 88 = .ok (.iconst 3, 1) by decide +kernel) (by decide) ?_
      refine Ev_icmp_ne (tgt := 112) hq_161 (show decode prog_7_method_35_code 89 = .ok (.if_icmp .ne 23, 3) by decide +kernel) (by decide) (fun c67 => ?_) (fun c67 => ?_)
      · have k := k.1 c67
        refine Ev_iload hq_161 (show decode prog_7_method_35_code 112 = .ok (.iload 8, 2) by decide +kernel) rfl ?_
        refine Ev_istore (lo2 := [.ref 57, .int x1, .int x2, .int y2, .int y57, .int r60, .int y62, .int y64, .int y66]) hq_161 (show decode prog_7_method_35_code 114 = .ok (.istore 8, 2) by decide +kernel) (z_le rfl) rfl ?_
        refine Ev_iload hq_161 (show decode prog_7_method_35_code 116 = .ok (.iload 8, 2) by decide +kernel) rfl ?_
        refine Ev_iconst (v := 0) hq_161 (show decode prog_7_method_35_code 118 = .ok (.iconst 0, 1) by decide +kernel) (by decide) ?_
        refine Ev_sipush (v := 999) hq_161 (show decode prog_7_method_35_code 119 = .ok (.sipush 999, 3) by decide +kernel) (by decide) ?_
        obtain ⟨r70, I68, h69, k⟩ := k
        refine Ev_stat (as := [.int y66, .int 0, .int 999]) hq_161 (show decode prog_7_method_35_code 122 = .ok (.invokestatic 173, 3) by decide +kernel) rfl (Or.inl rfl) hq_152 rfl (z_le rfl) h69 ?_
        exact Ev_iret hq_161 (show decode prog_7_method_35_code 125 = .ok (.ireturn, 1) by decide +kernel) rfl k
      · have k := k.2 (Classical.not_not.mp c67)
        refine Ev_iload_n hq_161 (show decode prog_7_method_35_code 92 = .ok (.iload_n 2, 1) by decide +kernel) rfl ?_
        refine Ev_iload hq_161 (show decode prog_7_method_35_code 93 = .ok (.iload 7, 2) by decide +kernel) rfl ?_
        refine Ev_iconst (v := 2) hq_161 (show decode prog_7_method_35_code 95 = .ok (.iconst 2, 1) by decide +kernel) (by decide) ?_
        refine Ev_iadd hq_161 (show decode prog_7_method_35_code 96 = .ok (.iadd, 1) by decide +kernel) ?_
        obtain ⟨h71, k⟩ := k
        refine Ev_irem hq_161 (show decode prog_7_method_35_code 97 = .ok (.irem, 1) by decide +kernel) h71 ?_
        refine Ev_iload hq_161 (show decode prog_7_method_35_code 98 = .ok (.iload 7, 2) by decide +kernel) rfl ?_
        refine Ev_iconst (v := 1) hq_161 (show decode prog_7_method_35_code 100 = .ok (.iconst 1, 1) by decide +kernel) (by decide) ?_
        refine Ev_iadd hq_161 (show decode prog_7_method_35_code 101 = .ok (.iadd, 1) by decide +kernel) ?_
        refine Ev_icmp_ne (tgt := 112) hq_161 (show decode prog_7_method_35_code 102 = .ok (.if_icmp .ne 10, 3) by decide +kernel) (by decide) (fun c72 => ?_) (fun c72 => ?_)
        · have k := k.1 c72
          refine Ev_iload hq_161 (show decode prog_7_method_35_code 112 = .ok (.iload 8, 2) by decide +kernel) rfl ?_
          refine Ev_istore (lo2 := [.ref 57, .int x1, .int x2, .int y2, .int y57, .int r60, .int y62, .int y64, .int y66]) hq_161 (show decode prog_7_method_35_code 114 = .ok (.istore 8, 2) by decide +kernel) (z_le rfl) rfl ?_
          refine Ev_iload hq_161 (show decode prog_7_method_35_code 116 = .ok (.iload 8, 2) by decide +kernel) rfl ?_
          refine Ev_iconst (v := 0) hq_161 (show decode prog_7_method_35_code 118 = .ok (.iconst 0, 1) by decide +kernel) (by decide) ?_
          refine Ev_sipush (v := 999) hq_161 (show decode prog_7_method_35_code 119 = .ok (.sipush 999, 3) by decide +kernel) (by decide) ?_
          obtain ⟨r75, I73, h74, k⟩ := k
          refine Ev_stat (as := [.int y66, .int 0, .int 999]) hq_161 (show decode prog_7_method_35_code 122 = .ok (.invokestatic 173, 3) by decide +kernel) rfl (Or.inl rfl) hq_152 rfl (z_le rfl) h74 ?_
          exact Ev_iret hq_161 (show decode prog_7_method_35_code 125 = .ok (.ireturn, 1) by decide +kernel) rfl k
        · have k := k.2 (Classical.not_not.mp c72)
          refine Ev_iload hq_161 (show decode prog_7_method_35_code 105 = .ok (.iload 8, 2) by decide +kernel) rfl ?_
          refine Ev_iconst (v := 2) hq_161 (show decode prog_7_method_35_code 107 = .ok (.iconst 2, 1) by decide +kernel) (by decide) ?_
          refine Ev_idiv hq_161 (show decode prog_7_method_35_code 108 = .ok (.idiv, 1) by decide +kernel) (by decide) ?_
          refine Ev_goto (tgt := 114) hq_161 (show decode prog_7_method_35_code 109 = .ok (.goto 5, 3) by decide +kernel) (by decide) ?_
          obtain ⟨y76, ey76⟩ : ∃ y76 : Int32, y76 = (y66 / 2) := ⟨_, rfl⟩
          have k := k y76 ey76
          rw [← ey76]
          refine Ev_istore (lo2 := [.ref 57, .int x1, .int x2, .int y2, .int y57, .int r60, .int y62, .int y64, .int y76]) hq_161 (show decode prog_7_method_35_code 114 = .ok (.istore 8, 2) by decide +kernel) (z_le rfl) rfl ?_
          refine Ev_iload hq_161 (show decode prog_7_method_35_code 116 = .ok (.iload 8, 2) by decide +kernel) rfl ?_
          refine Ev_iconst (v := 0) hq_161 (show decode prog_7_method_35_code 118 = .ok (.iconst 0, 1) by decide +kernel) (by decide) ?_
          refine Ev_sipush (v := 999) hq_161 (show decode prog_7_method_35_code 119 = .ok (.sipush 999, 3) by decide +kernel) (by decide) ?_
          obtain ⟨r79, I77, h78, k⟩ := k
          refine Ev_stat (as := [.int y76, .int 0, .int 999]) hq_161 (show decode prog_7_method_35_code 122 = .ok (.invokestatic 173, 3) by decide +kernel) rfl (Or.inl rfl) hq_152 rfl (z_le rfl) h78 ?_
          exact Ev_iret hq_161 (show decode prog_7_method_35_code 125 = .ok (.ireturn, 1) by decide +kernel) rfl k
    · have k := k.2 c65
      refine Ev_iload hq_161 (show decode prog_7_method_35_code 61 = .ok (.iload 6, 2) by decide +kernel) rfl ?_
      refine Ev_iconst (v := 3) hq_161 (show decode prog_7_method_35_code 63 = .ok (.iconst 3, 1) by decide +kernel) (by decide) ?_
      refine Ev_icmp_ne (tgt := 82) hq_161 (show decode prog_7_method_35_code 64 = .ok (.if_icmp .ne 18, 3) by decide +kernel) (by decide) (fun c80 => ?_) (fun c80 => ?_)
      · have k := k.1 c80
        refine Ev_iload hq_161 (show decode prog_7_method_35_code 82 = .ok (.iload 4, 2) by decide +kernel) rfl ?_
        refine Ev_istore (lo2 := [.ref 57, .int x1, .int x2, .int y2, .int y57, .int r60, .int y62, .int y64, .int y57]) hq_161 (show decode prog_7_method_35_code 84 = .ok (.istore 8, 2) by decide +kernel) (z_le rfl) rfl ?_
        refine Ev_iload hq_161 (show decode prog_7_method_35_code 86 = .ok (.iload 6, 2) by decide +kernel) rfl ?_
        refine Ev_iconst (v := 3) hq_161 (show decode prog_7_method_35_code 88 = .ok (.iconst 3, 1) by decide +kernel) (by decide) ?_
        refine Ev_icmp_ne (tgt := 112) hq_161 (show decode prog_7_method_35_code 89 = .ok (.if_icmp .ne 23, 3) by decide +kernel) (by decide) (fun c81 => ?_) (fun c81 => ?_)
        · have k := k.1 c81
          refine Ev_iload hq_161 (show decode prog_7_method_35_code 112 = .ok (.iload 8, 2) by decide +kernel) rfl ?_
          refine Ev_istore (lo2 := [.ref 57, .int x1, .int x2, .int y2, .int y57, .int r60, .int y62, .int y64, .int y57]) hq_161 (show decode prog_7_method_35_code 114 = .ok (.istore 8, 2) by decide +kernel) (z_le rfl) rfl ?_
          refine Ev_iload hq_161 (show decode prog_7_method_35_code 116 = .ok (.iload 8, 2) by decide +kernel) rfl ?_
          refine Ev_iconst (v := 0) hq_161 (show decode prog_7_method_35_code 118 = .ok (.iconst 0, 1) by decide +kernel) (by decide) ?_
          refine Ev_sipush (v := 999) hq_161 (show decode prog_7_method_35_code 119 = .ok (.sipush 999, 3) by decide +kernel) (by decide) ?_
          obtain ⟨r84, I82, h83, k⟩ := k
          refine Ev_stat (as := [.int y57, .int 0, .int 999]) hq_161 (show decode prog_7_method_35_code 122 = .ok (.invokestatic 173, 3) by decide +kernel) rfl (Or.inl rfl) hq_152 rfl (z_le rfl) h83 ?_
          exact Ev_iret hq_161 (show decode prog_7_method_35_code 125 = .ok (.ireturn, 1) by decide +kernel) rfl k
        · have k := k.2 (Classical.not_not.mp c81)
          refine Ev_iload_n hq_161 (show decode prog_7_method_35_code 92 = .ok (.iload_n 2, 1) by decide +kernel) rfl ?_
          refine Ev_iload hq_161 (show decode prog_7_method_35_code 93 = .ok (.iload 7, 2) by decide +kernel) rfl ?_
          refine Ev_iconst (v := 2) hq_161 (show decode prog_7_method_35_code 95 = .ok (.iconst 2, 1) by decide +kernel) (by decide) ?_
          refine Ev_iadd hq_161 (show decode prog_7_method_35_code 96 = .ok (.iadd, 1) by decide +kernel) ?_
          obtain ⟨h85, k⟩ := k
          refine Ev_irem hq_161 (show decode prog_7_method_35_code 97 = .ok (.irem, 1) by decide +kernel) h85 ?_
          refine Ev_iload hq_161 (show decode prog_7_method_35_code 98 = .ok (.iload 7, 2) by decide +kernel) rfl ?_
          refine Ev_iconst (v := 1) hq_161 (show decode prog_7_method_35_code 100 = .ok (.iconst 1, 1) by decide +kernel) (by decide) ?_
          refine Ev_iadd hq_161 (show decode prog_7_method_35_code 101 = .ok (.iadd, 1) by decide +kernel) ?_
          refine Ev_icmp_ne (tgt := 112) hq_161 (show decode prog_7_method_35_code 102 = .ok (.if_icmp .ne 10, 3) by decide +kernel) (by decide) (fun c86 => ?_) (fun c86 => ?_)
          · have k := k.1 c86
            refine Ev_iload hq_161 (show decode prog_7_method_35_code 112 = .ok (.iload 8, 2) by decide +kernel) rfl ?_
            refine Ev_istore (lo2 := [.ref 57, .int x1, .int x2, .int y2, .int y57, .int r60, .int y62, .int y64, .int y57]) hq_161 (show decode prog_7_method_35_code 114 = .ok (.istore 8, 2) by decide +kernel) (z_le rfl) rfl ?_
            refine Ev_iload hq_161 (show decode prog_7_method_35_code 116 = .ok (.iload 8, 2) by decide +kernel) rfl ?_
            refine Ev_iconst (v := 0) hq_161 (show decode prog_7_method_35_code 118 = .ok (.iconst 0, 1) by decide +kernel) (by decide) ?_
            refine Ev_sipush (v := 999) hq_161 (show decode prog_7_method_35_code 119 = .ok (.sipush 999, 3) by decide +kernel) (by decide) ?_
            obtain ⟨r89, I87, h88, k⟩ := k
            refine Ev_stat (as := [.int y57, .int 0, .int 999]) hq_161 (show decode prog_7_method_35_code 122 = .ok (.invokestatic 173, 3) by decide +kernel) rfl (Or.inl rfl) hq_152 rfl (z_le rfl) h88 ?_
            exact Ev_iret hq_161 (show decode prog_7_method_35_code 125 = .ok (.ireturn, 1) by decide +kernel) rfl k
          · have k := k.2 (Classical.not_not.mp c86)
            refine Ev_iload hq_161 (show decode prog_7_method_35_code 105 = .ok (.iload 8, 2) by decide +kernel) rfl ?_
            refine Ev_iconst (v := 2) hq_161 (show decode prog_7_method_35_code 107 = .ok (.iconst 2, 1) by decide +kernel) (by decide) ?_
            refine Ev_idiv hq_161 (show decode prog_7_method_35_code 108 = .ok (.idiv, 1) by decide +kernel) (by decide) ?_
            refine Ev_goto (tgt := 114) hq_161 (show decode prog_7_method_35_code 109 = .ok (.goto 5, 3) by decide +kernel) (by decide) ?_
            obtain ⟨y90, ey90⟩ : ∃ y90 : Int32, y90 = (y57 / 2) := ⟨_, rfl⟩
            have k := k y90 ey90
            rw [← ey90]
            refine Ev_istore (lo2 := [.ref 57, .int x1, .int x2, .int y2, .int y57, .int r60, .int y62, .int y64, .int y90]) hq_161 (show decode prog_7_method_35_code 114 = .ok (.istore 8, 2) by decide +kernel) (z_le rfl) rfl ?_
            refine Ev_iload hq_161 (show decode prog_7_method_35_code 116 = .ok (.iload 8, 2) by decide +kernel) rfl ?_
            refine Ev_iconst (v := 0) hq_161 (show decode prog_7_method_35_code 118 = .ok (.iconst 0, 1) by decide +kernel) (by decide) ?_
            refine Ev_sipush (v := 999) hq_161 (show decode prog_7_method_35_code 119 = .ok (.sipush 999, 3) by decide +kernel) (by decide) ?_
            obtain ⟨r93, I91, h92, k⟩ := k
            refine Ev_stat (as := [.int y90, .int 0, .int 999]) hq_161 (show decode prog_7_method_35_code 122 = .ok (.invokestatic 173, 3) by decide +kernel) rfl (Or.inl rfl) hq_152 rfl (z_le rfl) h92 ?_
            exact Ev_iret hq_161 (show decode prog_7_method_35_code 125 = .ok (.ireturn, 1) by decide +kernel) rfl k
      · have k := k.2 (Classical.not_not.mp c80)
        refine Ev_iload hq_161 (show decode prog_7_method_35_code 67 = .ok (.iload 4, 2) by decide +kernel) rfl ?_
        refine Ev_iconst (v := 2) hq_161 (show decode prog_7_method_35_code 69 = .ok (.iconst 2, 1) by decide +kernel) (by decide) ?_
        refine Ev_iload hq_161 (show decode prog_7_method_35_code 70 = .ok (.iload 7, 2) by decide +kernel) rfl ?_
        refine Ev_imul hq_161 (show decode prog_7_method_35_code 72 = .ok (.imul, 1) by decide +kernel) ?_
        refine Ev_iconst (v := 1) hq_161 (show decode prog_7_method_35_code 73 = .ok (.iconst 1, 1) by decide +kernel) (by decide) ?_
        refine Ev_iadd hq_161 (show decode prog_7_method_35_code 74 = .ok (.iadd, 1) by decide +kernel) ?_
        refine Ev_iload hq_161 (show decode prog_7_method_35_code 75 = .ok (.iload 5, 2) by decide +kernel) rfl ?_
        refine Ev_imul hq_161 (show decode prog_7_method_35_code 77 = .ok (.imul, 1) by decide +kernel) ?_
        refine Ev_isub hq_161 (show decode prog_7_method_35_code 78 = .ok (.isub, 1) by decide +kernel) ?_
        refine Ev_goto (tgt := 84) hq_161 (show decode prog_7_method_35_code 79 = .ok (.goto 5, 3) by decide +kernel) (by decide) ?_
        obtain ⟨y94, ey94⟩ : ∃ y94 : Int32, y94 = (y57 - (((2 * y64) + 1) * r60)) := ⟨_, rfl⟩
        have k := k y94 ey94
        rw [← ey94]
        refine Ev_istore (lo2 := [.ref 57, .int x1, .int x2, .int y2, .int y57, .int r60, .int y62, .int y64, .int y94]) hq_161 (show decode prog_7_method_35_code 84 = .ok (.istore 8, 2) by decide +kernel) (z_le rfl) rfl ?_
        refine Ev_iload hq_161 (show decode prog_7_method_35_code 86 = .ok (.iload 6, 2) by decide +kernel) rfl ?_
        refine Ev_iconst (v := 3) hq_161 (show decode prog_7_method_35_code 88 = .ok (.iconst 3, 1) by decide +kernel) (by decide) ?_
        refine Ev_icmp_ne (tgt := 112) hq_161 (show decode prog_7_method_35_code 89 = .ok (.if_icmp .ne 23, 3) by decide +kernel) (by decide) (fun c95 => ?_) (fun c95 => ?_)
        · have k := k.1 c95
          refine Ev_iload hq_161 (show decode prog_7_method_35_code 112 = .ok (.iload 8, 2) by decide +kernel) rfl ?_
          refine Ev_istore (lo2 := [.ref 57, .int x1, .int x2, .int y2, .int y57, .int r60, .int y62, .int y64, .int y94]) hq_161 (show decode prog_7_method_35_code 114 = .ok (.istore 8, 2) by decide +kernel) (z_le rfl) rfl ?_
          refine Ev_iload hq_161 (show decode prog_7_method_35_code 116 = .ok (.iload 8, 2) by decide +kernel) rfl ?_
          refine Ev_iconst (v := 0) hq_161 (show decode prog_7_method_35_code 118 = .ok (.iconst 0, 1) by decide +kernel) (by decide) ?_
          refine Ev_sipush (v := 999) hq_161 (show decode prog_7_method_35_code 119 = .ok (.sipush 999, 3) by decide +kernel) (by decide) ?_
          obtain ⟨r98, I96, h97, k⟩ := k
          refine Ev_stat (as := [.int y94, .int 0, .int 999]) hq_161 (show decode prog_7_method_35_code 122 = .ok (.invokestatic 173, 3) by decide +kernel) rfl (Or.inl rfl) hq_152 rfl (z_le rfl) h97 ?_
          exact Ev_iret hq_161 (show decode prog_7_method_35_code 125 = .ok (.ireturn, 1) by decide +kernel) rfl k
        · have k := k.2 (Classical.not_not.mp c95)
          refine Ev_iload_n hq_161 (show decode prog_7_method_35_code 92 = .ok (.iload_n 2, 1) by decide +kernel) rfl ?_
          refine Ev_iload hq_161 (show decode prog_7_method_35_code 93 = .ok (.iload 7, 2) by decide +kernel) rfl ?_
          refine Ev_iconst (v := 2) hq_161 (show decode prog_7_method_35_code 95 = .ok (.iconst 2, 1) by decide +kernel) (by decide) ?_
          refine Ev_iadd hq_161 (show decode prog_7_method_35_code 96 = .ok (.iadd, 1) by decide +kernel) ?_
          obtain ⟨h99, k⟩ := k
          refine Ev_irem hq_161 (show decode prog_7_method_35_code 97 = .ok (.irem, 1) by decide +kernel) h99 ?_
          refine Ev_iload hq_161 (show decode prog_7_method_35_code 98 = .ok (.iload 7, 2) by decide +kernel) rfl ?_
          refine Ev_iconst (v := 1) hq_161 (show decode prog_7_method_35_code 100 = .ok (.iconst 1, 1) by decide +kernel) (by decide) ?_
          refine Ev_iadd hq_161 (show decode prog_7_method_35_code 101 = .ok (.iadd, 1) by decide +kernel) ?_
          refine Ev_icmp_ne (tgt := 112) hq_161 (show decode prog_7_method_35_code 102 = .ok (.if_icmp .ne 10, 3) by decide +kernel) (by decide) (fun c100 => ?_) (fun c100 => ?_)
          · have k := k.1 c100
            refine Ev_iload hq_161 (show decode prog_7_method_35_code 112 = .ok (.iload 8, 2) by decide +kernel) rfl ?_
            refine Ev_istore (lo2 := [.ref 57, .int x1, .int x2, .int y2, .int y57, .int r60, .int y62, .int y64, .int y94]) hq_161 (show decode prog_7_method_35_code 114 = .ok (.istore 8, 2) by decide +kernel) (z_le rfl) rfl ?_
            refine Ev_iload hq_161 (show decode prog_7_method_35_code 116 = .ok (.iload 8, 2) by decide +kernel) rfl ?_
            refine Ev_iconst (v := 0) hq_161 (show decode prog_7_method_35_code 118 = .ok (.iconst 0, 1) by decide +kernel) (by decide) ?_
            refine Ev_sipush (v := 999) hq_161 (show decode prog_7_method_35_code 119 = .ok (.sipush 999, 3) by decide +kernel) (by decide) ?_
            obtain ⟨r103, I101, h102, k⟩ := k
            refine Ev_stat (as := [.int y94, .int 0, .int 999]) hq_161 (show decode prog_7_method_35_code 122 = .ok (.invokestatic 173, 3) by decide +kernel) rfl (Or.inl rfl) hq_152 rfl (z_le rfl) h102 ?_
            exact Ev_iret hq_161 (show decode prog_7_method_35_code 125 = .ok (.ireturn, 1) by decide +kernel) rfl k
          · have k := k.2 (Classical.not_not.mp c100)
            refine Ev_iload hq_161 (show decode prog_7_method_35_code 105 = .ok (.iload 8, 2) by decide +kernel) rfl ?_
            refine Ev_iconst (v := 2) hq_161 (show decode prog_7_method_35_code 107 = .ok (.iconst 2, 1) by decide +kernel) (by decide) ?_
            refine Ev_idiv hq_161 (show decode prog_7_method_35_code 108 = .ok (.idiv, 1) by decide +kernel) (by decide) ?_
            refine Ev_goto (tgt := 114) hq_161 (show decode prog_7_method_35_code 109 = .ok (.goto 5, 3) by decide +kernel) (by decide) ?_
            obtain ⟨y104, ey104⟩ : ∃ y104 : Int32, y104 = (y94 / 2) := ⟨_, rfl⟩
            have k := k y104 ey104
            rw [← ey104]
            refine Ev_istore (lo2 := [.ref 57, .int x1, .int x2, .int y2, .int y57, .int r60, .int y62, .int y64, .int y104]) hq_161 (show decode prog_7_method_35_code 114 = .ok (.istore 8, 2) by decide +kernel) (z_le rfl) rfl ?_
            refine Ev_iload hq_161 (show decode prog_7_method_35_code 116 = .ok (.iload 8, 2) by decide +kernel) rfl ?_
            refine Ev_iconst (v := 0) hq_161 (show decode prog_7_method_35_code 118 = .ok (.iconst 0, 1) by decide +kernel) (by decide) ?_
            refine Ev_sipush (v := 999) hq_161 (show decode prog_7_method_35_code 119 = .ok (.sipush 999, 3) by decide +kernel) (by decide) ?_
            obtain ⟨r107, I105, h106, k⟩ := k
            refine Ev_stat (as := [.int y104, .int 0, .int 999]) hq_161 (show decode prog_7_method_35_code 122 = .ok (.invokestatic 173, 3) by decide +kernel) rfl (Or.inl rfl) hq_152 rfl (z_le rfl) h106 ?_
            exact Ev_iret hq_161 (show decode prog_7_method_35_code 125 = .ok (.ireturn, 1) by decide +kernel) rfl k
