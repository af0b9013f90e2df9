set_option maxRecDepth 20000 in
theorem wp_Z_isShower {X : Nat × (Nat → Int32)} {d : Nat} {G : zG} {I : zI} {res : Option Value × zG × zI} (x1 : Int32) (hS : SG G) 
    (k : res = (some (.int (f_Z_in x1 0 ((I 57 0) - 1))), G, I)) :
    Ev X (d + 1) 148 0 [.ref 57, .int x1] [] G I res := by
  refine Ev_iload_n hq_148 (show decode prog_7_method_6_code 0 = .ok (.iload_n 1, 1) by decide +kernel) rfl ?_
  refine Ev_iconst (v := 0) hq_148 (show decode prog_7_method_6_code 1 = .ok (.iconst 0, 1) by decide +kernel) (by decide) ?_
  refine Ev_aload_n hq_148 (show decode prog_7_method_6_code 2 = .ok (.aload_n 0, 1) by decide +kernel) rfl ?_
  refine Ev_getI hq_148 (show decode prog_7_method_6_code 3 = .ok (.getfield 87, 3) by decide +kernel) rfl (SGn hS (by decide)) (SGk hS rfl) (by decide) rfl ?_
  refine Ev_iconst (v := 1) hq_148 (show decode prog_7_method_6_code 6 = .ok (.iconst 1, 1) by decide +kernel) (by decide) ?_
  refine Ev_isub hq_148 (show decode prog_7_method_6_code 7 = .ok (.isub, 1) by decide +kernel) ?_
  refine Ev_stat (as := [.int x1, .int 0, .int ((I 57 0) - 1)]) hq_148 (show decode prog_7_method_6_code 8 = .ok (.invokestatic 90, 3) by decide +kernel) rfl (Or.inl rfl) hq_131 rfl (z_le rfl) (c_Z_in x1 0 ((I 57 0) - 1)) ?_
  exact Ev_iret hq_148 (show decode prog_7_method_6_code 11 = .ok (.ireturn, 1) by decide +kernel) (z_nb (b_Z_in x1 0 ((I 57 0) - 1))) k
def f_Z_isShower (I : zI) (x1 : Int32) : Int32 := (f_Z_in x1 0 ((I 57 0) - 1))
theorem c_Z_isShower {X : Nat × (Nat → Int32)} {d : Nat} {G : zG} {I : zI} (hd : 1 ≤ d) (hS : SG G) (x1 : Int32) : Cv X d 148 [.ref 57, .int x1] G I (some (.int (f_Z_isShower I x1)), G, I) := by
  obtain ⟨d, rfl⟩ : ∃ e, d = e + 1 := ⟨d - 1, by omega⟩
  exact Cv.of hq_148 (z_le rfl) rfl (wp_Z_isShower x1 hS (by rfl))
theorem b_Z_isShower (I : zI) (x1 : Int32) : f_Z_isShower I x1 = 0 ∨ f_Z_isShower I x1 = 1 := by
  unfold f_Z_isShower
  repeat (any_goals split)
  all_goals first | exact Or.inl rfl | exact Or.inr rfl | exact b_Z_in ..
set_option maxRecDepth 20000 in
theorem wp_Z_two {X : Nat × (Nat → Int32)} {d : Nat} {G : zG} {I : zI} {res : Option Value × zG × zI} (x0 : Int32) (x1 : Int32) (x2 : Int32) 
    (k : (x0 = 11 → (¬ x1 = 0 → res = (some (.int 1), G, I)) ∧ (x1 = 0 → (x2 = 0 → res = (some (.int 0), G, I)) ∧ (¬ x2 = 0 → res = (some (.int 1), G, I)))) ∧ (¬ x0 = 11 → (x0 = 12 → (x1 = 0 → res = (some (.int 0), G, I)) ∧ (¬ x1 = 0 → (x2 = 0 → res = (some (.int 0), G, I)) ∧ (¬ x2 = 0 → res = (some (.int 1), G, I)))) ∧ (¬ x0 = 12 → (x0 = 13 → res = (some (.int (x1 * x2)), G, I)) ∧ (¬ x0 = 13 → (x0 = 14 → (x2 ≤ x1 → res = (some (.int 0), G, I)) ∧ (¬ x2 ≤ x1 → res = (some (.int 1), G, I))) ∧ (¬ x0 = 14 → (x0 = 15 → (¬ x1 = x2 → res = (some (.int 0), G, I)) ∧ (x1 = x2 → res = (some (.int 1), G, I))) ∧ (¬ x0 = 15 → (x0 = 16 → res = (some (.int (x1 + x2)), G, I)) ∧ (¬ x0 = 16 → (x0 = 17 → res = (some (.int (x1 - x2)), G, I)) ∧ (¬ x0 = 17 → res = (some (.int (x1 * x2)), G, I))))))))) :
    Ev X d 151 0 [.int x0, .int x1, .int x2] [] G I res := by
  refine Ev_iload_n hq_151 (show decode prog_7_method_24_code 0 = .ok (.iload_n 0, 1) by decide +kernel) rfl ?_
  by_cases c1 : x0 = 11
  · have k := k.1 c1
    refine Ev_tableIn (off := 43) (tgt := 44) hq_151 (show decode prog_7_method_24_code 1 = .ok (.tableswitch 101 11 17 #[43, 57, 101, 71, 82, 93, 97], 43) by decide +kernel) (by rw [c1]; decide) (by rw [c1]; decide) (by rw [c1]; decide) (by decide) ?_
    refine Ev_iload_n hq_151 (show decode prog_7_method_24_code 44 = .ok (.iload_n 1, 1) by decide +kernel) rfl ?_
    refine Ev_if_ne (tgt := 52) hq_151 (show decode prog_7_method_24_code 45 = .ok (.ifCond .ne 7, 3) by decide +kernel) (by decide) (fun c2 => ?_) (fun c2 => ?_)
    · have k := k.1 c2
      refine Ev_iconst (v := 1) hq_151 (show decode prog_7_method_24_code 52 = .ok (.iconst 1, 1) by decide +kernel) (by decide) ?_
      refine Ev_goto (tgt := 57) hq_151 (show decode prog_7_method_24_code 53 = .ok (.goto 4, 3) by decide +kernel) (by decide) ?_
      exact Ev_iret hq_151 (show decode prog_7_method_24_code 57 = .ok (.ireturn, 1) by decide +kernel) rfl k
    · have k := k.2 (Classical.not_not.mp c2)
      refine Ev_iload_n hq_151 (show decode prog_7_method_24_code 48 = .ok (.iload_n 2, 1) by decide +kernel) rfl ?_
      refine Ev_if_eq (tgt := 56) hq_151 (show decode prog_7_method_24_code 49 = .ok (.ifCond .eq 7, 3) by decide +kernel) (by decide) (fun c3 => ?_) (fun c3 => ?_)
      · have k := k.1 c3
        refine Ev_iconst (v := 0) hq_151 (show decode prog_7_method_24_code 56 = .ok (.iconst 0, 1) by decide +kernel) (by decide) ?_
        exact Ev_iret hq_151 (show decode prog_7_method_24_code 57 = .ok (.ireturn, 1) by decide +kernel) rfl k
      · have k := k.2 c3
        refine Ev_iconst (v := 1) hq_151 (show decode prog_7_method_24_code 52 = .ok (.iconst 1, 1) by decide +kernel) (by decide) ?_
        refine Ev_goto (tgt := 57) hq_151 (show decode prog_7_method_24_code 53 = .ok (.goto 4, 3) by decide +kernel) (by decide) ?_
        exact Ev_iret hq_151 (show decode prog_7_method_24_code 57 = .ok (.ireturn, 1) by decide +kernel) rfl k
  have k := k.2 c1
  by_cases c4 : x0 = 12
  · have k := k.1 c4
    refine Ev_tableIn (off := 57) (tgt := 58) hq_151 (show decode prog_7_method_24_code 1 = .ok (.tableswitch 101 11 17 #[43, 57, 101, 71, 82, 93, 97], 43) by decide +kernel) (by rw [c4]; decide) (by rw [c4]; decide) (by rw [c4]; decide) (by decide) ?_
    refine Ev_iload_n hq_151 (show decode prog_7_method_24_code 58 = .ok (.iload_n 1, 1) by decide +kernel) rfl ?_
    refine Ev_if_eq (tgt := 70) hq_151 (show decode prog_7_method_24_code 59 = .ok (.ifCond .eq 11, 3) by decide +kernel) (by decide) (fun c5 => ?_) (fun c5 => ?_)
    · have k := k.1 c5
      refine Ev_iconst (v := 0) hq_151 (show decode prog_7_method_24_code 70 = .ok (.iconst 0, 1) by decide +kernel) (by decide) ?_
      exact Ev_iret hq_151 (show decode prog_7_method_24_code 71 = .ok (.ireturn, 1) by decide +kernel) rfl k
    · have k := k.2 c5
      refine Ev_iload_n hq_151 (show decode prog_7_method_24_code 62 = .ok (.iload_n 2, 1) by decide +kernel) rfl ?_
      refine Ev_if_eq (tgt := 70) hq_151 (show decode prog_7_method_24_code 63 = .ok (.ifCond .eq 7, 3) by decide +kernel) (by decide) (fun c6 => ?_) (fun c6 => ?_)
      · have k := k.1 c6
        refine Ev_iconst (v := 0) hq_151 (show decode prog_7_method_24_code 70 = .ok (.iconst 0, 1) by decide +kernel) (by decide) ?_
        exact Ev_iret hq_151 (show decode prog_7_method_24_code 71 = .ok (.ireturn, 1) by decide +kernel) rfl k
      · have k := k.2 c6
        refine Ev_iconst (v := 1) hq_151 (show decode prog_7_method_24_code 66 = .ok (.iconst 1, 1) by decide +kernel) (by decide) ?_
        refine Ev_goto (tgt := 71) hq_151 (show decode prog_7_method_24_code 67 = .ok (.goto 4, 3) by decide +kernel) (by decide) ?_
        exact Ev_iret hq_151 (show decode prog_7_method_24_code 71 = .ok (.ireturn, 1) by decide +kernel) rfl k
  have k := k.2 c4
  by_cases c7 : x0 = 13
  · have k := k.1 c7
    refine Ev_tableIn (off := 101) (tgt := 102) hq_151 (show decode prog_7_method_24_code 1 = .ok (.tableswitch 101 11 17 #[43, 57, 101, 71, 82, 93, 97], 43) by decide +kernel) (by rw [c7]; decide) (by rw [c7]; decide) (by rw [c7]; decide) (by decide) ?_
    refine Ev_iload_n hq_151 (show decode prog_7_method_24_code 102 = .ok (.iload_n 1, 1) by decide +kernel) rfl ?_
    refine Ev_iload_n hq_151 (show decode prog_7_method_24_code 103 = .ok (.iload_n 2, 1) by decide +kernel) rfl ?_
    refine Ev_imul hq_151 (show decode prog_7_method_24_code 104 = .ok (.imul, 1) by decide +kernel) ?_
    exact Ev_iret hq_151 (show decode prog_7_method_24_code 105 = .ok (.ireturn, 1) by decide +kernel) rfl k
  have k := k.2 c7
  by_cases c8 : x0 = 14
  · have k := k.1 c8
    refine Ev_tableIn (off := 71) (tgt := 72) hq_151 (show decode prog_7_method_24_code 1 = .ok (.tableswitch 101 11 17 #[43, 57, 101, 71, 82, 93, 97], 43) by decide +kernel) (by rw [c8]; decide) (by rw [c8]; decide) (by rw [c8]; decide) (by decide) ?_
    refine Ev_iload_n hq_151 (show decode prog_7_method_24_code 72 = .ok (.iload_n 1, 1) by decide +kernel) rfl ?_
    refine Ev_iload_n hq_151 (show decode prog_7_method_24_code 73 = .ok (.iload_n 2, 1) by decide +kernel) rfl ?_
    refine Ev_icmp_ge (tgt := 81) hq_151 (show decode prog_7_method_24_code 74 = .ok (.if_icmp .ge 7, 3) by decide +kernel) (by decide) (fun c9 => ?_) (fun c9 => ?_)
    · have k := k.1 c9
      refine Ev_iconst (v := 0) hq_151 (show decode prog_7_method_24_code 81 = .ok (.iconst 0, 1) by decide +kernel) (by decide) ?_
      exact Ev_iret hq_151 (show decode prog_7_method_24_code 82 = .ok (.ireturn, 1) by decide +kernel) rfl k
    · have k := k.2 c9
      refine Ev_iconst (v := 1) hq_151 (show decode prog_7_method_24_code 77 = .ok (.iconst 1, 1) by decide +kernel) (by decide) ?_
      refine Ev_goto (tgt := 82) hq_151 (show decode prog_7_method_24_code 78 = .ok (.goto 4, 3) by decide +kernel) (by decide) ?_
      exact Ev_iret hq_151 (show decode prog_7_method_24_code 82 = .ok (.ireturn, 1) by decide +kernel) rfl k
  have k := k.2 c8
  by_cases c10 : x0 = 15
  · have k := k.1 c10
    refine Ev_tableIn (off := 82) (tgt := 83) hq_151 (show decode prog_7_method_24_code 1 = .ok (.tableswitch 101 11 17 #[43, 57, 101, 71, 82, 93, 97], 43) by decide +kernel) (by rw [c10]; decide) (by rw [c10]; decide) (by rw [c10]; decide) (by decide) ?_
    refine Ev_iload_n hq_151 (show decode prog_7_method_24_code 83 = .ok (.iload_n 1, 1) by decide +kernel) rfl ?_
    refine Ev_iload_n hq_151 (show decode prog_7_method_24_code 84 = .ok (.iload_n 2, 1) by decide +kernel) rfl ?_
    refine Ev_icmp_ne (tgt := 92) hq_151 (show decode prog_7_method_24_code 85 = .ok (.if_icmp .ne 7, 3) by decide +kernel) (by decide) (fun c11 => ?_) (fun c11 => ?_)
    · have k := k.1 c11
      refine Ev_iconst (v := 0) hq_151 (show decode prog_7_method_24_code 92 = .ok (.iconst 0, 1) by decide +kernel) (by decide) ?_
      exact Ev_iret hq_151 (show decode prog_7_method_24_code 93 = .ok (.ireturn, 1) by decide +kernel) rfl k
    · have k := k.2 (Classical.not_not.mp c11)
      refine Ev_iconst (v := 1) hq_151 (show decode prog_7_method_24_code 88 = .ok (.iconst 1, 1) by decide +kernel) (by decide) ?_
      refine Ev_goto (tgt := 93) hq_151 (show decode prog_7_method_24_code 89 = .ok (.goto 4, 3) by decide +kernel) (by decide) ?_
      exact Ev_iret hq_151 (show decode prog_7_method_24_code 93 = .ok (.ireturn, 1) by decide +kernel) rfl k
  have k := k.2 c10
  by_cases c12 : x0 = 16
  · have k := k.1 c12
    refine Ev_tableIn (off := 93) (tgt := 94) hq_151 (show decode prog_7_method_24_code 1 = .ok (.tableswitch 101 11 17 #[43, 57, 101, 71, 82, 93, 97], 43) by decide +kernel) (by rw [c12]; decide) (by rw [c12]; decide) (by rw [c12]; decide) (by decide) ?_
    refine Ev_iload_n hq_151 (show decode prog_7_method_24_code 94 = .ok (.iload_n 1, 1) by decide +kernel) rfl ?_
    refine Ev_iload_n hq_151 (show decode prog_7_method_24_code 95 = .ok (.iload_n 2, 1) by decide +kernel) rfl ?_
    refine Ev_iadd hq_151 (show decode prog_7_method_24_code 96 = .ok (.iadd, 1) by decide +kernel) ?_
    exact Ev_iret hq_151 (show decode prog_7_method_24_code 97 = .ok (.ireturn, 1) by decide +kernel) rfl k
  have k := k.2 c12
  by_cases c13 : x0 = 17
  · have k := k.1 c13
    refine Ev_tableIn (off := 97) (tgt := 98) hq_151 (show decode prog_7_method_24_code 1 = .ok (.tableswitch 101 11 17 #[43, 57, 101, 71, 82, 93, 97], 43) by decide +kernel) (by rw [c13]; decide) (by rw [c13]; decide) (by rw [c13]; decide) (by decide) ?_
    refine Ev_iload_n hq_151 (show decode prog_7_method_24_code 98 = .ok (.iload_n 1, 1) by decide +kernel) rfl ?_
    refine Ev_iload_n hq_151 (show decode prog_7_method_24_code 99 = .ok (.iload_n 2, 1) by decide +kernel) rfl ?_
    refine Ev_isub hq_151 (show decode prog_7_method_24_code 100 = .ok (.isub, 1) by decide +kernel) ?_
    exact Ev_iret hq_151 (show decode prog_7_method_24_code 101 = .ok (.ireturn, 1) by decide +kernel) rfl k
  have k := k.2 c13
  have ec1 : (x0).toInt ≠ 11 := z_ne (k := 11) c1
  have ec4 : (x0).toInt ≠ 12 := z_ne (k := 12) c4
  have ec7 : (x0).toInt ≠ 13 := z_ne (k := 13) c7
  have ec8 : (x0).toInt ≠ 14 := z_ne (k := 14) c8
  have ec10 : (x0).toInt ≠ 15 := z_ne (k := 15) c10
  have ec12 : (x0).toInt ≠ 16 := z_ne (k := 16) c12
  have ec13 : (x0).toInt ≠ 17 := z_ne (k := 17) c13
  refine Ev_tableOut (tgt := 102) hq_151 (show decode prog_7_method_24_code 1 = .ok (.tableswitch 101 11 17 #[43, 57, 101, 71, 82, 93, 97], 43) by decide +kernel) (by omega) (by decide) ?_
  refine Ev_iload_n hq_151 (show decode prog_7_method_24_code 102 = .ok (.iload_n 1, 1) by decide +kernel) rfl ?_
  refine Ev_iload_n hq_151 (show decode prog_7_method_24_code 103 = .ok (.iload_n 2, 1) by decide +kernel) rfl ?_
  refine Ev_imul hq_151 (show decode prog_7_method_24_code 104 = .ok (.imul, 1) by decide +kernel) ?_
  exact Ev_iret hq_151 (show decode prog_7_method_24_code 105 = .ok (.ireturn, 1) by decide +kernel) rfl k
def f_Z_two (x0 x1 x2 : Int32) : Int32 := (if x0 = 11 then (if x1 = 0 then (if x2 = 0 then 0 else 1) else 1) else (if x0 = 12 then (if x1 = 0 then 0 else (if x2 = 0 then 0 else 1)) else (if x0 = 13 then (x1 * x2) else (if x0 = 14 then (if x2 ≤ x1 then 0 else 1) else (if x0 = 15 then (if x1 = x2 then 1 else 0) else (if x0 = 16 then (x1 + x2) else (if x0 = 17 then (x1 - x2) else (x1 * x2))))))))
theorem c_Z_two {X : Nat × (Nat → Int32)} {d : Nat} {G : zG} {I : zI} (x0 x1 x2 : Int32) : Cv X d 151 [.int x0, .int x1, .int x2] G I (some (.int (f_Z_two x0 x1 x2)), G, I) := by
  exact Cv.of hq_151 (z_le rfl) rfl (wp_Z_two x0 x1 x2 ⟨fun h0 => ⟨fun h1 => (by simp only [f_Z_two]; rw [if_pos h0]; rw [if_neg h1]), fun h1 => ⟨fun h2 => (by simp only [f_Z_two]; rw [if_pos h0]; rw [if_pos h1]; rw [if_pos h2]), fun h2 => (by simp only [f_Z_two]; rw [if_pos h0]; rw [if_pos h1]; rw [if_neg h2])⟩⟩, fun h0 => ⟨fun h1 => ⟨fun h2 => (by simp only [f_Z_two]; rw [if_neg h0]; rw [if_pos h1]; rw [if_pos h2]), fun h2 => ⟨fun h3 => (by simp only [f_Z_two]; rw [if_neg h0]; rw [if_pos h1]; rw [if_neg h2]; rw [if_pos h3]), fun h3 => (by simp only [f_Z_two]; rw [if_neg h0]; rw [if_pos h1]; rw [if_neg h2]; rw [if_neg h3])⟩⟩, fun h1 => ⟨fun h2 => (by simp only [f_Z_two]; rw [if_neg h0]; rw [if_neg h1]; rw [if_pos h2]), fun h2 => ⟨fun h3 => ⟨fun h4 => (by simp only [f_Z_two]; rw [if_neg h0]; rw [if_neg h1]; rw [if_neg h2]; rw [if_pos h3]; rw [if_pos h4]), fun h4 => (by simp only [f_Z_two]; rw [if_neg h0]; rw [if_neg h1]; rw [if_neg h2]; rw [if_pos h3]; rw [if_neg h4])⟩, fun h3 => ⟨fun h4 => ⟨fun h5 => (by simp only [f_Z_two]; rw [if_neg h0]; rw [if_neg h1]; rw [if_neg h2]; rw [if_neg h3]; rw [if_pos h4]; rw [if_neg h5]), fun h5 => (by simp only [f_Z_two]; rw [if_neg h0]; rw [if_neg h1]; rw [if_neg h2]; rw [if_neg h3]; rw [if_pos h4]; rw [if_pos h5])⟩, fun h4 => ⟨fun h5 => (by simp only [f_Z_two]; rw [if_neg h0]; rw [if_neg h1]; rw [if_neg h2]; rw [if_neg h3]; rw [if_neg h4]; rw [if_pos h5]), fun h5 => ⟨fun h6 => (by simp only [f_Z_two]; rw [if_neg h0]; rw [if_neg h1]; rw [if_neg h2]; rw [if_neg h3]; rw [if_neg h4]; rw [if_neg h5]; rw [if_pos h6]), fun h6 => (by simp only [f_Z_two]; rw [if_neg h0]; rw [if_neg h1]; rw [if_neg h2]; rw [if_neg h3]; rw [if_neg h4]; rw [if_neg h5]; rw [if_neg h6])⟩⟩⟩⟩⟩⟩⟩)
set_option maxRecDepth 20000 in
theorem wp_Z_says {X : Nat × (Nat → Int32)} {d : Nat} {G : zG} {I : zI} {res : Option Value × zG × zI} (x1 : Int32) (hS : SG G) 
    (k : z_inr ((4 * (I 57 9)) + x1) 24 ∧ (∀ y2 : Int32, y2 = (I 63 ((4 * (I 57 9)) + x1).toNatClampNeg) → Ev X d 150 16 [.ref 57, .int x1, .int 0, .int y2, zU] [] G I res)) :
    Ev X d 150 0 [.ref 57, .int x1, zU, zU, zU] [] G I res := by
  refine Ev_iconst (v := 0) hq_150 (show decode prog_7_method_25_code 0 = .ok (.iconst 0, 1) by decide +kernel) (by decide) ?_
  refine Ev_istore_n (lo2 := [.ref 57, .int x1, .int 0, zU, zU]) hq_150 (show decode prog_7_method_25_code 1 = .ok (.istore_n 2, 1) by decide +kernel) (z_le rfl) rfl ?_
  refine Ev_aload_n hq_150 (show decode prog_7_method_25_code 2 = .ok (.aload_n 0, 1) by decide +kernel) rfl ?_
  refine Ev_getR hq_150 (show decode prog_7_method_25_code 3 = .ok (.getfield 25, 3) by decide +kernel) rfl (SGn hS (by decide)) (SGk hS rfl) (by decide) rfl (SGr hS rfl) ?_
  refine Ev_iconst (v := 4) hq_150 (show decode prog_7_method_25_code 6 = .ok (.iconst 4, 1) by decide +kernel) (by decide) ?_
  refine Ev_aload_n hq_150 (show decode prog_7_method_25_code 7 = .ok (.aload_n 0, 1) by decide +kernel) rfl ?_
  refine Ev_getI hq_150 (show decode prog_7_method_25_code 8 = .ok (.getfield 104, 3) by decide +kernel) rfl (SGn hS (by decide)) (SGk hS rfl) (by decide) rfl ?_
  refine Ev_imul hq_150 (show decode prog_7_method_25_code 11 = .ok (.imul, 1) by decide +kernel) ?_
  refine Ev_iload_n hq_150 (show decode prog_7_method_25_code 12 = .ok (.iload_n 1, 1) by decide +kernel) rfl ?_
  refine Ev_iadd hq_150 (show decode prog_7_method_25_code 13 = .ok (.iadd, 1) by decide +kernel) ?_
  obtain ⟨h1, k⟩ := k
  refine Ev_iald hq_150 (show decode prog_7_method_25_code 14 = .ok (.iaload, 1) by decide +kernel) (SGn hS (by decide)) (SGk hS rfl) (SGi hS rfl h1) ?_
  obtain ⟨y2, ey2⟩ : ∃ y2 : Int32, y2 = (I 63 ((4 * (I 57 9)) + x1).toNatClampNeg) := ⟨_, rfl⟩
  have k := k y2 ey2
  rw [← ey2]
  refine Ev_istore_n (lo2 := [.ref 57, .int x1, .int 0, .int y2, zU]) hq_150 (show decode prog_7_method_25_code 15 = .ok (.istore_n 3, 1) by decide +kernel) (z_le rfl) rfl ?_
  exact k
set_option maxRecDepth 20000 in
theorem wp_Z_says_16 {X : Nat × (Nat → Int32)} {d : Nat} {G : zG} {I : zI} {res : Option Value × zG × zI} (x1 : Int32) (x2 : Int32) (x3 : Int32) (v4 : Value) (cv4 : v4.category = 1) (hS : SG G) 
    (k : z_inr (((4 * (I 57 9)) + x1) + 1) 24 ∧ (((I 63 (((4 * (I 57 9)) + x1) + 1).toNatClampNeg) ≤ x3 → res = (some (.int (I 71 (0 : Int32).toNatClampNeg)), G, I)) ∧ (¬ (I 63 (((4 * (I 57 9)) + x1) + 1).toNatClampNeg) ≤ x3 → z_inr ((200 * (I 57 9)) + x3) 1200 ∧ (∀ y4 : Int32, y4 = (I 62 ((200 * (I 57 9)) + x3).toNatClampNeg) → (100000 ≤ y4 → (11 ≤ y4 → z_inr x2 200 ∧ (∀ I8 : zI, I8 = z_up I 71 x2.toNatClampNeg (y4 - 100000) → ∀ y9 : Int32, y9 = x2 + 1 → ∀ y10 : Int32, y10 = x3 + 1 → Ev X (d + 1) 150 16 [.ref 57, .int x1, .int y9, .int y10, .int y4] [] G I8 res)) ∧ (¬ 11 ≤ y4 → z_inr y4 6 ∧ (z_inr x2 200 ∧ (∀ I13 : zI, I13 = z_up I 71 x2.toNatClampNeg (I 72 y4.toNatClampNeg) → ∀ y14 : Int32, y14 = x2 + 1 → ∀ y15 : Int32, y15 = x3 + 1 → Ev X (d + 1) 150 16 [.ref 57, .int x1, .int y14, .int y15, .int y4] [] G I13 res)))) ∧ (¬ 100000 ≤ y4 → (11 ≤ y4 → (¬ y4 = 13 → (¬ y4 = 19 → ∀ y19 : Int32, y19 = x2 + (-1) → z_inr (y19 - 1) 200 ∧ (z_inr y19 200 ∧ (z_inr (y19 - 1) 200 ∧ (∀ I23 : zI, I23 = z_up I 71 (y19 - 1).toNatClampNeg (f_Z_two y4 (I 71 (y19 - 1).toNatClampNeg) (I 71 y19.toNatClampNeg)) → ∀ y24 : Int32, y24 = x3 + 1 → Ev X (d + 1) 150 16 [.ref 57, .int x1, .int y19, .int y24, .int y4] [] G I23 res)))) ∧ (y4 = 19 → z_inr (x2 - 1) 200 ∧ (z_inr (x2 - 1) 200 ∧ (∀ I27 : zI, I27 = z_up I 71 (x2 - 1).toNatClampNeg (-(I 71 (x2 - 1).toNatClampNeg)) → ∀ y28 : Int32, y28 = x3 + 1 → Ev X (d + 1) 150 16 [.ref 57, .int x1, .int x2, .int y28, .int y4] [] G I27 res)))) ∧ (y4 = 13 → z_inr (x2 - 1) 200 ∧ ((¬ (I 71 (x2 - 1).toNatClampNeg) = 0 → z_inr (x2 - 1) 200 ∧ (∀ I32 : zI, I32 = z_up I 71 (x2 - 1).toNatClampNeg 0 → ∀ y33 : Int32, y33 = x3 + 1 → Ev X (d + 1) 150 16 [.ref 57, .int x1, .int x2, .int y33, .int y4] [] G I32 res)) ∧ ((I 71 (x2 - 1).toNatClampNeg) = 0 → z_inr (x2 - 1) 200 ∧ (∀ I35 : zI, I35 = z_up I 71 (x2 - 1).toNatClampNeg 1 → ∀ y36 : Int32, y36 = x3 + 1 → Ev X (d + 1) 150 16 [.ref 57, .int x1, .int x2, .int y36, .int y4] [] G I35 res))))) ∧ (¬ 11 ≤ y4 → (11 ≤ y4 → z_inr x2 200 ∧ (∀ I39 : zI, I39 = z_up I 71 x2.toNatClampNeg (y4 - 100000) → ∀ y40 : Int32, y40 = x2 + 1 → ∀ y41 : Int32, y41 = x3 + 1 → Ev X (d + 1) 150 16 [.ref 57, .int x1, .int y40, .int y41, .int y4] [] G I39 res)) ∧ (¬ 11 ≤ y4 → z_inr y4 6 ∧ (z_inr x2 200 ∧ (∀ I44 : zI, I44 = z_up I 71 x2.toNatClampNeg (I 72 y4.toNatClampNeg) → ∀ y45 : Int32, y45 = x2 + 1 → ∀ y46 : Int32, y46 = x3 + 1 → Ev X (d + 1) 150 16 [.ref 57, .int x1, .int y45, .int y46, .int y4] [] G I44 res))))))))) :
    Ev X (d + 1) 150 16 [.ref 57, .int x1, .int x2, .int x3, v4] [] G I res := by
  refine Ev_iload_n hq_150 (show decode prog_7_method_25_code 16 = .ok (.iload_n 3, 1) by decide +kernel) rfl ?_
  refine Ev_aload_n hq_150 (show decode prog_7_method_25_code 17 = .ok (.aload_n 0, 1) by decide +kernel) rfl ?_
  refine Ev_getR hq_150 (show decode prog_7_method_25_code 18 = .ok (.getfield 25, 3) by decide +kernel) rfl (SGn hS (by decide)) (SGk hS rfl) (by decide) rfl (SGr hS rfl) ?_
  refine Ev_iconst (v := 4) hq_150 (show decode prog_7_method_25_code 21 = .ok (.iconst 4, 1) by decide +kernel) (by decide) ?_
  refine Ev_aload_n hq_150 (show decode prog_7_method_25_code 22 = .ok (.aload_n 0, 1) by decide +kernel) rfl ?_
  refine Ev_getI hq_150 (show decode prog_7_method_25_code 23 = .ok (.getfield 104, 3) by decide +kernel) rfl (SGn hS (by decide)) (SGk hS rfl) (by decide) rfl ?_
  refine Ev_imul hq_150 (show decode prog_7_method_25_code 26 = .ok (.imul, 1) by decide +kernel) ?_
  refine Ev_iload_n hq_150 (show decode prog_7_method_25_code 27 = .ok (.iload_n 1, 1) by decide +kernel) rfl ?_
  refine Ev_iadd hq_150 (show decode prog_7_method_25_code 28 = .ok (.iadd, 1) by decide +kernel) ?_
  refine Ev_iconst (v := 1) hq_150 (show decode prog_7_method_25_code 29 = .ok (.iconst 1, 1) by decide +kernel) (by decide) ?_
  refine Ev_iadd hq_150 (show decode prog_7_method_25_code 30 = .ok (.iadd, 1) by decide +kernel) ?_
  obtain ⟨h1, k⟩ := k
  refine Ev_iald hq_150 (show decode prog_7_method_25_code 31 = .ok (.iaload, 1) by decide +kernel) (SGn hS (by decide)) (SGk hS rfl) (SGi hS rfl h1) ?_
  refine Ev_icmp_ge (tgt := 197) hq_150 (show decode prog_7_method_25_code 32 = .ok (.if_icmp .ge 165, 3) by decide +kernel) (by decide) (fun c2 => ?_) (fun c2 => ?_)
  · have k := k.1 c2
    refine Ev_aload_n hq_150 (show decode prog_7_method_25_code 197 = .ok (.aload_n 0, 1) by decide +kernel) rfl ?_
    refine Ev_getR hq_150 (show decode prog_7_method_25_code 198 = .ok (.getfield 49, 3) by decide +kernel) rfl (SGn hS (by decide)) (SGk hS rfl) (by decide) rfl (SGr hS rfl) ?_
    refine Ev_iconst (v := 0) hq_150 (show decode prog_7_method_25_code 201 = .ok (.iconst 0, 1) by decide +kernel) (by decide) ?_
    refine Ev_iald hq_150 (show decode prog_7_method_25_code 202 = .ok (.iaload, 1) by decide +kernel) (SGn hS (by decide)) (SGk hS rfl) (SGi hS rfl (by decide)) ?_
    exact Ev_iret hq_150 (show decode prog_7_method_25_code 203 = .ok (.ireturn, 1) by decide +kernel) rfl k
  · have k := k.2 c2
    refine Ev_aload_n hq_150 (show decode prog_7_method_25_code 35 = .ok (.aload_n 0, 1) by decide +kernel) rfl ?_
    refine Ev_getR hq_150 (show decode prog_7_method_25_code 36 = .ok (.getfield 22, 3) by decide +kernel) rfl (SGn hS (by decide)) (SGk hS rfl) (by decide) rfl (SGr hS rfl) ?_
    refine Ev_sipush (v := 200) hq_150 (show decode prog_7_method_25_code 39 = .ok (.sipush 200, 3) by decide +kernel) (by decide) ?_
    refine Ev_aload_n hq_150 (show decode prog_7_method_25_code 42 = .ok (.aload_n 0, 1) by decide +kernel) rfl ?_
    refine Ev_getI hq_150 (show decode prog_7_method_25_code 43 = .ok (.getfield 104, 3) by decide +kernel) rfl (SGn hS (by decide)) (SGk hS rfl) (by decide) rfl ?_
    refine Ev_imul hq_150 (show decode prog_7_method_25_code 46 = .ok (.imul, 1) by decide +kernel) ?_
    refine Ev_iload_n hq_150 (show decode prog_7_method_25_code 47 = .ok (.iload_n 3, 1) by decide +kernel) rfl ?_
    refine Ev_iadd hq_150 (show decode prog_7_method_25_code 48 = .ok (.iadd, 1) by decide +kernel) ?_
    obtain ⟨h3, k⟩ := k
    refine Ev_iald hq_150 (show decode prog_7_method_25_code 49 = .ok (.iaload, 1) by decide +kernel) (SGn hS (by decide)) (SGk hS rfl) (SGi hS rfl h3) ?_
    obtain ⟨y4, ey4⟩ : ∃ y4 : Int32, y4 = (I 62 ((200 * (I 57 9)) + x3).toNatClampNeg) := ⟨_, rfl⟩
    have k := k y4 ey4
    rw [← ey4]
    refine Ev_istore (lo2 := [.ref 57, .int x1, .int x2, .int x3, .int y4]) hq_150 (show decode prog_7_method_25_code 50 = .ok (.istore 4, 2) by decide +kernel) (z_le rfl) rfl ?_
    refine Ev_iload hq_150 (show decode prog_7_method_25_code 52 = .ok (.iload 4, 2) by decide +kernel) rfl ?_
    refine Ev_ldc (v := 100000) hq_150 (show decode prog_7_method_25_code 54 = .ok (.ldc 152, 2) by decide +kernel) rfl ?_
    refine Ev_icmp_ge (tgt := 66) hq_150 (show decode prog_7_method_25_code 56 = .ok (.if_icmp .ge 10, 3) by decide +kernel) (by decide) (fun c5 => ?_) (fun c5 => ?_)
    · have k := k.1 c5
      refine Ev_aload_n hq_150 (show decode prog_7_method_25_code 66 = .ok (.aload_n 0, 1) by decide +kernel) rfl ?_
      refine Ev_getR hq_150 (show decode prog_7_method_25_code 67 = .ok (.getfield 49, 3) by decide +kernel) rfl (SGn hS (by decide)) (SGk hS rfl) (by decide) rfl (SGr hS rfl) ?_
      refine Ev_iload_n hq_150 (show decode prog_7_method_25_code 70 = .ok (.iload_n 2, 1) by decide +kernel) rfl ?_
      refine Ev_iload hq_150 (show decode prog_7_method_25_code 71 = .ok (.iload 4, 2) by decide +kernel) rfl ?_
      refine Ev_bipush (v := 11) hq_150 (show decode prog_7_method_25_code 73 = .ok (.bipush 11, 2) by decide +kernel) (by decide) ?_
      refine Ev_icmp_ge (tgt := 88) hq_150 (show decode prog_7_method_25_code 75 = .ok (.if_icmp .ge 13, 3) by decide +kernel) (by decide) (fun c6 => ?_) (fun c6 => ?_)
      · have k := k.1 c6
        refine Ev_iload hq_150 (show decode prog_7_method_25_code 88 = .ok (.iload 4, 2) by decide +kernel) rfl ?_
        refine Ev_ldc (v := 100000) hq_150 (show decode prog_7_method_25_code 90 = .ok (.ldc 152, 2) by decide +kernel) rfl ?_
        refine Ev_isub hq_150 (show decode prog_7_method_25_code 92 = .ok (.isub, 1) by decide +kernel) ?_
        obtain ⟨h7, k⟩ := k
        refine Ev_iast hq_150 (show decode prog_7_method_25_code 93 = .ok (.iastore, 1) by decide +kernel) (SGn hS (by decide)) (SGk hS rfl) (SGi hS rfl h7) ?_
        obtain ⟨I8, eI8⟩ : ∃ I8 : zI, I8 = z_up I 71 x2.toNatClampNeg (y4 - 100000) := ⟨_, rfl⟩
        have k := k I8 eI8
        rw [← eI8]
        obtain ⟨y9, ey9⟩ : ∃ y9 : Int32, y9 = x2 + 1 := ⟨_, rfl⟩
        have k := k y9 ey9
        refine Ev_iinc (v := y9) (lo2 := [.ref 57, .int x1, .int y9, .int x3, .int y4]) hq_150 (show decode prog_7_method_25_code 94 = .ok (.iinc 2 1, 3) by decide +kernel) rfl (by rw [ey9]; rfl) rfl ?_
        refine Ev_goto (tgt := 191) hq_150 (show decode prog_7_method_25_code 97 = .ok (.goto 94, 3) by decide +kernel) (by decide) ?_
        obtain ⟨y10, ey10⟩ : ∃ y10 : Int32, y10 = x3 + 1 := ⟨_, rfl⟩
        have k := k y10 ey10
        refine Ev_iinc (v := y10) (lo2 := [.ref 57, .int x1, .int y9, .int y10, .int y4]) hq_150 (show decode prog_7_method_25_code 191 = .ok (.iinc 3 1, 3) by decide +kernel) rfl (by rw [ey10]; rfl) rfl ?_
        refine Ev_goto (tgt := 16) hq_150 (show decode prog_7_method_25_code 194 = .ok (.goto (-178), 3) by decide +kernel) (by decide) ?_
        exact k
      · have k := k.2 c6
        refine Ev_aload_n hq_150 (show decode prog_7_method_25_code 78 = .ok (.aload_n 0, 1) by decide +kernel) rfl ?_
        refine Ev_getR hq_150 (show decode prog_7_method_25_code 79 = .ok (.getfield 52, 3) by decide +kernel) rfl (SGn hS (by decide)) (SGk hS rfl) (by decide) rfl (SGr hS rfl) ?_
        refine Ev_iload hq_150 (show decode prog_7_method_25_code 82 = .ok (.iload 4, 2) by decide +kernel) rfl ?_
        obtain ⟨h11, k⟩ := k
        refine Ev_iald hq_150 (show decode prog_7_method_25_code 84 = .ok (.iaload, 1) by decide +kernel) (SGn hS (by decide)) (SGk hS rfl) (SGi hS rfl h11) ?_
        refine Ev_goto (tgt := 93) hq_150 (show decode prog_7_method_25_code 85 = .ok (.goto 8, 3) by decide +kernel) (by decide) ?_
        obtain ⟨h12, k⟩ := k
        refine Ev_iast hq_150 (show decode prog_7_method_25_code 93 = .ok (.iastore, 1) by decide +kernel) (SGn hS (by decide)) (SGk hS rfl) (SGi hS rfl h12) ?_
        obtain ⟨I13, eI13⟩ : ∃ I13 : zI, I13 = z_up I 71 x2.toNatClampNeg (I 72 y4.toNatClampNeg) := ⟨_, rfl⟩
        have k := k I13 eI13
        rw [← eI13]
        obtain ⟨y14, ey14⟩ : ∃ y14 : Int32, y14 = x2 + 1 := ⟨_, rfl⟩
        have k := k y14 ey14
        refine Ev_iinc (v := y14) (lo2 := [.ref 57, .int x1, .int y14, .int x3, .int y4]) hq_150 (show decode prog_7_method_25_code 94 = .ok (.iinc 2 1, 3) by decide +kernel) rfl (by rw [ey14]; rfl) rfl ?_
        refine Ev_goto (tgt := 191) hq_150 (show decode prog_7_method_25_code 97 = .ok (.goto 94, 3) by decide +kernel) (by decide) ?_
        obtain ⟨y15, ey15⟩ : ∃ y15 : Int32, y15 = x3 + 1 := ⟨_, rfl⟩
        have k := k y15 ey15
        refine Ev_iinc (v := y15) (lo2 := [.ref 57, .int x1, .int y14, .int y15, .int y4]) hq_150 (show decode prog_7_method_25_code 191 = .ok (.iinc 3 1, 3) by decide +kernel) rfl (by rw [ey15]; rfl) rfl ?_
        refine Ev_goto (tgt := 16) hq_150 (show decode prog_7_method_25_code 194 = .ok (.goto (-178), 3) by decide +kernel) (by decide) ?_
        exact k
    · have k := k.2 c5
      refine Ev_iload hq_150 (show decode prog_7_method_25_code 59 = .ok (.iload 4, 2) by decide +kernel) rfl ?_
      refine Ev_bipush (v := 11) hq_150 (show decode prog_7_method_25_code 61 = .ok (.bipush 11, 2) by decide +kernel) (by decide) ?_
      refine Ev_icmp_ge (tgt := 100) hq_150 (show decode prog_7_method_25_code 63 = .ok (.if_icmp .ge 37, 3) by decide +kernel) (by decide) (fun c16 => ?_) (fun c16 => ?_)
      · have k := k.1 c16
        refine Ev_iload hq_150 (show decode prog_7_method_25_code 100 = .ok (.iload 4, 2) by decide +kernel) rfl ?_
        refine Ev_bipush (v := 13) hq_150 (show decode prog_7_method_25_code 102 = .ok (.bipush 13, 2) by decide +kernel) (by decide) ?_
        refine Ev_icmp_ne (tgt := 134) hq_150 (show decode prog_7_method_25_code 104 = .ok (.if_icmp .ne 30, 3) by decide +kernel) (by decide) (fun c17 => ?_) (fun c17 => ?_)
        · have k := k.1 c17
          refine Ev_iload hq_150 (show decode prog_7_method_25_code 134 = .ok (.iload 4, 2) by decide +kernel) rfl ?_
          refine Ev_bipush (v := 19) hq_150 (show decode prog_7_method_25_code 136 = .ok (.bipush 19, 2) by decide +kernel) (by decide) ?_
          refine Ev_icmp_ne (tgt := 161) hq_150 (show decode prog_7_method_25_code 138 = .ok (.if_icmp .ne 23, 3) by decide +kernel) (by decide) (fun c18 => ?_) (fun c18 => ?_)
          · have k := k.1 c18
            obtain ⟨y19, ey19⟩ : ∃ y19 : Int32, y19 = x2 + (-1) := ⟨_, rfl⟩
            have k := k y19 ey19
            refine Ev_iinc (v := y19) (lo2 := [.ref 57, .int x1, .int y19, .int x3, .int y4]) hq_150 (show decode prog_7_method_25_code 161 = .ok (.iinc 2 (-1), 3) by decide +kernel) rfl (by rw [ey19]; rfl) rfl ?_
            refine Ev_aload_n hq_150 (show decode prog_7_method_25_code 164 = .ok (.aload_n 0, 1) by decide +kernel) rfl ?_
            refine Ev_getR hq_150 (show decode prog_7_method_25_code 165 = .ok (.getfield 49, 3) by decide +kernel) rfl (SGn hS (by decide)) (SGk hS rfl) (by decide) rfl (SGr hS rfl) ?_
            refine Ev_iload_n hq_150 (show decode prog_7_method_25_code 168 = .ok (.iload_n 2, 1) by decide +kernel) rfl ?_
            refine Ev_iconst (v := 1) hq_150 (show decode prog_7_method_25_code 169 = .ok (.iconst 1, 1) by decide +kernel) (by decide) ?_
            refine Ev_isub hq_150 (show decode prog_7_method_25_code 170 = .ok (.isub, 1) by decide +kernel) ?_
            refine Ev_iload hq_150 (show decode prog_7_method_25_code 171 = .ok (.iload 4, 2) by decide +kernel) rfl ?_
            refine Ev_aload_n hq_150 (show decode prog_7_method_25_code 173 = .ok (.aload_n 0, 1) by decide +kernel) rfl ?_
            refine Ev_getR hq_150 (show decode prog_7_method_25_code 174 = .ok (.getfield 49, 3) by decide +kernel) rfl (SGn hS (by decide)) (SGk hS rfl) (by decide) rfl (SGr hS rfl) ?_
            refine Ev_iload_n hq_150 (show decode prog_7_method_25_code 177 = .ok (.iload_n 2, 1) by decide +kernel) rfl ?_
            refine Ev_iconst (v := 1) hq_150 (show decode prog_7_method_25_code 178 = .ok (.iconst 1, 1) by decide +kernel) (by decide) ?_
            refine Ev_isub hq_150 (show decode prog_7_method_25_code 179 = .ok (.isub, 1) by decide +kernel) ?_
            obtain ⟨h20, k⟩ := k
            refine Ev_iald hq_150 (show decode prog_7_method_25_code 180 = .ok (.iaload, 1) by decide +kernel) (SGn hS (by decide)) (SGk hS rfl) (SGi hS rfl h20) ?_
            refine Ev_aload_n hq_150 (show decode prog_7_method_25_code 181 = .ok (.aload_n 0, 1) by decide +kernel) rfl ?_
            refine Ev_getR hq_150 (show decode prog_7_method_25_code 182 = .ok (.getfield 49, 3) by decide +kernel) rfl (SGn hS (by decide)) (SGk hS rfl) (by decide) rfl (SGr hS rfl) ?_
            refine Ev_iload_n hq_150 (show decode prog_7_method_25_code 185 = .ok (.iload_n 2, 1) by decide +kernel) rfl ?_
            obtain ⟨h21, k⟩ := k
            refine Ev_iald hq_150 (show decode prog_7_method_25_code 186 = .ok (.iaload, 1) by decide +kernel) (SGn hS (by decide)) (SGk hS rfl) (SGi hS rfl h21) ?_
            refine Ev_stat (as := [.int y4, .int (I 71 (y19 - 1).toNatClampNeg), .int (I 71 y19.toNatClampNeg)]) hq_150 (show decode prog_7_method_25_code 187 = .ok (.invokestatic 166, 3) by decide +kernel) rfl (Or.inl rfl) hq_151 rfl (z_le rfl) (c_Z_two y4 (I 71 (y19 - 1).toNatClampNeg) (I 71 y19.toNatClampNeg)) ?_
            obtain ⟨h22, k⟩ := k
            refine Ev_iast hq_150 (show decode prog_7_method_25_code 190 = .ok (.iastore, 1) by decide +kernel) (SGn hS (by decide)) (SGk hS rfl) (SGi hS rfl h22) ?_
            obtain ⟨I23, eI23⟩ : ∃ I23 : zI, I23 = z_up I 71 (y19 - 1).toNatClampNeg (f_Z_two y4 (I 71 (y19 - 1).toNatClampNeg) (I 71 y19.toNatClampNeg)) := ⟨_, rfl⟩
            have k := k I23 eI23
            rw [← eI23]
            obtain ⟨y24, ey24⟩ : ∃ y24 : Int32, y24 = x3 + 1 := ⟨_, rfl⟩
            have k := k y24 ey24
            refine Ev_iinc (v := y24) (lo2 := [.ref 57, .int x1, .int y19, .int y24, .int y4]) hq_150 (show decode prog_7_method_25_code 191 = .ok (.iinc 3 1, 3) by decide +kernel) rfl (by rw [ey24]; rfl) rfl ?_
            refine Ev_goto (tgt := 16) hq_150 (show decode prog_7_method_25_code 194 = .ok (.goto (-178), 3) by decide +kernel) (by decide) ?_
            exact k
          · have k := k.2 (Classical.not_not.mp c18)
            refine Ev_aload_n hq_150 (show decode prog_7_method_25_code 141 = .ok (.aload_n 0, 1) by decide +kernel) rfl ?_
            refine Ev_getR hq_150 (show decode prog_7_method_25_code 142 = .ok (.getfield 49, 3) by decide +kernel) rfl (SGn hS (by decide)) (SGk hS rfl) (by decide) rfl (SGr hS rfl) ?_
            refine Ev_iload_n hq_150 (show decode prog_7_method_25_code 145 = .ok (.iload_n 2, 1) by decide +kernel) rfl ?_
            refine Ev_iconst (v := 1) hq_150 (show decode prog_7_method_25_code 146 = .ok (.iconst 1, 1) by decide +kernel) (by decide) ?_
            refine Ev_isub hq_150 (show decode prog_7_method_25_code 147 = .ok (.isub, 1) by decide +kernel) ?_
            refine Ev_aload_n hq_150 (show decode prog_7_method_25_code 148 = .ok (.aload_n 0, 1) by decide +kernel) rfl ?_
            refine Ev_getR hq_150 (show decode prog_7_method_25_code 149 = .ok (.getfield 49, 3) by decide +kernel) rfl (SGn hS (by decide)) (SGk hS rfl) (by decide) rfl (SGr hS rfl) ?_
            refine Ev_iload_n hq_150 (show decode prog_7_method_25_code 152 = .ok (.iload_n 2, 1) by decide +kernel) rfl ?_
            refine Ev_iconst (v := 1) hq_150 (show decode prog_7_method_25_code 153 = .ok (.iconst 1, 1) by decide +kernel) (by decide) ?_
            refine Ev_isub hq_150 (show decode prog_7_method_25_code 154 = .ok (.isub, 1) by decide +kernel) ?_
            obtain ⟨h25, k⟩ := k
            refine Ev_iald hq_150 (show decode prog_7_method_25_code 155 = .ok (.iaload, 1) by decide +kernel) (SGn hS (by decide)) (SGk hS rfl) (SGi hS rfl h25) ?_
            refine Ev_ineg hq_150 (show decode prog_7_method_25_code 156 = .ok (.ineg, 1) by decide +kernel) ?_
            obtain ⟨h26, k⟩ := k
            refine Ev_iast hq_150 (show decode prog_7_method_25_code 157 = .ok (.iastore, 1) by decide +kernel) (SGn hS (by decide)) (SGk hS rfl) (SGi hS rfl h26) ?_
            obtain ⟨I27, eI27⟩ : ∃ I27 : zI, I27 = z_up I 71 (x2 - 1).toNatClampNeg (-(I 71 (x2 - 1).toNatClampNeg)) := ⟨_, rfl⟩
            have k := k I27 eI27
            rw [← eI27]
            refine Ev_goto (tgt := 191) hq_150 (show decode prog_7_method_25_code 158 = .ok (.goto 33, 3) by decide +kernel) (by decide) ?_
            obtain ⟨y28, ey28⟩ : ∃ y28 : Int32, y28 = x3 + 1 := ⟨_, rfl⟩
            have k := k y28 ey28
            refine Ev_iinc (v := y28) (lo2 := [.ref 57, .int x1, .int x2, .int y28, .int y4]) hq_150 (show decode prog_7_method_25_code 191 = .ok (.iinc 3 1, 3) by decide +kernel) rfl (by rw [ey28]; rfl) rfl ?_
            refine Ev_goto (tgt := 16) hq_150 (show decode prog_7_method_25_code 194 = .ok (.goto (-178), 3) by decide +kernel) (by decide) ?_
            exact k
        · have k := k.2 (Classical.not_not.mp c17)
          refine Ev_aload_n hq_150 (show decode prog_7_method_25_code 107 = .ok (.aload_n 0, 1) by decide +kernel) rfl ?_
          refine Ev_getR hq_150 (show decode prog_7_method_25_code 108 = .ok (.getfield 49, 3) by decide +kernel) rfl (SGn hS (by decide)) (SGk hS rfl) (by decide) rfl (SGr hS rfl) ?_
          refine Ev_iload_n hq_150 (show decode prog_7_method_25_code 111 = .ok (.iload_n 2, 1) by decide +kernel) rfl ?_
          refine Ev_iconst (v := 1) hq_150 (show decode prog_7_method_25_code 112 = .ok (.iconst 1, 1) by decide +kernel) (by decide) ?_
          refine Ev_isub hq_150 (show decode prog_7_method_25_code 113 = .ok (.isub, 1) by decide +kernel) ?_
          refine Ev_aload_n hq_150 (show decode prog_7_method_25_code 114 = .ok (.aload_n 0, 1) by decide +kernel) rfl ?_
          refine Ev_getR hq_150 (show decode prog_7_method_25_code 115 = .ok (.getfield 49, 3) by decide +kernel) rfl (SGn hS (by decide)) (SGk hS rfl) (by decide) rfl (SGr hS rfl) ?_
          refine Ev_iload_n hq_150 (show decode prog_7_method_25_code 118 = .ok (.iload_n 2, 1) by decide +kernel) rfl ?_
          refine Ev_iconst (v := 1) hq_150 (show decode prog_7_method_25_code 119 = .ok (.iconst 1, 1) by decide +kernel) (by decide) ?_
          refine Ev_isub hq_150 (show decode prog_7_method_25_code 120 = .ok (.isub, 1) by decide +kernel) ?_
          obtain ⟨h29, k⟩ := k
          refine Ev_iald hq_150 (show decode prog_7_method_25_code 121 = .ok (.iaload, 1) by decide +kernel) (SGn hS (by decide)) (SGk hS rfl) (SGi hS rfl h29) ?_
          refine Ev_if_ne (tgt := 129) hq_150 (show decode prog_7_method_25_code 122 = .ok (.ifCond .ne 7, 3) by decide +kernel) (by decide) (fun c30 => ?_) (fun c30 => ?_)
          · have k := k.1 c30
            refine Ev_iconst (v := 0) hq_150 (show decode prog_7_method_25_code 129 = .ok (.iconst 0, 1) by decide +kernel) (by decide) ?_
            obtain ⟨h31, k⟩ := k
            refine Ev_iast hq_150 (show decode prog_7_method_25_code 130 = .ok (.iastore, 1) by decide +kernel) (SGn hS (by decide)) (SGk hS rfl) (SGi hS rfl h31) ?_
            obtain ⟨I32, eI32⟩ : ∃ I32 : zI, I32 = z_up I 71 (x2 - 1).toNatClampNeg 0 := ⟨_, rfl⟩
            have k := k I32 eI32
            rw [← eI32]
            refine Ev_goto (tgt := 191) hq_150 (show decode prog_7_method_25_code 131 = .ok (.goto 60, 3) by decide +kernel) (by decide) ?_
            obtain ⟨y33, ey33⟩ : ∃ y33 : Int32, y33 = x3 + 1 := ⟨_, rfl⟩
            have k := k y33 ey33
            refine Ev_iinc (v := y33) (lo2 := [.ref 57, .int x1, .int x2, .int y33, .int y4]) hq_150 (show decode prog_7_method_25_code 191 = .ok (.iinc 3 1, 3) by decide +kernel) rfl (by rw [ey33]; rfl) rfl ?_
            refine Ev_goto (tgt := 16) hq_150 (show decode prog_7_method_25_code 194 = .ok (.goto (-178), 3) by decide +kernel) (by decide) ?_
            exact k
          · have k := k.2 (Classical.not_not.mp c30)
            refine Ev_iconst (v := 1) hq_150 (show decode prog_7_method_25_code 125 = .ok (.iconst 1, 1) by decide +kernel) (by decide) ?_
            refine Ev_goto (tgt := 130) hq_150 (show decode prog_7_method_25_code 126 = .ok (.goto 4, 3) by decide +kernel) (by decide) ?_
            obtain ⟨h34, k⟩ := k
            refine Ev_iast hq_150 (show decode prog_7_method_25_code 130 = .ok (.iastore, 1) by decide +kernel) (SGn hS (by decide)) (SGk hS rfl) (SGi hS rfl h34) ?_
            obtain ⟨I35, eI35⟩ : ∃ I35 : zI, I35 = z_up I 71 (x2 - 1).toNatClampNeg 1 := ⟨_, rfl⟩
            have k := k I35 eI35
            rw [← eI35]
            refine Ev_goto (tgt := 191) hq_150 (show decode prog_7_method_25_code 131 = .ok (.goto 60, 3) by decide +kernel) (by decide) ?_
            obtain ⟨y36, ey36⟩ : ∃ y36 : Int32, y36 = x3 + 1 := ⟨_, rfl⟩
            have k := k y36 ey36
            refine Ev_iinc (v := y36) (lo2 := [.ref 57, .int x1, .int x2, .int y36, .int y4]) hq_150 (show decode prog_7_method_25_code 191 = .ok (.iinc 3 1, 3) by decide +kernel) rfl (by rw [ey36]; rfl) rfl ?_
            refine Ev_goto (tgt := 16) hq_150 (show decode prog_7_method_25_code 194 = .ok (.goto (-178), 3) by decide +kernel) (by decide) ?_
            exact k
      · have k := k.2 c16
        refine Ev_aload_n hq_150 (show decode prog_7_method_25_code 66 = .ok (.aload_n 0, 1) by decide +kernel) rfl ?_
        refine Ev_getR hq_150 (show decode prog_7_method_25_code 67 = .ok (.getfield 49, 3) by decide +kernel) rfl (SGn hS (by decide)) (SGk hS rfl) (by decide) rfl (SGr hS rfl) ?_
        refine Ev_iload_n hq_150 (show decode prog_7_method_25_code 70 = .ok (.iload_n 2, 1) by decide +kernel) rfl ?_
        refine Ev_iload hq_150 (show decode prog_7_method_25_code 71 = .ok (.iload 4, 2) by decide +kernel) rfl ?_
        refine Ev_bipush (v := 11) hq_150 (show decode prog_7_method_25_code 73 = .ok (.bipush 11, 2) by decide +kernel) (by decide) ?_
        refine Ev_icmp_ge (tgt := 88) hq_150 (show decode prog_7_method_25_code 75 = .ok (.if_icmp .ge 13, 3) by decide +kernel) (by decide) (fun c37 => ?_) (fun c37 => ?_)
        · have k := k.1 c37
          refine Ev_iload hq_150 (show decode prog_7_method_25_code 88 = .ok (.iload 4, 2) by decide +kernel) rfl ?_
          refine Ev_ldc (v := 100000) hq_150 (show decode prog_7_method_25_code 90 = .ok (.ldc 152, 2) by decide +kernel) rfl ?_
          refine Ev_isub hq_150 (show decode prog_7_method_25_code 92 = .ok (.isub, 1) by decide +kernel) ?_
          obtain ⟨h38, k⟩ := k
          refine Ev_iast hq_150 (show decode prog_7_method_25_code 93 = .ok (.iastore, 1) by decide +kernel) (SGn hS (by decide)) (SGk hS rfl) (SGi hS rfl h38) ?_
          obtain ⟨I39, eI39⟩ : ∃ I39 : zI, I39 = z_up I 71 x2.toNatClampNeg (y4 - 100000) := ⟨_, rfl⟩
          have k := k I39 eI39
          rw [← eI39]
          obtain ⟨y40, ey40⟩ : ∃ y40 : Int32, y40 = x2 + 1 := ⟨_, rfl⟩
          have k := k y40 ey40
          refine Ev_iinc (v := y40) (lo2 := [.ref 57, .int x1, .int y40, .int x3, .int y4]) hq_150 (show decode prog_7_method_25_code 94 = .ok (.iinc 2 1, 3) by decide +kernel) rfl (by rw [ey40]; rfl) rfl ?_
          refine Ev_goto (tgt := 191) hq_150 (show decode prog_7_method_25_code 97 = .ok (.goto 94, 3) by decide +kernel) (by decide) ?_
          obtain ⟨y41, ey41⟩ : ∃ y41 : Int32, y41 = x3 + 1 := ⟨_, rfl⟩
          have k := k y41 ey41
          refine Ev_iinc (v := y41) (lo2 := [.ref 57, .int x1, .int y40, .int y41, .int y4]) hq_150 (show decode prog_7_method_25_code 191 = .ok (.iinc 3 1, 3) by decide +kernel) rfl (by rw [ey41]; rfl) rfl ?_
          refine Ev_goto (tgt := 16) hq_150 (show decode prog_7_method_25_code 194 = .ok (.goto (-178), 3) by decide +kernel) (by decide) ?_
          exact k
        · have k := k.2 c37
          refine Ev_aload_n hq_150 (show decode prog_7_method_25_code 78 = .ok (.aload_n 0, 1) by decide +kernel) rfl ?_
          refine Ev_getR hq_150 (show decode prog_7_method_25_code 79 = .ok (.getfield 52, 3) by decide +kernel) rfl (SGn hS (by decide)) (SGk hS rfl) (by decide) rfl (SGr hS rfl) ?_
          refine Ev_iload hq_150 (show decode prog_7_method_25_code 82 = .ok (.iload 4, 2) by decide +kernel) rfl ?_
          obtain ⟨h42, k⟩ := k
          refine Ev_iald hq_150 (show decode prog_7_method_25_code 84 = .ok (.iaload, 1) by decide +kernel) (SGn hS (by decide)) (SGk hS rfl) (SGi hS rfl h42) ?_
          refine Ev_goto (tgt := 93) hq_150 (show decode prog_7_method_25_code 85 = .ok (.goto 8, 3) by decide +kernel) (by decide) ?_
          obtain ⟨h43, k⟩ := k
          refine Ev_iast hq_150 (show decode prog_7_method_25_code 93 = .ok (.iastore, 1) by decide +kernel) (SGn hS (by decide)) (SGk hS rfl) (SGi hS rfl h43) ?_
          obtain ⟨I44, eI44⟩ : ∃ I44 : zI, I44 = z_up I 71 x2.toNatClampNeg (I 72 y4.toNatClampNeg) := ⟨_, rfl⟩
          have k := k I44 eI44
          rw [← eI44]
          obtain ⟨y45, ey45⟩ : ∃ y45 : Int32, y45 = x2 + 1 := ⟨_, rfl⟩
          have k := k y45 ey45
          refine Ev_iinc (v := y45) (lo2 := [.ref 57, .int x1, .int y45, .int x3, .int y4]) hq_150 (show decode prog_7_method_25_code 94 = .ok (.iinc 2 1, 3) by decide +kernel) rfl (by rw [ey45]; rfl) rfl ?_
          refine Ev_goto (tgt := 191) hq_150 (show decode prog_7_method_25_code 97 = .ok (.goto 94, 3) by decide +kernel) (by decide) ?_
          obtain ⟨y46, ey46⟩ : ∃ y46 : Int32, y46 = x3 + 1 := ⟨_, rfl⟩
          have k := k y46 ey46
          refine Ev_iinc (v := y46) (lo2 := [.ref 57, .int x1, .int y45, .int y46, .int y4]) hq_150 (show decode prog_7_method_25_code 191 = .ok (.iinc 3 1, 3) by decide +kernel) rfl (by rw [ey46]; rfl) rfl ?_
          refine Ev_goto (tgt := 16) hq_150 (show decode prog_7_method_25_code 194 = .ok (.goto (-178), 3) by decide +kernel) (by decide) ?_
          exact k
set_option maxRecDepth 20000 in
theorem wp_Z_within {X : Nat × (Nat → Int32)} {d : Nat} {G : zG} {I : zI} {res : Option Value × zG × zI} (x0 : Int32) (x1 : Int32) (x2 : Int32) 
    (k : (x1 ≤ x0 → (x0 ≤ x2 → res = (some (.int x0), G, I)) ∧ (¬ x0 ≤ x2 → res = (some (.int x2), G, I))) ∧ (¬ x1 ≤ x0 → res = (some (.int x1), G, I))) :
    Ev X d 152 0 [.int x0, .int x1, .int x2] [] G I res := by
  refine Ev_iload_n hq_152 (show decode prog_7_method_4_code 0 = .ok (.iload_n 0, 1) by decide +kernel) rfl ?_
  refine Ev_iload_n hq_152 (show decode prog_7_method_4_code 1 = .ok (.iload_n 1, 1) by decide +kernel) rfl ?_
  refine Ev_icmp_ge (tgt := 9) hq_152 (show decode prog_7_method_4_code 2 = .ok (.if_icmp .ge 7, 3) by decide +kernel) (by decide) (fun c1 => ?_) (fun c1 => ?_)
  · have k := k.1 c1
    refine Ev_iload_n hq_152 (show decode prog_7_method_4_code 9 = .ok (.iload_n 0, 1) by decide +kernel) rfl ?_
    refine Ev_iload_n hq_152 (show decode prog_7_method_4_code 10 = .ok (.iload_n 2, 1) by decide +kernel) rfl ?_
    refine Ev_icmp_le (tgt := 18) hq_152 (show decode prog_7_method_4_code 11 = .ok (.if_icmp .le 7, 3) by decide +kernel) (by decide) (fun c2 => ?_) (fun c2 => ?_)
    · have k := k.1 c2
      refine Ev_iload_n hq_152 (show decode prog_7_method_4_code 18 = .ok (.iload_n 0, 1) by decide +kernel) rfl ?_
      exact Ev_iret hq_152 (show decode prog_7_method_4_code 19 = .ok (.ireturn, 1) by decide +kernel) rfl k
    · have k := k.2 c2
      refine Ev_iload_n hq_152 (show decode prog_7_method_4_code 14 = .ok (.iload_n 2, 1) by decide +kernel) rfl ?_
      refine Ev_goto (tgt := 19) hq_152 (show decode prog_7_method_4_code 15 = .ok (.goto 4, 3) by decide +kernel) (by decide) ?_
      exact Ev_iret hq_152 (show decode prog_7_method_4_code 19 = .ok (.ireturn, 1) by decide +kernel) rfl k
  · have k := k.2 c1
    refine Ev_iload_n hq_152 (show decode prog_7_method_4_code 5 = .ok (.iload_n 1, 1) by decide +kernel) rfl ?_
    refine Ev_goto (tgt := 19) hq_152 (show decode prog_7_method_4_code 6 = .ok (.goto 13, 3) by decide +kernel) (by decide) ?_
    exact Ev_iret hq_152 (show decode prog_7_method_4_code 19 = .ok (.ireturn, 1) by decide +kernel) rfl k
def f_Z_within (x0 x1 x2 : Int32) : Int32 := (if x1 ≤ x0 then (if x0 ≤ x2 then x0 else x2) else x1)
theorem c_Z_within {X : Nat × (Nat → Int32)} {d : Nat} {G : zG} {I : zI} (x0 x1 x2 : Int32) : Cv X d 152 [.int x0, .int x1, .int x2] G I (some (.int (f_Z_within x0 x1 x2)), G, I) := by
  exact Cv.of hq_152 (z_le rfl) rfl (wp_Z_within x0 x1 x2 ⟨fun h0 => ⟨fun h1 => (by simp only [f_Z_within]; rw [if_pos h0]; rw [if_pos h1]), fun h1 => (by simp only [f_Z_within]; rw [if_pos h0]; rw [if_neg h1])⟩, fun h0 => (by simp only [f_Z_within]; rw [if_neg h0])⟩)
set_option maxRecDepth 20000 in
theorem wp_Z_asksOf {X : Nat × (Nat → Int32)} {d : Nat} {G : zG} {I : zI} {res : Option Value × zG × zI} (x1 : Int32) (x2 : Int32) (x3 : Int32) (x4 : Int32) (x5 : Int32) (x6 : Int32) (hS : SG G) 
    (k : (∀ I1 : zI, I1 = z_up I 72 (0 : Int32).toNatClampNeg x3 → (∀ I2 : zI, I2 = z_up I1 72 (1 : Int32).toNatClampNeg x4 → (∀ I3 : zI, I3 = z_up I2 72 (2 : Int32).toNatClampNeg x5 → (∀ I4 : zI, I4 = z_up I3 72 (3 : Int32).toNatClampNeg x6 → z_inr (5 * x2) 20 ∧ ((∀ I6 : zI, I6 = z_up I4 72 (4 : Int32).toNatClampNeg (I4 60 (5 * x2).toNatClampNeg) → z_inr x2 4 ∧ ((∀ I8 : zI, I8 = z_up I6 72 (5 : Int32).toNatClampNeg (I6 59 x2.toNatClampNeg) → ∃ (r11 : Int32) (I9 : zI), Cv X d 150 [.ref 57, .int x1] G I8 (some (.int r11), G, I9) ∧ ((¬ x1 = 0 → (¬ x1 = 1 → (¬ r11 = 0 → res = (some (.int 1), G, I9)) ∧ (r11 = 0 → res = (some (.int 0), G, I9))) ∧ (x1 = 1 → res = (some (.int (f_Z_within r11 0 99)), G, I9))) ∧ (x1 = 0 → res = (some (.int (f_Z_within r11 (-99) 99)), G, I9)))))))))))) :
    Ev X (d + 1) 149 0 [.ref 57, .int x1, .int x2, .int x3, .int x4, .int x5, .int x6, zU] [] G I res := by
  refine Ev_aload_n hq_149 (show decode prog_7_method_27_code 0 = .ok (.aload_n 0, 1) by decide +kernel) rfl ?_
  refine Ev_getR hq_149 (show decode prog_7_method_27_code 1 = .ok (.getfield 52, 3) by decide +kernel) rfl (SGn hS (by decide)) (SGk hS rfl) (by decide) rfl (SGr hS rfl) ?_
  refine Ev_iconst (v := 0) hq_149 (show decode prog_7_method_27_code 4 = .ok (.iconst 0, 1) by decide +kernel) (by decide) ?_
  refine Ev_iload_n hq_149 (show decode prog_7_method_27_code 5 = .ok (.iload_n 3, 1) by decide +kernel) rfl ?_
  refine Ev_iast hq_149 (show decode prog_7_method_27_code 6 = .ok (.iastore, 1) by decide +kernel) (SGn hS (by decide)) (SGk hS rfl) (SGi hS rfl (by decide)) ?_
  obtain ⟨I1, eI1⟩ : ∃ I1 : zI, I1 = z_up I 72 (0 : Int32).toNatClampNeg x3 := ⟨_, rfl⟩
  have k := k I1 eI1
  rw [← eI1]
  refine Ev_aload_n hq_149 (show decode prog_7_method_27_code 7 = .ok (.aload_n 0, 1) by decide +kernel) rfl ?_
  refine Ev_getR hq_149 (show decode prog_7_method_27_code 8 = .ok (.getfield 52, 3) by decide +kernel) rfl (SGn hS (by decide)) (SGk hS rfl) (by decide) rfl (SGr hS rfl) ?_
  refine Ev_iconst (v := 1) hq_149 (show decode prog_7_method_27_code 11 = .ok (.iconst 1, 1) by decide +kernel) (by decide) ?_
  refine Ev_iload hq_149 (show decode prog_7_method_27_code 12 = .ok (.iload 4, 2) by decide +kernel) rfl ?_
  refine Ev_iast hq_149 (show decode prog_7_method_27_code 14 = .ok (.iastore, 1) by decide +kernel) (SGn hS (by decide)) (SGk hS rfl) (SGi hS rfl (by decide)) ?_
  obtain ⟨I2, eI2⟩ : ∃ I2 : zI, I2 = z_up I1 72 (1 : Int32).toNatClampNeg x4 := ⟨_, rfl⟩
  have k := k I2 eI2
  rw [← eI2]
  refine Ev_aload_n hq_149 (show decode prog_7_method_27_code 15 = .ok (.aload_n 0, 1) by decide +kernel) rfl ?_
  refine Ev_getR hq_149 (show decode prog_7_method_27_code 16 = .ok (.getfield 52, 3) by decide +kernel) rfl (SGn hS (by decide)) (SGk hS rfl) (by decide) rfl (SGr hS rfl) ?_
  refine Ev_iconst (v := 2) hq_149 (show decode prog_7_method_27_code 19 = .ok (.iconst 2, 1) by decide +kernel) (by decide) ?_
  refine Ev_iload hq_149 (show decode prog_7_method_27_code 20 = .ok (.iload 5, 2) by decide +kernel) rfl ?_
  refine Ev_iast hq_149 (show decode prog_7_method_27_code 22 = .ok (.iastore, 1) by decide +kernel) (SGn hS (by decide)) (SGk hS rfl) (SGi hS rfl (by decide)) ?_
  obtain ⟨I3, eI3⟩ : ∃ I3 : zI, I3 = z_up I2 72 (2 : Int32).toNatClampNeg x5 := ⟨_, rfl⟩
  have k := k I3 eI3
  rw [← eI3]
  refine Ev_aload_n hq_149 (show decode prog_7_method_27_code 23 = .ok (.aload_n 0, 1) by decide +kernel) rfl ?_
  refine Ev_getR hq_149 (show decode prog_7_method_27_code 24 = .ok (.getfield 52, 3) by decide +kernel) rfl (SGn hS (by decide)) (SGk hS rfl) (by decide) rfl (SGr hS rfl) ?_
  refine Ev_iconst (v := 3) hq_149 (show decode prog_7_method_27_code 27 = .ok (.iconst 3, 1) by decide +kernel) (by decide) ?_
  refine Ev_iload hq_149 (show decode prog_7_method_27_code 28 = .ok (.iload 6, 2) by decide +kernel) rfl ?_
  refine Ev_iast hq_149 (show decode prog_7_method_27_code 30 = .ok (.iastore, 1) by decide +kernel) (SGn hS (by decide)) (SGk hS rfl) (SGi hS rfl (by decide)) ?_
  obtain ⟨I4, eI4⟩ : ∃ I4 : zI, I4 = z_up I3 72 (3 : Int32).toNatClampNeg x6 := ⟨_, rfl⟩
  have k := k I4 eI4
  rw [← eI4]
  refine Ev_aload_n hq_149 (show decode prog_7_method_27_code 31 = .ok (.aload_n 0, 1) by decide +kernel) rfl ?_
  refine Ev_getR hq_149 (show decode prog_7_method_27_code 32 = .ok (.getfield 52, 3) by decide +kernel) rfl (SGn hS (by decide)) (SGk hS rfl) (by decide) rfl (SGr hS rfl) ?_
  refine Ev_iconst (v := 4) hq_149 (show decode prog_7_method_27_code 35 = .ok (.iconst 4, 1) by decide +kernel) (by decide) ?_
  refine Ev_aload_n hq_149 (show decode prog_7_method_27_code 36 = .ok (.aload_n 0, 1) by decide +kernel) rfl ?_
  refine Ev_getR hq_149 (show decode prog_7_method_27_code 37 = .ok (.getfield 16, 3) by decide +kernel) rfl (SGn hS (by decide)) (SGk hS rfl) (by decide) rfl (SGr hS rfl) ?_
  refine Ev_iconst (v := 5) hq_149 (show decode prog_7_method_27_code 40 = .ok (.iconst 5, 1) by decide +kernel) (by decide) ?_
  refine Ev_iload_n hq_149 (show decode prog_7_method_27_code 41 = .ok (.iload_n 2, 1) by decide +kernel) rfl ?_
  refine Ev_imul hq_149 (show decode prog_7_method_27_code 42 = .ok (.imul, 1) by decide +kernel) ?_
  obtain ⟨h5, k⟩ := k
  refine Ev_iald hq_149 (show decode prog_7_method_27_code 43 = .ok (.iaload, 1) by decide +kernel) (SGn hS (by decide)) (SGk hS rfl) (SGi hS rfl h5) ?_
  refine Ev_iast hq_149 (show decode prog_7_method_27_code 44 = .ok (.iastore, 1) by decide +kernel) (SGn hS (by decide)) (SGk hS rfl) (SGi hS rfl (by decide)) ?_
  obtain ⟨I6, eI6⟩ : ∃ I6 : zI, I6 = z_up I4 72 (4 : Int32).toNatClampNeg (I4 60 (5 * x2).toNatClampNeg) := ⟨_, rfl⟩
  have k := k I6 eI6
  rw [← eI6]
  refine Ev_aload_n hq_149 (show decode prog_7_method_27_code 45 = .ok (.aload_n 0, 1) by decide +kernel) rfl ?_
  refine Ev_getR hq_149 (show decode prog_7_method_27_code 46 = .ok (.getfield 52, 3) by decide +kernel) rfl (SGn hS (by decide)) (SGk hS rfl) (by decide) rfl (SGr hS rfl) ?_
  refine Ev_iconst (v := 5) hq_149 (show decode prog_7_method_27_code 49 = .ok (.iconst 5, 1) by decide +kernel) (by decide) ?_
  refine Ev_aload_n hq_149 (show decode prog_7_method_27_code 50 = .ok (.aload_n 0, 1) by decide +kernel) rfl ?_
  refine Ev_getR hq_149 (show decode prog_7_method_27_code 51 = .ok (.getfield 13, 3) by decide +kernel) rfl (SGn hS (by decide)) (SGk hS rfl) (by decide) rfl (SGr hS rfl) ?_
  refine Ev_iload_n hq_149 (show decode prog_7_method_27_code 54 = .ok (.iload_n 2, 1) by decide +kernel) rfl ?_
  obtain ⟨h7, k⟩ := k
  refine Ev_iald hq_149 (show decode prog_7_method_27_code 55 = .ok (.iaload, 1) by decide +kernel) (SGn hS (by decide)) (SGk hS rfl) (SGi hS rfl h7) ?_
  refine Ev_iast hq_149 (show decode prog_7_method_27_code 56 = .ok (.iastore, 1) by decide +kernel) (SGn hS (by decide)) (SGk hS rfl) (SGi hS rfl (by decide)) ?_
  obtain ⟨I8, eI8⟩ : ∃ I8 : zI, I8 = z_up I6 72 (5 : Int32).toNatClampNeg (I6 59 x2.toNatClampNeg) := ⟨_, rfl⟩
  have k := k I8 eI8
  rw [← eI8]
  refine Ev_aload_n hq_149 (show decode prog_7_method_27_code 57 = .ok (.aload_n 0, 1) by decide +kernel) rfl ?_
  refine Ev_iload_n hq_149 (show decode prog_7_method_27_code 58 = .ok (.iload_n 1, 1) by decide +kernel) rfl ?_
  obtain ⟨r11, I9, h10, k⟩ := k
  refine Ev_virt (as := [.int x1]) hq_149 (show decode prog_7_method_27_code 59 = .ok (.invokevirtual 170, 3) by decide +kernel) rfl hq_150 rfl (z_le rfl) ⟨(SGn hS (by decide)), (SGk hS rfl), by decide⟩ h10 ?_
  refine Ev_istore (lo2 := [.ref 57, .int x1, .int x2, .int x3, .int x4, .int x5, .int x6, .int r11]) hq_149 (show decode prog_7_method_27_code 62 = .ok (.istore 7, 2) by decide +kernel) (z_le rfl) rfl ?_
  refine Ev_iload_n hq_149 (show decode prog_7_method_27_code 64 = .ok (.iload_n 1, 1) by decide +kernel) rfl ?_
  refine Ev_if_ne (tgt := 80) hq_149 (show decode prog_7_method_27_code 65 = .ok (.ifCond .ne 15, 3) by decide +kernel) (by decide) (fun c12 => ?_) (fun c12 => ?_)
  · have k := k.1 c12
    refine Ev_iload_n hq_149 (show decode prog_7_method_27_code 80 = .ok (.iload_n 1, 1) by decide +kernel) rfl ?_
    refine Ev_iconst (v := 1) hq_149 (show decode prog_7_method_27_code 81 = .ok (.iconst 1, 1) by decide +kernel) (by decide) ?_
    refine Ev_icmp_ne (tgt := 96) hq_149 (show decode prog_7_method_27_code 82 = .ok (.if_icmp .ne 14, 3) by decide +kernel) (by decide) (fun c13 => ?_) (fun c13 => ?_)
    · have k := k.1 c13
      refine Ev_iload hq_149 (show decode prog_7_method_27_code 96 = .ok (.iload 7, 2) by decide +kernel) rfl ?_
      refine Ev_if_ne (tgt := 105) hq_149 (show decode prog_7_method_27_code 98 = .ok (.ifCond .ne 7, 3) by decide +kernel) (by decide) (fun c14 => ?_) (fun c14 => ?_)
      · have k := k.1 c14
        refine Ev_iconst (v := 1) hq_149 (show decode prog_7_method_27_code 105 = .ok (.iconst 1, 1) by decide +kernel) (by decide) ?_
        exact Ev_iret hq_149 (show decode prog_7_method_27_code 106 = .ok (.ireturn, 1) by decide +kernel) rfl k
      · have k := k.2 (Classical.not_not.mp c14)
        refine Ev_iconst (v := 0) hq_149 (show decode prog_7_method_27_code 101 = .ok (.iconst 0, 1) by decide +kernel) (by decide) ?_
        refine Ev_goto (tgt := 106) hq_149 (show decode prog_7_method_27_code 102 = .ok (.goto 4, 3) by decide +kernel) (by decide) ?_
        exact Ev_iret hq_149 (show decode prog_7_method_27_code 106 = .ok (.ireturn, 1) by decide +kernel) rfl k
    · have k := k.2 (Classical.not_not.mp c13)
      refine Ev_iload hq_149 (show decode prog_7_method_27_code 85 = .ok (.iload 7, 2) by decide +kernel) rfl ?_
      refine Ev_iconst (v := 0) hq_149 (show decode prog_7_method_27_code 87 = .ok (.iconst 0, 1) by decide +kernel) (by decide) ?_
      refine Ev_bipush (v := 99) hq_149 (show decode prog_7_method_27_code 88 = .ok (.bipush 99, 2) by decide +kernel) (by decide) ?_
      refine Ev_stat (as := [.int r11, .int 0, .int 99]) hq_149 (show decode prog_7_method_27_code 90 = .ok (.invokestatic 173, 3) by decide +kernel) rfl (Or.inl rfl) hq_152 rfl (z_le rfl) (c_Z_within r11 0 99) ?_
      refine Ev_goto (tgt := 106) hq_149 (show decode prog_7_method_27_code 93 = .ok (.goto 13, 3) by decide +kernel) (by decide) ?_
      exact Ev_iret hq_149 (show decode prog_7_method_27_code 106 = .ok (.ireturn, 1) by decide +kernel) rfl k
  · have k := k.2 (Classical.not_not.mp c12)
    refine Ev_iload hq_149 (show decode prog_7_method_27_code 68 = .ok (.iload 7, 2) by decide +kernel) rfl ?_
    refine Ev_bipush (v := (-99)) hq_149 (show decode prog_7_method_27_code 70 = .ok (.bipush (-99), 2) by decide +kernel) (by decide) ?_
    refine Ev_bipush (v := 99) hq_149 (show decode prog_7_method_27_code 72 = .ok (.bipush 99, 2) by decide +kernel) (by decide) ?_
    refine Ev_stat (as := [.int r11, .int (-99), .int 99]) hq_149 (show decode prog_7_method_27_code 74 = .ok (.invokestatic 173, 3) by decide +kernel) rfl (Or.inl rfl) hq_152 rfl (z_le rfl) (c_Z_within r11 (-99) 99) ?_
    refine Ev_goto (tgt := 106) hq_149 (show decode prog_7_method_27_code 77 = .ok (.goto 29, 3) by decide +kernel) (by decide) ?_
    exact Ev_iret hq_149 (show decode prog_7_method_27_code 106 = .ok (.ireturn, 1) by decide +kernel) rfl k
set_option maxRecDepth 20000 in
theorem wp_Z_asks {X : Nat × (Nat → Int32)} {d : Nat} {G : zG} {I : zI} {res : Option Value × zG × zI} (x1 : Int32) (x2 : Int32) (x3 : Int32) (x4 : Int32) (x5 : Int32) (hd : 1 ≤ d) (hS : SG G) 
    (k : (¬ (f_Z_isShower I x5) = 0 → ((f_Z_in x1 0 2) = 0 → res = (some (.int (-2000)), G, I)) ∧ (¬ (f_Z_in x1 0 2) = 0 → ((f_Z_in x2 0 3999999) = 0 → res = (some (.int (-2000)), G, I)) ∧ (¬ (f_Z_in x2 0 3999999) = 0 → ((f_Z_in x3 0 999) = 0 → res = (some (.int (-2000)), G, I)) ∧ (¬ (f_Z_in x3 0 999) = 0 → ((f_Z_in x4 0 29) = 0 → res = (some (.int (-2000)), G, I)) ∧ (¬ (f_Z_in x4 0 29) = 0 → ∃ (r8 : Int32) (I6 : zI), Cv X d 149 [.ref 57, .int x1, .int x5, .int ((x2 / 2000) - 1000), .int ((x2 - x2 / 2000 * 2000) - 1000), .int x3, .int x4] G I (some (.int r8), G, I6) ∧ (res = (some (.int r8), G, I6))))))) ∧ ((f_Z_isShower I x5) = 0 → res = (some (.int (-1000)), G, I))) :
    Ev X (d + 1) 147 0 [.ref 57, .int x1, .int x2, .int x3, .int x4, .int x5, zU] [] G I res := by
  refine Ev_aload_n hq_147 (show decode prog_7_method_28_code 0 = .ok (.aload_n 0, 1) by decide +kernel) rfl ?_
  refine Ev_iload hq_147 (show decode prog_7_method_28_code 1 = .ok (.iload 5, 2) by decide +kernel) rfl ?_
  refine Ev_virt (as := [.int x5]) hq_147 (show decode prog_7_method_28_code 3 = .ok (.invokevirtual 176, 3) by decide +kernel) rfl hq_148 rfl (z_le rfl) ⟨(SGn hS (by decide)), (SGk hS rfl), by decide⟩ (c_Z_isShower (by omega) hS x5) ?_
  refine Ev_if_ne (tgt := 13) hq_147 (show decode prog_7_method_28_code 6 = .ok (.ifCond .ne 7, 3) by decide +kernel) (by decide) (fun c1 => ?_) (fun c1 => ?_)
  · have k := k.1 c1
    refine Ev_iload_n hq_147 (show decode prog_7_method_28_code 13 = .ok (.iload_n 1, 1) by decide +kernel) rfl ?_
    refine Ev_iconst (v := 0) hq_147 (show decode prog_7_method_28_code 14 = .ok (.iconst 0, 1) by decide +kernel) (by decide) ?_
    refine Ev_iconst (v := 2) hq_147 (show decode prog_7_method_28_code 15 = .ok (.iconst 2, 1) by decide +kernel) (by decide) ?_
    refine Ev_stat (as := [.int x1, .int 0, .int 2]) hq_147 (show decode prog_7_method_28_code 16 = .ok (.invokestatic 90, 3) by decide +kernel) rfl (Or.inl rfl) hq_131 rfl (z_le rfl) (c_Z_in x1 0 2) ?_
    refine Ev_if_eq (tgt := 58) hq_147 (show decode prog_7_method_28_code 19 = .ok (.ifCond .eq 39, 3) by decide +kernel) (by decide) (fun c2 => ?_) (fun c2 => ?_)
    · have k := k.1 c2
      refine Ev_iconst (v := 0) hq_147 (show decode prog_7_method_28_code 58 = .ok (.iconst 0, 1) by decide +kernel) (by decide) ?_
      refine Ev_istore (lo2 := [.ref 57, .int x1, .int x2, .int x3, .int x4, .int x5, .int 0]) hq_147 (show decode prog_7_method_28_code 59 = .ok (.istore 6, 2) by decide +kernel) (z_le rfl) rfl ?_
      refine Ev_iload hq_147 (show decode prog_7_method_28_code 61 = .ok (.iload 6, 2) by decide +kernel) rfl ?_
      refine Ev_if_eq (tgt := 97) hq_147 (show decode prog_7_method_28_code 63 = .ok (.ifCond .eq 34, 3) by decide +kernel) (by decide) (fun _ => ?_) (fun hz => absurd (by decide) hz)
      refine Ev_sipush (v := (-2000)) hq_147 (show decode prog_7_method_28_code 97 = .ok (.sipush (-2000), 3) by decide +kernel) (by decide) ?_
      exact Ev_iret hq_147 (show decode prog_7_method_28_code 100 = .ok (.ireturn, 1) by decide +kernel) rfl k
    · have k := k.2 c2
      refine Ev_iload_n hq_147 (show decode prog_7_method_28_code 22 = .ok (.iload_n 2, 1) by decide +kernel) rfl ?_
      refine Ev_iconst (v := 0) hq_147 (show decode prog_7_method_28_code 23 = .ok (.iconst 0, 1) by decide +kernel) (by decide) ?_
      refine Ev_ldc (v := 3999999) hq_147 (show decode prog_7_method_28_code 24 = .ok (.ldc 179, 2) by decide +kernel) rfl ?_
      refine Ev_stat (as := [.int x2, .int 0, .int 3999999]) hq_147 (show decode prog_7_method_28_code 26 = .ok (.invokestatic 90, 3) by decide +kernel) rfl (Or.inl rfl) hq_131 rfl (z_le rfl) (c_Z_in x2 0 3999999) ?_
      refine Ev_if_eq (tgt := 58) hq_147 (show decode prog_7_method_28_code 29 = .ok (.ifCond .eq 29, 3) by decide +kernel) (by decide) (fun c3 => ?_) (fun c3 => ?_)
      · have k := k.1 c3
        refine Ev_iconst (v := 0) hq_147 (show decode prog_7_method_28_code 58 = .ok (.iconst 0, 1) by decide +kernel) (by decide) ?_
        refine Ev_istore (lo2 := [.ref 57, .int x1, .int x2, .int x3, .int x4, .int x5, .int 0]) hq_147 (show decode prog_7_method_28_code 59 = .ok (.istore 6, 2) by decide +kernel) (z_le rfl) rfl ?_
        refine Ev_iload hq_147 (show decode prog_7_method_28_code 61 = .ok (.iload 6, 2) by decide +kernel) rfl ?_
        refine Ev_if_eq (tgt := 97) hq_147 (show decode prog_7_method_28_code 63 = .ok (.ifCond .eq 34, 3) by decide +kernel) (by decide) (fun _ => ?_) (fun hz => absurd (by decide) hz)
        refine Ev_sipush (v := (-2000)) hq_147 (show decode prog_7_method_28_code 97 = .ok (.sipush (-2000), 3) by decide +kernel) (by decide) ?_
        exact Ev_iret hq_147 (show decode prog_7_method_28_code 100 = .ok (.ireturn, 1) by decide +kernel) rfl k
      · have k := k.2 c3
        refine Ev_iload_n hq_147 (show decode prog_7_method_28_code 32 = .ok (.iload_n 3, 1) by decide +kernel) rfl ?_
        refine Ev_iconst (v := 0) hq_147 (show decode prog_7_method_28_code 33 = .ok (.iconst 0, 1) by decide +kernel) (by decide) ?_
        refine Ev_sipush (v := 999) hq_147 (show decode prog_7_method_28_code 34 = .ok (.sipush 999, 3) by decide +kernel) (by decide) ?_
        refine Ev_stat (as := [.int x3, .int 0, .int 999]) hq_147 (show decode prog_7_method_28_code 37 = .ok (.invokestatic 90, 3) by decide +kernel) rfl (Or.inl rfl) hq_131 rfl (z_le rfl) (c_Z_in x3 0 999) ?_
        refine Ev_if_eq (tgt := 58) hq_147 (show decode prog_7_method_28_code 40 = .ok (.ifCond .eq 18, 3) by decide +kernel) (by decide) (fun c4 => ?_) (fun c4 => ?_)
        · have k := k.1 c4
          refine Ev_iconst (v := 0) hq_147 (show decode prog_7_method_28_code 58 = .ok (.iconst 0, 1) by decide +kernel) (by decide) ?_
          refine Ev_istore (lo2 := [.ref 57, .int x1, .int x2, .int x3, .int x4, .int x5, .int 0]) hq_147 (show decode prog_7_method_28_code 59 = .ok (.istore 6, 2) by decide +kernel) (z_le rfl) rfl ?_
          refine Ev_iload hq_147 (show decode prog_7_method_28_code 61 = .ok (.iload 6, 2) by decide +kernel) rfl ?_
          refine Ev_if_eq (tgt := 97) hq_147 (show decode prog_7_method_28_code 63 = .ok (.ifCond .eq 34, 3) by decide +kernel) (by decide) (fun _ => ?_) (fun hz => absurd (by decide) hz)
          refine Ev_sipush (v := (-2000)) hq_147 (show decode prog_7_method_28_code 97 = .ok (.sipush (-2000), 3) by decide +kernel) (by decide) ?_
          exact Ev_iret hq_147 (show decode prog_7_method_28_code 100 = .ok (.ireturn, 1) by decide +kernel) rfl k
        · have k := k.2 c4
          refine Ev_iload hq_147 (show decode prog_7_method_28_code 43 = .ok (.iload 4, 2) by decide +kernel) rfl ?_
          refine Ev_iconst (v := 0) hq_147 (show decode prog_7_method_28_code 45 = .ok (.iconst 0, 1) by decide +kernel) (by decide) ?_
          refine Ev_bipush (v := 29) hq_147 (show decode prog_7_method_28_code 46 = .ok (.bipush 29, 2) by decide +kernel) (by decide) ?_
          refine Ev_stat (as := [.int x4, .int 0, .int 29]) hq_147 (show decode prog_7_method_28_code 48 = .ok (.invokestatic 90, 3) by decide +kernel) rfl (Or.inl rfl) hq_131 rfl (z_le rfl) (c_Z_in x4 0 29) ?_
          refine Ev_if_eq (tgt := 58) hq_147 (show decode prog_7_method_28_code 51 = .ok (.ifCond .eq 7, 3) by decide +kernel) (by decide) (fun c5 => ?_) (fun c5 => ?_)
          · have k := k.1 c5
            refine Ev_iconst (v := 0) hq_147 (show decode prog_7_method_28_code 58 = .ok (.iconst 0, 1) by decide +kernel) (by decide) ?_
            refine Ev_istore (lo2 := [.ref 57, .int x1, .int x2, .int x3, .int x4, .int x5, .int 0]) hq_147 (show decode prog_7_method_28_code 59 = .ok (.istore 6, 2) by decide +kernel) (z_le rfl) rfl ?_
            refine Ev_iload hq_147 (show decode prog_7_method_28_code 61 = .ok (.iload 6, 2) by decide +kernel) rfl ?_
            refine Ev_if_eq (tgt := 97) hq_147 (show decode prog_7_method_28_code 63 = .ok (.ifCond .eq 34, 3) by decide +kernel) (by decide) (fun _ => ?_) (fun hz => absurd (by decide) hz)
            refine Ev_sipush (v := (-2000)) hq_147 (show decode prog_7_method_28_code 97 = .ok (.sipush (-2000), 3) by decide +kernel) (by decide) ?_
            exact Ev_iret hq_147 (show decode prog_7_method_28_code 100 = .ok (.ireturn, 1) by decide +kernel) rfl k
          · have k := k.2 c5
            refine Ev_iconst (v := 1) hq_147 (show decode prog_7_method_28_code 54 = .ok (.iconst 1, 1) by decide +kernel) (by decide) ?_
            refine Ev_goto (tgt := 59) hq_147 (show decode prog_7_method_28_code 55 = .ok (.goto 4, 3) by decide +kernel) (by decide) ?_
            refine Ev_istore (lo2 := [.ref 57, .int x1, .int x2, .int x3, .int x4, .int x5, .int 1]) hq_147 (show decode prog_7_method_28_code 59 = .ok (.istore 6, 2) by decide +kernel) (z_le rfl) rfl ?_
            refine Ev_iload hq_147 (show decode prog_7_method_28_code 61 = .ok (.iload 6, 2) by decide +kernel) rfl ?_
            refine Ev_if_eq (tgt := 97) hq_147 (show decode prog_7_method_28_code 63 = .ok (.ifCond .eq 34, 3) by decide +kernel) (by decide) (fun hz => absurd hz (by decide)) (fun _ => ?_)
            refine Ev_aload_n hq_147 (show decode prog_7_method_28_code 66 = .ok (.aload_n 0, 1) by decide +kernel) rfl ?_
            refine Ev_iload_n hq_147 (show decode prog_7_method_28_code 67 = .ok (.iload_n 1, 1) by decide +kernel) rfl ?_
            refine Ev_iload hq_147 (show decode prog_7_method_28_code 68 = .ok (.iload 5, 2) by decide +kernel) rfl ?_
            refine Ev_iload_n hq_147 (show decode prog_7_method_28_code 70 = .ok (.iload_n 2, 1) by decide +kernel) rfl ?_
            refine Ev_sipush (v := 2000) hq_147 (show decode prog_7_method_28_code 71 = .ok (.sipush 2000, 3) by decide +kernel) (by decide) ?_
            refine Ev_idiv hq_147 (show decode prog_7_method_28_code 74 = .ok (.idiv, 1) by decide +kernel) (by decide) ?_
            refine Ev_sipush (v := 1000) hq_147 (show decode prog_7_method_28_code 75 = .ok (.sipush 1000, 3) by decide +kernel) (by decide) ?_
            refine Ev_isub hq_147 (show decode prog_7_method_28_code 78 = .ok (.isub, 1) by decide +kernel) ?_
            refine Ev_iload_n hq_147 (show decode prog_7_method_28_code 79 = .ok (.iload_n 2, 1) by decide +kernel) rfl ?_
            refine Ev_sipush (v := 2000) hq_147 (show decode prog_7_method_28_code 80 = .ok (.sipush 2000, 3) by decide +kernel) (by decide) ?_
            refine Ev_irem hq_147 (show decode prog_7_method_28_code 83 = .ok (.irem, 1) by decide +kernel) (by decide) ?_
            refine Ev_sipush (v := 1000) hq_147 (show decode prog_7_method_28_code 84 = .ok (.sipush 1000, 3) by decide +kernel) (by decide) ?_
            refine Ev_isub hq_147 (show decode prog_7_method_28_code 87 = .ok (.isub, 1) by decide +kernel) ?_
            refine Ev_iload_n hq_147 (show decode prog_7_method_28_code 88 = .ok (.iload_n 3, 1) by decide +kernel) rfl ?_
            refine Ev_iload hq_147 (show decode prog_7_method_28_code 89 = .ok (.iload 4, 2) by decide +kernel) rfl ?_
            obtain ⟨r8, I6, h7, k⟩ := k
            refine Ev_virt (as := [.int x1, .int x5, .int ((x2 / 2000) - 1000), .int ((x2 - x2 / 2000 * 2000) - 1000), .int x3, .int x4]) hq_147 (show decode prog_7_method_28_code 91 = .ok (.invokevirtual 180, 3) by decide +kernel) rfl hq_149 rfl (z_le rfl) ⟨(SGn hS (by decide)), (SGk hS rfl), by decide⟩ h7 ?_
            refine Ev_goto (tgt := 100) hq_147 (show decode prog_7_method_28_code 94 = .ok (.goto 6, 3) by decide +kernel) (by decide) ?_
            exact Ev_iret hq_147 (show decode prog_7_method_28_code 100 = .ok (.ireturn, 1) by decide +kernel) rfl k
  · have k := k.2 (Classical.not_not.mp c1)
    refine Ev_sipush (v := (-1000)) hq_147 (show decode prog_7_method_28_code 9 = .ok (.sipush (-1000), 3) by decide +kernel) (by decide) ?_
    exact Ev_iret hq_147 (show decode prog_7_method_28_code 12 = .ok (.ireturn, 1) by decide +kernel) rfl k
set_option maxRecDepth 20000 in
theorem wp_Z_shower {X : Nat × (Nat → Int32)} {d : Nat} {G : zG} {I : zI} {res : Option Value × zG × zI} (x1 : Int32) (x2 : Int32) (x3 : Int32) (hS : SG G) 
    (k : ((f_Z_in x1 0 59) = 0 → res = (some (.int (-2)), G, I)) ∧ (¬ (f_Z_in x1 0 59) = 0 → ((f_Z_in x2 0 4) = 0 → res = (some (.int (-2)), G, I)) ∧ (¬ (f_Z_in x2 0 4) = 0 → (¬ (f_Z_in x3 0 999) = 0 → (¬ (I 57 0) = 4 → z_inr (I 57 0) 4 ∧ (∀ I6 : zI, I6 = z_up I 58 (I 57 0).toNatClampNeg (x1 / 10) → z_inr (I6 57 0) 4 ∧ (∀ I8 : zI, I8 = z_up I6 59 (I6 57 0).toNatClampNeg (x1 - x1 / 10 * 10) → z_inr (5 * (I8 57 0)) 20 ∧ (∀ I10 : zI, I10 = z_up I8 60 (5 * (I8 57 0)).toNatClampNeg x2 → z_inr ((5 * (I10 57 0)) + 1) 20 ∧ (∀ I12 : zI, I12 = z_up I10 60 ((5 * (I10 57 0)) + 1).toNatClampNeg x3 → z_inr ((5 * (I12 57 0)) + 2) 20 ∧ (∀ I14 : zI, I14 = z_up I12 60 ((5 * (I12 57 0)) + 2).toNatClampNeg 0 → z_inr ((5 * (I14 57 0)) + 3) 20 ∧ (∀ I16 : zI, I16 = z_up I14 60 ((5 * (I14 57 0)) + 3).toNatClampNeg 8 → z_inr ((5 * (I16 57 0)) + 4) 20 ∧ (∀ I18 : zI, I18 = z_up I16 60 ((5 * (I16 57 0)) + 4).toNatClampNeg 1 → (∀ I19 : zI, I19 = z_up I18 57 0 ((I18 57 0) + 1) → res = (some (.int ((I19 57 0) - 1)), G, I19)))))))))) ∧ ((I 57 0) = 4 → res = (some (.int (-4)), G, I))) ∧ ((f_Z_in x3 0 999) = 0 → res = (some (.int (-2)), G, I))))) :
    Ev X (d + 1) 153 0 [.ref 57, .int x1, .int x2, .int x3] [] G I res := by
  refine Ev_iload_n hq_153 (show decode prog_7_method_29_code 0 = .ok (.iload_n 1, 1) by decide +kernel) rfl ?_
  refine Ev_iconst (v := 0) hq_153 (show decode prog_7_method_29_code 1 = .ok (.iconst 0, 1) by decide +kernel) (by decide) ?_
  refine Ev_bipush (v := 59) hq_153 (show decode prog_7_method_29_code 2 = .ok (.bipush 59, 2) by decide +kernel) (by decide) ?_
  refine Ev_stat (as := [.int x1, .int 0, .int 59]) hq_153 (show decode prog_7_method_29_code 4 = .ok (.invokestatic 90, 3) by decide +kernel) rfl (Or.inl rfl) hq_131 rfl (z_le rfl) (c_Z_in x1 0 59) ?_
  refine Ev_if_eq (tgt := 30) hq_153 (show decode prog_7_method_29_code 7 = .ok (.ifCond .eq 23, 3) by decide +kernel) (by decide) (fun c1 => ?_) (fun c1 => ?_)
  · have k := k.1 c1
    refine Ev_bipush (v := (-2)) hq_153 (show decode prog_7_method_29_code 30 = .ok (.bipush (-2), 2) by decide +kernel) (by decide) ?_
    exact Ev_iret hq_153 (show decode prog_7_method_29_code 32 = .ok (.ireturn, 1) by decide +kernel) rfl k
  · have k := k.2 c1
    refine Ev_iload_n hq_153 (show decode prog_7_method_29_code 10 = .ok (.iload_n 2, 1) by decide +kernel) rfl ?_
    refine Ev_iconst (v := 0) hq_153 (show decode prog_7_method_29_code 11 = .ok (.iconst 0, 1) by decide +kernel) (by decide) ?_
    refine Ev_iconst (v := 4) hq_153 (show decode prog_7_method_29_code 12 = .ok (.iconst 4, 1) by decide +kernel) (by decide) ?_
    refine Ev_stat (as := [.int x2, .int 0, .int 4]) hq_153 (show decode prog_7_method_29_code 13 = .ok (.invokestatic 90, 3) by decide +kernel) rfl (Or.inl rfl) hq_131 rfl (z_le rfl) (c_Z_in x2 0 4) ?_
    refine Ev_if_eq (tgt := 30) hq_153 (show decode prog_7_method_29_code 16 = .ok (.ifCond .eq 14, 3) by decide +kernel) (by decide) (fun c2 => ?_) (fun c2 => ?_)
    · have k := k.1 c2
      refine Ev_bipush (v := (-2)) hq_153 (show decode prog_7_method_29_code 30 = .ok (.bipush (-2), 2) by decide +kernel) (by decide) ?_
      exact Ev_iret hq_153 (show decode prog_7_method_29_code 32 = .ok (.ireturn, 1) by decide +kernel) rfl k
    · have k := k.2 c2
      refine Ev_iload_n hq_153 (show decode prog_7_method_29_code 19 = .ok (.iload_n 3, 1) by decide +kernel) rfl ?_
      refine Ev_iconst (v := 0) hq_153 (show decode prog_7_method_29_code 20 = .ok (.iconst 0, 1) by decide +kernel) (by decide) ?_
      refine Ev_sipush (v := 999) hq_153 (show decode prog_7_method_29_code 21 = .ok (.sipush 999, 3) by decide +kernel) (by decide) ?_
      refine Ev_stat (as := [.int x3, .int 0, .int 999]) hq_153 (show decode prog_7_method_29_code 24 = .ok (.invokestatic 90, 3) by decide +kernel) rfl (Or.inl rfl) hq_131 rfl (z_le rfl) (c_Z_in x3 0 999) ?_
      refine Ev_if_ne (tgt := 33) hq_153 (show decode prog_7_method_29_code 27 = .ok (.ifCond .ne 6, 3) by decide +kernel) (by decide) (fun c3 => ?_) (fun c3 => ?_)
      · have k := k.1 c3
        refine Ev_aload_n hq_153 (show decode prog_7_method_29_code 33 = .ok (.aload_n 0, 1) by decide +kernel) rfl ?_
        refine Ev_getI hq_153 (show decode prog_7_method_29_code 34 = .ok (.getfield 87, 3) by decide +kernel) rfl (SGn hS (by decide)) (SGk hS rfl) (by decide) rfl ?_
        refine Ev_iconst (v := 4) hq_153 (show decode prog_7_method_29_code 37 = .ok (.iconst 4, 1) by decide +kernel) (by decide) ?_
        refine Ev_icmp_ne (tgt := 44) hq_153 (show decode prog_7_method_29_code 38 = .ok (.if_icmp .ne 6, 3) by decide +kernel) (by decide) (fun c4 => ?_) (fun c4 => ?_)
        · have k := k.1 c4
          refine Ev_aload_n hq_153 (show decode prog_7_method_29_code 44 = .ok (.aload_n 0, 1) by decide +kernel) rfl ?_
          refine Ev_getR hq_153 (show decode prog_7_method_29_code 45 = .ok (.getfield 7, 3) by decide +kernel) rfl (SGn hS (by decide)) (SGk hS rfl) (by decide) rfl (SGr hS rfl) ?_
          refine Ev_aload_n hq_153 (show decode prog_7_method_29_code 48 = .ok (.aload_n 0, 1) by decide +kernel) rfl ?_
          refine Ev_getI hq_153 (show decode prog_7_method_29_code 49 = .ok (.getfield 87, 3) by decide +kernel) rfl (SGn hS (by decide)) (SGk hS rfl) (by decide) rfl ?_
          refine Ev_iload_n hq_153 (show decode prog_7_method_29_code 52 = .ok (.iload_n 1, 1) by decide +kernel) rfl ?_
          refine Ev_bipush (v := 10) hq_153 (show decode prog_7_method_29_code 53 = .ok (.bipush 10, 2) by decide +kernel) (by decide) ?_
          refine Ev_idiv hq_153 (show decode prog_7_method_29_code 55 = .ok (.idiv, 1) by decide +kernel) (by decide) ?_
          obtain ⟨h5, k⟩ := k
          refine Ev_iast hq_153 (show decode prog_7_method_29_code 56 = .ok (.iastore, 1) by decide +kernel) (SGn hS (by decide)) (SGk hS rfl) (SGi hS rfl h5) ?_
          obtain ⟨I6, eI6⟩ : ∃ I6 : zI, I6 = z_up I 58 (I 57 0).toNatClampNeg (x1 / 10) := ⟨_, rfl⟩
          have k := k I6 eI6
          rw [← eI6]
          refine Ev_aload_n hq_153 (show decode prog_7_method_29_code 57 = .ok (.aload_n 0, 1) by decide +kernel) rfl ?_
          refine Ev_getR hq_153 (show decode prog_7_method_29_code 58 = .ok (.getfield 13, 3) by decide +kernel) rfl (SGn hS (by decide)) (SGk hS rfl) (by decide) rfl (SGr hS rfl) ?_
          refine Ev_aload_n hq_153 (show decode prog_7_method_29_code 61 = .ok (.aload_n 0, 1) by decide +kernel) rfl ?_
          refine Ev_getI hq_153 (show decode prog_7_method_29_code 62 = .ok (.getfield 87, 3) by decide +kernel) rfl (SGn hS (by decide)) (SGk hS rfl) (by decide) rfl ?_
          refine Ev_iload_n hq_153 (show decode prog_7_method_29_code 65 = .ok (.iload_n 1, 1) by decide +kernel) rfl ?_
          refine Ev_bipush (v := 10) hq_153 (show decode prog_7_method_29_code 66 = .ok (.bipush 10, 2) by decide +kernel) (by decide) ?_
          refine Ev_irem hq_153 (show decode prog_7_method_29_code 68 = .ok (.irem, 1) by decide +kernel) (by decide) ?_
          obtain ⟨h7, k⟩ := k
          refine Ev_iast hq_153 (show decode prog_7_method_29_code 69 = .ok (.iastore, 1) by decide +kernel) (SGn hS (by decide)) (SGk hS rfl) (SGi hS rfl h7) ?_
          obtain ⟨I8, eI8⟩ : ∃ I8 : zI, I8 = z_up I6 59 (I6 57 0).toNatClampNeg (x1 - x1 / 10 * 10) := ⟨_, rfl⟩
          have k := k I8 eI8
          rw [← eI8]
          refine Ev_aload_n hq_153 (show decode prog_7_method_29_code 70 = .ok (.aload_n 0, 1) by decide +kernel) rfl ?_
          refine Ev_getR hq_153 (show decode prog_7_method_29_code 71 = .ok (.getfield 16, 3) by decide +kernel) rfl (SGn hS (by decide)) (SGk hS rfl) (by decide) rfl (SGr hS rfl) ?_
          refine Ev_iconst (v := 5) hq_153 (show decode prog_7_method_29_code 74 = .ok (.iconst 5, 1) by decide +kernel) (by decide) ?_
          refine Ev_aload_n hq_153 (show decode prog_7_method_29_code 75 = .ok (.aload_n 0, 1) by decide +kernel) rfl ?_
          refine Ev_getI hq_153 (show decode prog_7_method_29_code 76 = .ok (.getfield 87, 3) by decide +kernel) rfl (SGn hS (by decide)) (SGk hS rfl) (by decide) rfl ?_
          refine Ev_imul hq_153 (show decode prog_7_method_29_code 79 = .ok (.imul, 1) by decide +kernel) ?_
          refine Ev_iload_n hq_153 (show decode prog_7_method_29_code 80 = .ok (.iload_n 2, 1) by decide +kernel) rfl ?_
          obtain ⟨h9, k⟩ := k
          refine Ev_iast hq_153 (show decode prog_7_method_29_code 81 = .ok (.iastore, 1) by decide +kernel) (SGn hS (by decide)) (SGk hS rfl) (SGi hS rfl h9) ?_
          obtain ⟨I10, eI10⟩ : ∃ I10 : zI, I10 = z_up I8 60 (5 * (I8 57 0)).toNatClampNeg x2 := ⟨_, rfl⟩
          have k := k I10 eI10
          rw [← eI10]
          refine Ev_aload_n hq_153 (show decode prog_7_method_29_code 82 = .ok (.aload_n 0, 1) by decide +kernel) rfl ?_
          refine Ev_getR hq_153 (show decode prog_7_method_29_code 83 = .ok (.getfield 16, 3) by decide +kernel) rfl (SGn hS (by decide)) (SGk hS rfl) (by decide) rfl (SGr hS rfl) ?_
          refine Ev_iconst (v := 5) hq_153 (show decode prog_7_method_29_code 86 = .ok (.iconst 5, 1) by decide +kernel) (by decide) ?_
          refine Ev_aload_n hq_153 (show decode prog_7_method_29_code 87 = .ok (.aload_n 0, 1) by decide +kernel) rfl ?_
          refine Ev_getI hq_153 (show decode prog_7_method_29_code 88 = .ok (.getfield 87, 3) by decide +kernel) rfl (SGn hS (by decide)) (SGk hS rfl) (by decide) rfl ?_
          refine Ev_imul hq_153 (show decode prog_7_method_29_code 91 = .ok (.imul, 1) by decide +kernel) ?_
          refine Ev_iconst (v := 1) hq_153 (show decode prog_7_method_29_code 92 = .ok (.iconst 1, 1) by decide +kernel) (by decide) ?_
          refine Ev_iadd hq_153 (show decode prog_7_method_29_code 93 = .ok (.iadd, 1) by decide +kernel) ?_
          refine Ev_iload_n hq_153 (show decode prog_7_method_29_code 94 = .ok (.iload_n 3, 1) by decide +kernel) rfl ?_
          obtain ⟨h11, k⟩ := k
          refine Ev_iast hq_153 (show decode prog_7_method_29_code 95 = .ok (.iastore, 1) by decide +kernel) (SGn hS (by decide)) (SGk hS rfl) (SGi hS rfl h11) ?_
          obtain ⟨I12, eI12⟩ : ∃ I12 : zI, I12 = z_up I10 60 ((5 * (I10 57 0)) + 1).toNatClampNeg x3 := ⟨_, rfl⟩
          have k := k I12 eI12
          rw [← eI12]
          refine Ev_aload_n hq_153 (show decode prog_7_method_29_code 96 = .ok (.aload_n 0, 1) by decide +kernel) rfl ?_
          refine Ev_getR hq_153 (show decode prog_7_method_29_code 97 = .ok (.getfield 16, 3) by decide +kernel) rfl (SGn hS (by decide)) (SGk hS rfl) (by decide) rfl (SGr hS rfl) ?_
          refine Ev_iconst (v := 5) hq_153 (show decode prog_7_method_29_code 100 = .ok (.iconst 5, 1) by decide +kernel) (by decide) ?_
          refine Ev_aload_n hq_153 (show decode prog_7_method_29_code 101 = .ok (.aload_n 0, 1) by decide +kernel) rfl ?_
          refine Ev_getI hq_153 (show decode prog_7_method_29_code 102 = .ok (.getfield 87, 3) by decide +kernel) rfl (SGn hS (by decide)) (SGk hS rfl) (by decide) rfl ?_
          refine Ev_imul hq_153 (show decode prog_7_method_29_code 105 = .ok (.imul, 1) by decide +kernel) ?_
          refine Ev_iconst (v := 2) hq_153 (show decode prog_7_method_29_code 106 = .ok (.iconst 2, 1) by decide +kernel) (by decide) ?_
          refine Ev_iadd hq_153 (show decode prog_7_method_29_code 107 = .ok (.iadd, 1) by decide +kernel) ?_
          refine Ev_iconst (v := 0) hq_153 (show decode prog_7_method_29_code 108 = .ok (.iconst 0, 1) by decide +kernel) (by decide) ?_
          obtain ⟨h13, k⟩ := k
          refine Ev_iast hq_153 (show decode prog_7_method_29_code 109 = .ok (.iastore, 1) by decide +kernel) (SGn hS (by decide)) (SGk hS rfl) (SGi hS rfl h13) ?_
          obtain ⟨I14, eI14⟩ : ∃ I14 : zI, I14 = z_up I12 60 ((5 * (I12 57 0)) + 2).toNatClampNeg 0 := ⟨_, rfl⟩
          have k := k I14 eI14
          rw [← eI14]
          refine Ev_aload_n hq_153 (show decode prog_7_method_29_code 110 = .ok (.aload_n 0, 1) by decide +kernel) rfl ?_
          refine Ev_getR hq_153 (show decode prog_7_method_29_code 111 = .ok (.getfield 16, 3) by decide +kernel) rfl (SGn hS (by decide)) (SGk hS rfl) (by decide) rfl (SGr hS rfl) ?_
          refine Ev_iconst (v := 5) hq_153 (show decode prog_7_method_29_code 114 = .ok (.iconst 5, 1) by decide +kernel) (by decide) ?_
          refine Ev_aload_n hq_153 (show decode prog_7_method_29_code 115 = .ok (.aload_n 0, 1) by decide +kernel) rfl ?_
          refine Ev_getI hq_153 (show decode prog_7_method_29_code 116 = .ok (.getfield 87, 3) by decide +kernel) rfl (SGn hS (by decide)) (SGk hS rfl) (by decide) rfl ?_
          refine Ev_imul hq_153 (show decode prog_7_method_29_code 119 = .ok (.imul, 1) by decide +kernel) ?_
          refine Ev_iconst (v := 3) hq_153 (show decode prog_7_method_29_code 120 = .ok (.iconst 3, 1) by decide +kernel) (by decide) ?_
          refine Ev_iadd hq_153 (show decode prog_7_method_29_code 121 = .ok (.iadd, 1) by decide +kernel) ?_
          refine Ev_bipush (v := 8) hq_153 (show decode prog_7_method_29_code 122 = .ok (.bipush 8, 2) by decide +kernel) (by decide) ?_
          obtain ⟨h15, k⟩ := k
          refine Ev_iast hq_153 (show decode prog_7_method_29_code 124 = .ok (.iastore, 1) by decide +kernel) (SGn hS (by decide)) (SGk hS rfl) (SGi hS rfl h15) ?_
          obtain ⟨I16, eI16⟩ : ∃ I16 : zI, I16 = z_up I14 60 ((5 * (I14 57 0)) + 3).toNatClampNeg 8 := ⟨_, rfl⟩
          have k := k I16 eI16
          rw [← eI16]
          refine Ev_aload_n hq_153 (show decode prog_7_method_29_code 125 = .ok (.aload_n 0, 1) by decide +kernel) rfl ?_
          refine Ev_getR hq_153 (show decode prog_7_method_29_code 126 = .ok (.getfield 16, 3) by decide +kernel) rfl (SGn hS (by decide)) (SGk hS rfl) (by decide) rfl (SGr hS rfl) ?_
          refine Ev_iconst (v := 5) hq_153 (show decode prog_7_method_29_code 129 = .ok (.iconst 5, 1) by decide +kernel) (by decide) ?_
          refine Ev_aload_n hq_153 (show decode prog_7_method_29_code 130 = .ok (.aload_n 0, 1) by decide +kernel) rfl ?_
          refine Ev_getI hq_153 (show decode prog_7_method_29_code 131 = .ok (.getfield 87, 3) by decide +kernel) rfl (SGn hS (by decide)) (SGk hS rfl) (by decide) rfl ?_
          refine Ev_imul hq_153 (show decode prog_7_method_29_code 134 = .ok (.imul, 1) by decide +kernel) ?_
          refine Ev_iconst (v := 4) hq_153 (show decode prog_7_method_29_code 135 = .ok (.iconst 4, 1) by decide +kernel) (by decide) ?_
          refine Ev_iadd hq_153 (show decode prog_7_method_29_code 136 = .ok (.iadd, 1) by decide +kernel) ?_
          refine Ev_iconst (v := 1) hq_153 (show decode prog_7_method_29_code 137 = .ok (.iconst 1, 1) by decide +kernel) (by decide) ?_
          obtain ⟨h17, k⟩ := k
          refine Ev_iast hq_153 (show decode prog_7_method_29_code 138 = .ok (.iastore, 1) by decide +kernel) (SGn hS (by decide)) (SGk hS rfl) (SGi hS rfl h17) ?_
          obtain ⟨I18, eI18⟩ : ∃ I18 : zI, I18 = z_up I16 60 ((5 * (I16 57 0)) + 4).toNatClampNeg 1 := ⟨_, rfl⟩
          have k := k I18 eI18
          rw [← eI18]
          refine Ev_aload_n hq_153 (show decode prog_7_method_29_code 139 = .ok (.aload_n 0, 1) by decide +kernel) rfl ?_
          refine Ev_dup hq_153 (show decode prog_7_method_29_code 140 = .ok (.dup, 1) by decide +kernel) rfl ?_
          refine Ev_getI hq_153 (show decode prog_7_method_29_code 141 = .ok (.getfield 87, 3) by decide +kernel) rfl (SGn hS (by decide)) (SGk hS rfl) (by decide) rfl ?_
          refine Ev_iconst (v := 1) hq_153 (show decode prog_7_method_29_code 144 = .ok (.iconst 1, 1) by decide +kernel) (by decide) ?_
          refine Ev_iadd hq_153 (show decode prog_7_method_29_code 145 = .ok (.iadd, 1) by decide +kernel) ?_
          refine Ev_putI hq_153 (show decode prog_7_method_29_code 146 = .ok (.putfield 87, 3) by decide +kernel) rfl (SGn hS (by decide)) (SGk hS rfl) (by decide) (by decide) rfl (fun hz => by cases hz) ?_
          obtain ⟨I19, eI19⟩ : ∃ I19 : zI, I19 = z_up I18 57 0 ((I18 57 0) + 1) := ⟨_, rfl⟩
          have k := k I19 eI19
          rw [← eI19]
          refine Ev_aload_n hq_153 (show decode prog_7_method_29_code 149 = .ok (.aload_n 0, 1) by decide +kernel) rfl ?_
          refine Ev_getI hq_153 (show decode prog_7_method_29_code 150 = .ok (.getfield 87, 3) by decide +kernel) rfl (SGn hS (by decide)) (SGk hS rfl) (by decide) rfl ?_
          refine Ev_iconst (v := 1) hq_153 (show decode prog_7_method_29_code 153 = .ok (.iconst 1, 1) by decide +kernel) (by decide) ?_
          refine Ev_isub hq_153 (show decode prog_7_method_29_code 154 = .ok (.isub, 1) by decide +kernel) ?_
          exact Ev_iret hq_153 (show decode prog_7_method_29_code 155 = .ok (.ireturn, 1) by decide +kernel) rfl k
        · have k := k.2 (Classical.not_not.mp c4)
          refine Ev_bipush (v := (-4)) hq_153 (show decode prog_7_method_29_code 41 = .ok (.bipush (-4), 2) by decide +kernel) (by decide) ?_
          exact Ev_iret hq_153 (show decode prog_7_method_29_code 43 = .ok (.ireturn, 1) by decide +kernel) rfl k
      · have k := k.2 (Classical.not_not.mp c3)
        refine Ev_bipush (v := (-2)) hq_153 (show decode prog_7_method_29_code 30 = .ok (.bipush (-2), 2) by decide +kernel) (by decide) ?_
        exact Ev_iret hq_153 (show decode prog_7_method_29_code 32 = .ok (.ireturn, 1) by decide +kernel) rfl k
set_option maxRecDepth 20000 in
theorem wp_Z_most {X : Nat × (Nat → Int32)} {d : Nat} {G : zG} {I : zI} {res : Option Value × zG × zI} (x0 : Int32) 
    (k : (¬ x0 = 0 → (¬ x0 = 3 → (¬ x0 = 4 → res = (some (.int 999), G, I)) ∧ (x0 = 4 → res = (some (.int 1), G, I))) ∧ (x0 = 3 → res = (some (.int 16), G, I))) ∧ (x0 = 0 → res = (some (.int 4), G, I))) :
    Ev X d 155 0 [.int x0] [] G I res := by
  refine Ev_iload_n hq_155 (show decode prog_7_method_30_code 0 = .ok (.iload_n 0, 1) by decide +kernel) rfl ?_
  refine Ev_if_ne (tgt := 8) hq_155 (show decode prog_7_method_30_code 1 = .ok (.ifCond .ne 7, 3) by decide +kernel) (by decide) (fun c1 => ?_) (fun c1 => ?_)
  · have k := k.1 c1
    refine Ev_iload_n hq_155 (show decode prog_7_method_30_code 8 = .ok (.iload_n 0, 1) by decide +kernel) rfl ?_
    refine Ev_iconst (v := 3) hq_155 (show decode prog_7_method_30_code 9 = .ok (.iconst 3, 1) by decide +kernel) (by decide) ?_
    refine Ev_icmp_ne (tgt := 18) hq_155 (show decode prog_7_method_30_code 10 = .ok (.if_icmp .ne 8, 3) by decide +kernel) (by decide) (fun c2 => ?_) (fun c2 => ?_)
    · have k := k.1 c2
      refine Ev_iload_n hq_155 (show decode prog_7_method_30_code 18 = .ok (.iload_n 0, 1) by decide +kernel) rfl ?_
      refine Ev_iconst (v := 4) hq_155 (show decode prog_7_method_30_code 19 = .ok (.iconst 4, 1) by decide +kernel) (by decide) ?_
      refine Ev_icmp_ne (tgt := 27) hq_155 (show decode prog_7_method_30_code 20 = .ok (.if_icmp .ne 7, 3) by decide +kernel) (by decide) (fun c3 => ?_) (fun c3 => ?_)
      · have k := k.1 c3
        refine Ev_sipush (v := 999) hq_155 (show decode prog_7_method_30_code 27 = .ok (.sipush 999, 3) by decide +kernel) (by decide) ?_
        exact Ev_iret hq_155 (show decode prog_7_method_30_code 30 = .ok (.ireturn, 1) by decide +kernel) rfl k
      · have k := k.2 (Classical.not_not.mp c3)
        refine Ev_iconst (v := 1) hq_155 (show decode prog_7_method_30_code 23 = .ok (.iconst 1, 1) by decide +kernel) (by decide) ?_
        refine Ev_goto (tgt := 30) hq_155 (show decode prog_7_method_30_code 24 = .ok (.goto 6, 3) by decide +kernel) (by decide) ?_
        exact Ev_iret hq_155 (show decode prog_7_method_30_code 30 = .ok (.ireturn, 1) by decide +kernel) rfl k
    · have k := k.2 (Classical.not_not.mp c2)
      refine Ev_bipush (v := 16) hq_155 (show decode prog_7_method_30_code 13 = .ok (.bipush 16, 2) by decide +kernel) (by decide) ?_
      refine Ev_goto (tgt := 30) hq_155 (show decode prog_7_method_30_code 15 = .ok (.goto 15, 3) by decide +kernel) (by decide) ?_
      exact Ev_iret hq_155 (show decode prog_7_method_30_code 30 = .ok (.ireturn, 1) by decide +kernel) rfl k
  · have k := k.2 (Classical.not_not.mp c1)
    refine Ev_iconst (v := 4) hq_155 (show decode prog_7_method_30_code 4 = .ok (.iconst 4, 1) by decide +kernel) (by decide) ?_
    refine Ev_goto (tgt := 30) hq_155 (show decode prog_7_method_30_code 5 = .ok (.goto 25, 3) by decide +kernel) (by decide) ?_
    exact Ev_iret hq_155 (show decode prog_7_method_30_code 30 = .ok (.ireturn, 1) by decide +kernel) rfl k
def f_Z_most (x0 : Int32) : Int32 := (if x0 = 0 then 4 else (if x0 = 3 then 16 else (if x0 = 4 then 1 else 999)))
theorem c_Z_most {X : Nat × (Nat → Int32)} {d : Nat} {G : zG} {I : zI} (x0 : Int32) : Cv X d 155 [.int x0] G I (some (.int (f_Z_most x0)), G, I) := by
  exact Cv.of hq_155 (z_le rfl) rfl (wp_Z_most x0 ⟨fun h0 => ⟨fun h1 => ⟨fun h2 => (by simp only [f_Z_most]; rw [if_neg h0]; rw [if_neg h1]; rw [if_neg h2]), fun h2 => (by simp only [f_Z_most]; rw [if_neg h0]; rw [if_neg h1]; rw [if_pos h2])⟩, fun h1 => (by simp only [f_Z_most]; rw [if_neg h0]; rw [if_pos h1])⟩, fun h0 => (by simp only [f_Z_most]; rw [if_pos h0])⟩)
set_option maxRecDepth 20000 in
theorem wp_Z_set {X : Nat × (Nat → Int32)} {d : Nat} {G : zG} {I : zI} {res : Option Value × zG × zI} (x1 : Int32) (x2 : Int32) (x3 : Int32) (hd : 1 ≤ d) (hS : SG G) 
    (k : (¬ (f_Z_isShower I x1) = 0 → ((f_Z_in x2 0 4) = 0 → res = (some (.int (-7)), G, I)) ∧ (¬ (f_Z_in x2 0 4) = 0 → (¬ (f_Z_in x3 0 (f_Z_most x2)) = 0 → z_inr ((5 * x1) + x2) 20 ∧ (∀ y5 : Int32, y5 = (I 60 ((5 * x1) + x2).toNatClampNeg) → z_inr ((5 * x1) + x2) 20 ∧ (∀ I7 : zI, I7 = z_up I 60 ((5 * x1) + x2).toNatClampNeg x3 → res = (some (.int y5), G, I7)))) ∧ ((f_Z_in x3 0 (f_Z_most x2)) = 0 → res = (some (.int (-7)), G, I)))) ∧ ((f_Z_isShower I x1) = 0 → res = (some (.int (-5)), G, I))) :
    Ev X (d + 1) 154 0 [.ref 57, .int x1, .int x2, .int x3, zU] [] G I res := by
  refine Ev_aload_n hq_154 (show decode prog_7_method_31_code 0 = .ok (.aload_n 0, 1) by decide +kernel) rfl ?_
  refine Ev_iload_n hq_154 (show decode prog_7_method_31_code 1 = .ok (.iload_n 1, 1) by decide +kernel) rfl ?_
  refine Ev_virt (as := [.int x1]) hq_154 (show decode prog_7_method_31_code 2 = .ok (.invokevirtual 176, 3) by decide +kernel) rfl hq_148 rfl (z_le rfl) ⟨(SGn hS (by decide)), (SGk hS rfl), by decide⟩ (c_Z_isShower (by omega) hS x1) ?_
  refine Ev_if_ne (tgt := 11) hq_154 (show decode prog_7_method_31_code 5 = .ok (.ifCond .ne 6, 3) by decide +kernel) (by decide) (fun c1 => ?_) (fun c1 => ?_)
  · have k := k.1 c1
    refine Ev_iload_n hq_154 (show decode prog_7_method_31_code 11 = .ok (.iload_n 2, 1) by decide +kernel) rfl ?_
    refine Ev_iconst (v := 0) hq_154 (show decode prog_7_method_31_code 12 = .ok (.iconst 0, 1) by decide +kernel) (by decide) ?_
    refine Ev_iconst (v := 4) hq_154 (show decode prog_7_method_31_code 13 = .ok (.iconst 4, 1) by decide +kernel) (by decide) ?_
    refine Ev_stat (as := [.int x2, .int 0, .int 4]) hq_154 (show decode prog_7_method_31_code 14 = .ok (.invokestatic 90, 3) by decide +kernel) rfl (Or.inl rfl) hq_131 rfl (z_le rfl) (c_Z_in x2 0 4) ?_
    refine Ev_if_eq (tgt := 32) hq_154 (show decode prog_7_method_31_code 17 = .ok (.ifCond .eq 15, 3) by decide +kernel) (by decide) (fun c2 => ?_) (fun c2 => ?_)
    · have k := k.1 c2
      refine Ev_bipush (v := (-7)) hq_154 (show decode prog_7_method_31_code 32 = .ok (.bipush (-7), 2) by decide +kernel) (by decide) ?_
      exact Ev_iret hq_154 (show decode prog_7_method_31_code 34 = .ok (.ireturn, 1) by decide +kernel) rfl k
    · have k := k.2 c2
      refine Ev_iload_n hq_154 (show decode prog_7_method_31_code 20 = .ok (.iload_n 3, 1) by decide +kernel) rfl ?_
      refine Ev_iconst (v := 0) hq_154 (show decode prog_7_method_31_code 21 = .ok (.iconst 0, 1) by decide +kernel) (by decide) ?_
      refine Ev_iload_n hq_154 (show decode prog_7_method_31_code 22 = .ok (.iload_n 2, 1) by decide +kernel) rfl ?_
      refine Ev_stat (as := [.int x2]) hq_154 (show decode prog_7_method_31_code 23 = .ok (.invokestatic 184, 3) by decide +kernel) rfl (Or.inl rfl) hq_155 rfl (z_le rfl) (c_Z_most x2) ?_
      refine Ev_stat (as := [.int x3, .int 0, .int (f_Z_most x2)]) hq_154 (show decode prog_7_method_31_code 26 = .ok (.invokestatic 90, 3) by decide +kernel) rfl (Or.inl rfl) hq_131 rfl (z_le rfl) (c_Z_in x3 0 (f_Z_most x2)) ?_
      refine Ev_if_ne (tgt := 35) hq_154 (show decode prog_7_method_31_code 29 = .ok (.ifCond .ne 6, 3) by decide +kernel) (by decide) (fun c3 => ?_) (fun c3 => ?_)
      · have k := k.1 c3
        refine Ev_aload_n hq_154 (show decode prog_7_method_31_code 35 = .ok (.aload_n 0, 1) by decide +kernel) rfl ?_
        refine Ev_getR hq_154 (show decode prog_7_method_31_code 36 = .ok (.getfield 16, 3) by decide +kernel) rfl (SGn hS (by decide)) (SGk hS rfl) (by decide) rfl (SGr hS rfl) ?_
        refine Ev_iconst (v := 5) hq_154 (show decode prog_7_method_31_code 39 = .ok (.iconst 5, 1) by decide +kernel) (by decide) ?_
        refine Ev_iload_n hq_154 (show decode prog_7_method_31_code 40 = .ok (.iload_n 1, 1) by decide +kernel) rfl ?_
        refine Ev_imul hq_154 (show decode prog_7_method_31_code 41 = .ok (.imul, 1) by decide +kernel) ?_
        refine Ev_iload_n hq_154 (show decode prog_7_method_31_code 42 = .ok (.iload_n 2, 1) by decide +kernel) rfl ?_
        refine Ev_iadd hq_154 (show decode prog_7_method_31_code 43 = .ok (.iadd, 1) by decide +kernel) ?_
        obtain ⟨h4, k⟩ := k
        refine Ev_iald hq_154 (show decode prog_7_method_31_code 44 = .ok (.iaload, 1) by decide +kernel) (SGn hS (by decide)) (SGk hS rfl) (SGi hS rfl h4) ?_
        obtain ⟨y5, ey5⟩ : ∃ y5 : Int32, y5 = (I 60 ((5 * x1) + x2).toNatClampNeg) := ⟨_, rfl⟩
        have k := k y5 ey5
        rw [← ey5]
        refine Ev_istore (lo2 := [.ref 57, .int x1, .int x2, .int x3, .int y5]) hq_154 (show decode prog_7_method_31_code 45 = .ok (.istore 4, 2) by decide +kernel) (z_le rfl) rfl ?_
        refine Ev_aload_n hq_154 (show decode prog_7_method_31_code 47 = .ok (.aload_n 0, 1) by decide +kernel) rfl ?_
        refine Ev_getR hq_154 (show decode prog_7_method_31_code 48 = .ok (.getfield 16, 3) by decide +kernel) rfl (SGn hS (by decide)) (SGk hS rfl) (by decide) rfl (SGr hS rfl) ?_
        refine Ev_iconst (v := 5) hq_154 (show decode prog_7_method_31_code 51 = .ok (.iconst 5, 1) by decide +kernel) (by decide) ?_
        refine Ev_iload_n hq_154 (show decode prog_7_method_31_code 52 = .ok (.iload_n 1, 1) by decide +kernel) rfl ?_
        refine Ev_imul hq_154 (show decode prog_7_method_31_code 53 = .ok (.imul, 1) by decide +kernel) ?_
        refine Ev_iload_n hq_154 (show decode prog_7_method_31_code 54 = .ok (.iload_n 2, 1) by decide +kernel) rfl ?_
        refine Ev_iadd hq_154 (show decode prog_7_method_31_code 55 = .ok (.iadd, 1) by decide +kernel) ?_
        refine Ev_iload_n hq_154 (show decode prog_7_method_31_code 56 = .ok (.iload_n 3, 1) by decide +kernel) rfl ?_
        obtain ⟨h6, k⟩ := k
        refine Ev_iast hq_154 (show decode prog_7_method_31_code 57 = .ok (.iastore, 1) by decide +kernel) (SGn hS (by decide)) (SGk hS rfl) (SGi hS rfl h6) ?_
        obtain ⟨I7, eI7⟩ : ∃ I7 : zI, I7 = z_up I 60 ((5 * x1) + x2).toNatClampNeg x3 := ⟨_, rfl⟩
        have k := k I7 eI7
        rw [← eI7]
        refine Ev_iload hq_154 (show decode prog_7_method_31_code 58 = .ok (.iload 4, 2) by decide +kernel) rfl ?_
        exact Ev_iret hq_154 (show decode prog_7_method_31_code 60 = .ok (.ireturn, 1) by decide +kernel) rfl k
      · have k := k.2 (Classical.not_not.mp c3)
        refine Ev_bipush (v := (-7)) hq_154 (show decode prog_7_method_31_code 32 = .ok (.bipush (-7), 2) by decide +kernel) (by decide) ?_
        exact Ev_iret hq_154 (show decode prog_7_method_31_code 34 = .ok (.ireturn, 1) by decide +kernel) rfl k
  · have k := k.2 (Classical.not_not.mp c1)
    refine Ev_bipush (v := (-5)) hq_154 (show decode prog_7_method_31_code 8 = .ok (.bipush (-5), 2) by decide +kernel) (by decide) ?_
    exact Ev_iret hq_154 (show decode prog_7_method_31_code 10 = .ok (.ireturn, 1) by decide +kernel) rfl k
set_option maxRecDepth 20000 in
theorem wp_Z_scaldsOf {X : Nat × (Nat → Int32)} {d : Nat} {G : zG} {I : zI} {res : Option Value × zG × zI} (x1 : Int32) (hS : SG G) 
    (k : z_inr x1 4 ∧ ((¬ (I 58 x1.toNatClampNeg) = 3 → z_inr x1 4 ∧ ((¬ (I 58 x1.toNatClampNeg) = 5 → res = (some (.int 50), G, I)) ∧ ((I 58 x1.toNatClampNeg) = 5 → z_inr x1 4 ∧ (res = (some (.int (50 - (4 * (I 59 x1.toNatClampNeg)))), G, I))))) ∧ ((I 58 x1.toNatClampNeg) = 3 → z_inr x1 4 ∧ (res = (some (.int (50 + (10 * (I 59 x1.toNatClampNeg)))), G, I))))) :
    Ev X d 157 0 [.ref 57, .int x1] [] G I res := by
  refine Ev_aload_n hq_157 (show decode prog_7_method_32_code 0 = .ok (.aload_n 0, 1) by decide +kernel) rfl ?_
  refine Ev_getR hq_157 (show decode prog_7_method_32_code 1 = .ok (.getfield 7, 3) by decide +kernel) rfl (SGn hS (by decide)) (SGk hS rfl) (by decide) rfl (SGr hS rfl) ?_
  refine Ev_iload_n hq_157 (show decode prog_7_method_32_code 4 = .ok (.iload_n 1, 1) by decide +kernel) rfl ?_
  obtain ⟨h1, k⟩ := k
  refine Ev_iald hq_157 (show decode prog_7_method_32_code 5 = .ok (.iaload, 1) by decide +kernel) (SGn hS (by decide)) (SGk hS rfl) (SGi hS rfl h1) ?_
  refine Ev_iconst (v := 3) hq_157 (show decode prog_7_method_32_code 6 = .ok (.iconst 3, 1) by decide +kernel) (by decide) ?_
  refine Ev_icmp_ne (tgt := 25) hq_157 (show decode prog_7_method_32_code 7 = .ok (.if_icmp .ne 18, 3) by decide +kernel) (by decide) (fun c2 => ?_) (fun c2 => ?_)
  · have k := k.1 c2
    refine Ev_aload_n hq_157 (show decode prog_7_method_32_code 25 = .ok (.aload_n 0, 1) by decide +kernel) rfl ?_
    refine Ev_getR hq_157 (show decode prog_7_method_32_code 26 = .ok (.getfield 7, 3) by decide +kernel) rfl (SGn hS (by decide)) (SGk hS rfl) (by decide) rfl (SGr hS rfl) ?_
    refine Ev_iload_n hq_157 (show decode prog_7_method_32_code 29 = .ok (.iload_n 1, 1) by decide +kernel) rfl ?_
    obtain ⟨h3, k⟩ := k
    refine Ev_iald hq_157 (show decode prog_7_method_32_code 30 = .ok (.iaload, 1) by decide +kernel) (SGn hS (by decide)) (SGk hS rfl) (SGi hS rfl h3) ?_
    refine Ev_iconst (v := 5) hq_157 (show decode prog_7_method_32_code 31 = .ok (.iconst 5, 1) by decide +kernel) (by decide) ?_
    refine Ev_icmp_ne (tgt := 49) hq_157 (show decode prog_7_method_32_code 32 = .ok (.if_icmp .ne 17, 3) by decide +kernel) (by decide) (fun c4 => ?_) (fun c4 => ?_)
    · have k := k.1 c4
      refine Ev_bipush (v := 50) hq_157 (show decode prog_7_method_32_code 49 = .ok (.bipush 50, 2) by decide +kernel) (by decide) ?_
      exact Ev_iret hq_157 (show decode prog_7_method_32_code 51 = .ok (.ireturn, 1) by decide +kernel) rfl k
    · have k := k.2 (Classical.not_not.mp c4)
      refine Ev_bipush (v := 50) hq_157 (show decode prog_7_method_32_code 35 = .ok (.bipush 50, 2) by decide +kernel) (by decide) ?_
      refine Ev_iconst (v := 4) hq_157 (show decode prog_7_method_32_code 37 = .ok (.iconst 4, 1) by decide +kernel) (by decide) ?_
      refine Ev_aload_n hq_157 (show decode prog_7_method_32_code 38 = .ok (.aload_n 0, 1) by decide +kernel) rfl ?_
      refine Ev_getR hq_157 (show decode prog_7_method_32_code 39 = .ok (.getfield 13, 3) by decide +kernel) rfl (SGn hS (by decide)) (SGk hS rfl) (by decide) rfl (SGr hS rfl) ?_
      refine Ev_iload_n hq_157 (show decode prog_7_method_32_code 42 = .ok (.iload_n 1, 1) by decide +kernel) rfl ?_
      obtain ⟨h5, k⟩ := k
      refine Ev_iald hq_157 (show decode prog_7_method_32_code 43 = .ok (.iaload, 1) by decide +kernel) (SGn hS (by decide)) (SGk hS rfl) (SGi hS rfl h5) ?_
      refine Ev_imul hq_157 (show decode prog_7_method_32_code 44 = .ok (.imul, 1) by decide +kernel) ?_
      refine Ev_isub hq_157 (show decode prog_7_method_32_code 45 = .ok (.isub, 1) by decide +kernel) ?_
      refine Ev_goto (tgt := 51) hq_157 (show decode prog_7_method_32_code 46 = .ok (.goto 5, 3) by decide +kernel) (by decide) ?_
      exact Ev_iret hq_157 (show decode prog_7_method_32_code 51 = .ok (.ireturn, 1) by decide +kernel) rfl k
  · have k := k.2 (Classical.not_not.mp c2)
    refine Ev_bipush (v := 50) hq_157 (show decode prog_7_method_32_code 10 = .ok (.bipush 50, 2) by decide +kernel) (by decide) ?_
    refine Ev_bipush (v := 10) hq_157 (show decode prog_7_method_32_code 12 = .ok (.bipush 10, 2) by decide +kernel) (by decide) ?_
    refine Ev_aload_n hq_157 (show decode prog_7_method_32_code 14 = .ok (.aload_n 0, 1) by decide +kernel) rfl ?_
    refine Ev_getR hq_157 (show decode prog_7_method_32_code 15 = .ok (.getfield 13, 3) by decide +kernel) rfl (SGn hS (by decide)) (SGk hS rfl) (by decide) rfl (SGr hS rfl) ?_
    refine Ev_iload_n hq_157 (show decode prog_7_method_32_code 18 = .ok (.iload_n 1, 1) by decide +kernel) rfl ?_
    obtain ⟨h6, k⟩ := k
    refine Ev_iald hq_157 (show decode prog_7_method_32_code 19 = .ok (.iaload, 1) by decide +kernel) (SGn hS (by decide)) (SGk hS rfl) (SGi hS rfl h6) ?_
    refine Ev_imul hq_157 (show decode prog_7_method_32_code 20 = .ok (.imul, 1) by decide +kernel) ?_
    refine Ev_iadd hq_157 (show decode prog_7_method_32_code 21 = .ok (.iadd, 1) by decide +kernel) ?_
    refine Ev_goto (tgt := 51) hq_157 (show decode prog_7_method_32_code 22 = .ok (.goto 29, 3) by decide +kernel) (by decide) ?_
    exact Ev_iret hq_157 (show decode prog_7_method_32_code 51 = .ok (.ireturn, 1) by decide +kernel) rfl k
set_option maxRecDepth 20000 in
theorem wp_Z_told {X : Nat × (Nat → Int32)} {d : Nat} {G : zG} {I : zI} {res : Option Value × zG × zI} (x1 : Int32) (x2 : Int32) (hd : 1 ≤ d) (hS : SG G) 
    (k : (¬ (f_Z_isShower I x1) = 0 → (x2 = 0 → z_inr ((5 * x1) + x2) 20 ∧ (res = (some (.int (I 60 ((5 * x1) + x2).toNatClampNeg)), G, I))) ∧ (¬ x2 = 0 → (x2 = 1 → z_inr ((5 * x1) + x2) 20 ∧ (res = (some (.int (I 60 ((5 * x1) + x2).toNatClampNeg)), G, I))) ∧ (¬ x2 = 1 → (x2 = 2 → z_inr ((5 * x1) + x2) 20 ∧ (res = (some (.int (I 60 ((5 * x1) + x2).toNatClampNeg)), G, I))) ∧ (¬ x2 = 2 → (x2 = 3 → z_inr ((5 * x1) + x2) 20 ∧ (res = (some (.int (I 60 ((5 * x1) + x2).toNatClampNeg)), G, I))) ∧ (¬ x2 = 3 → (x2 = 4 → z_inr ((5 * x1) + x2) 20 ∧ (res = (some (.int (I 60 ((5 * x1) + x2).toNatClampNeg)), G, I))) ∧ (¬ x2 = 4 → (x2 = 5 → z_inr x1 4 ∧ (res = (some (.int (I 58 x1.toNatClampNeg)), G, I))) ∧ (¬ x2 = 5 → (x2 = 6 → z_inr x1 4 ∧ (res = (some (.int (I 59 x1.toNatClampNeg)), G, I))) ∧ (¬ x2 = 6 → (x2 = 7 → ∃ (r19 : Int32) (I17 : zI), Cv X d 157 [.ref 57, .int x1] G I (some (.int r19), G, I17) ∧ (res = (some (.int r19), G, I17))) ∧ (¬ x2 = 7 → res = (some (.int (-7)), G, I)))))))))) ∧ ((f_Z_isShower I x1) = 0 → res = (some (.int (-5)), G, I))) :
    Ev X (d + 1) 156 0 [.ref 57, .int x1, .int x2] [] G I res := by
  refine Ev_aload_n hq_156 (show decode prog_7_method_33_code 0 = .ok (.aload_n 0, 1) by decide +kernel) rfl ?_
  refine Ev_iload_n hq_156 (show decode prog_7_method_33_code 1 = .ok (.iload_n 1, 1) by decide +kernel) rfl ?_
  refine Ev_virt (as := [.int x1]) hq_156 (show decode prog_7_method_33_code 2 = .ok (.invokevirtual 176, 3) by decide +kernel) rfl hq_148 rfl (z_le rfl) ⟨(SGn hS (by decide)), (SGk hS rfl), by decide⟩ (c_Z_isShower (by omega) hS x1) ?_
  refine Ev_if_ne (tgt := 11) hq_156 (show decode prog_7_method_33_code 5 = .ok (.ifCond .ne 6, 3) by decide +kernel) (by decide) (fun c1 => ?_) (fun c1 => ?_)
  · have k := k.1 c1
    refine Ev_iload_n hq_156 (show decode prog_7_method_33_code 11 = .ok (.iload_n 2, 1) by decide +kernel) rfl ?_
    by_cases c2 : x2 = 0
    · have k := k.1 c2
      refine Ev_tableIn (off := 48) (tgt := 60) hq_156 (show decode prog_7_method_33_code 12 = .ok (.tableswitch 79 0 7 #[48, 48, 48, 48, 48, 59, 66, 73], 48) by decide +kernel) (by rw [c2]; decide) (by rw [c2]; decide) (by rw [c2]; decide) (by decide) ?_
      refine Ev_aload_n hq_156 (show decode prog_7_method_33_code 60 = .ok (.aload_n 0, 1) by decide +kernel) rfl ?_
      refine Ev_getR hq_156 (show decode prog_7_method_33_code 61 = .ok (.getfield 16, 3) by decide +kernel) rfl (SGn hS (by decide)) (SGk hS rfl) (by decide) rfl (SGr hS rfl) ?_
      refine Ev_iconst (v := 5) hq_156 (show decode prog_7_method_33_code 64 = .ok (.iconst 5, 1) by decide +kernel) (by decide) ?_
      refine Ev_iload_n hq_156 (show decode prog_7_method_33_code 65 = .ok (.iload_n 1, 1) by decide +kernel) rfl ?_
      refine Ev_imul hq_156 (show decode prog_7_method_33_code 66 = .ok (.imul, 1) by decide +kernel) ?_
      refine Ev_iload_n hq_156 (show decode prog_7_method_33_code 67 = .ok (.iload_n 2, 1) by decide +kernel) rfl ?_
      refine Ev_iadd hq_156 (show decode prog_7_method_33_code 68 = .ok (.iadd, 1) by decide +kernel) ?_
      obtain ⟨h3, k⟩ := k
      refine Ev_iald hq_156 (show decode prog_7_method_33_code 69 = .ok (.iaload, 1) by decide +kernel) (SGn hS (by decide)) (SGk hS rfl) (SGi hS rfl h3) ?_
      exact Ev_iret hq_156 (show decode prog_7_method_33_code 70 = .ok (.ireturn, 1) by decide +kernel) rfl k
    have k := k.2 c2
    by_cases c4 : x2 = 1
    · have k := k.1 c4
      refine Ev_tableIn (off := 48) (tgt := 60) hq_156 (show decode prog_7_method_33_code 12 = .ok (.tableswitch 79 0 7 #[48, 48, 48, 48, 48, 59, 66, 73], 48) by decide +kernel) (by rw [c4]; decide) (by rw [c4]; decide) (by rw [c4]; decide) (by decide) ?_
      refine Ev_aload_n hq_156 (show decode prog_7_method_33_code 60 = .ok (.aload_n 0, 1) by decide +kernel) rfl ?_
      refine Ev_getR hq_156 (show decode prog_7_method_33_code 61 = .ok (.getfield 16, 3) by decide +kernel) rfl (SGn hS (by decide)) (SGk hS rfl) (by decide) rfl (SGr hS rfl) ?_
      refine Ev_iconst (v := 5) hq_156 (show decode prog_7_method_33_code 64 = .ok (.iconst 5, 1) by decide +kernel) (by decide) ?_
      refine Ev_iload_n hq_156 (show decode prog_7_method_33_code 65 = .ok (.iload_n 1, 1) by decide +kernel) rfl ?_
      refine Ev_imul hq_156 (show decode prog_7_method_33_code 66 = .ok (.imul, 1) by decide +kernel) ?_
      refine Ev_iload_n hq_156 (show decode prog_7_method_33_code 67 = .ok (.iload_n 2, 1) by decide +kernel) rfl ?_
      refine Ev_iadd hq_156 (show decode prog_7_method_33_code 68 = .ok (.iadd, 1) by decide +kernel) ?_
      obtain ⟨h5, k⟩ := k
      refine Ev_iald hq_156 (show decode prog_7_method_33_code 69 = .ok (.iaload, 1) by decide +kernel) (SGn hS (by decide)) (SGk hS rfl) (SGi hS rfl h5) ?_
      exact Ev_iret hq_156 (show decode prog_7_method_33_code 70 = .ok (.ireturn, 1) by decide +kernel) rfl k
    have k := k.2 c4
    by_cases c6 : x2 = 2
    · have k := k.1 c6
      refine Ev_tableIn (off := 48) (tgt := 60) hq_156 (show decode prog_7_method_33_code 12 = .ok (.tableswitch 79 0 7 #[48, 48, 48, 48, 48, 59, 66, 73], 48) by decide +kernel) (by rw [c6]; decide) (by rw [c6]; decide) (by rw [c6]; decide) (by decide) ?_
      refine Ev_aload_n hq_156 (show decode prog_7_method_33_code 60 = .ok (.aload_n 0, 1) by decide +kernel) rfl ?_
      refine Ev_getR hq_156 (show decode prog_7_method_33_code 61 = .ok (.getfield 16, 3) by decide +kernel) rfl (SGn hS (by decide)) (SGk hS rfl) (by decide) rfl (SGr hS rfl) ?_
      refine Ev_iconst (v := 5) hq_156 (show decode prog_7_method_33_code 64 = .ok (.iconst 5, 1) by decide +kernel) (by decide) ?_
      refine Ev_iload_n hq_156 (show decode prog_7_method_33_code 65 = .ok (.iload_n 1, 1) by decide +kernel) rfl ?_
      refine Ev_imul hq_156 (show decode prog_7_method_33_code 66 = .ok (.imul, 1) by decide +kernel) ?_
      refine Ev_iload_n hq_156 (show decode prog_7_method_33_code 67 = .ok (.iload_n 2, 1) by decide +kernel) rfl ?_
      refine Ev_iadd hq_156 (show decode prog_7_method_33_code 68 = .ok (.iadd, 1) by decide +kernel) ?_
      obtain ⟨h7, k⟩ := k
      refine Ev_iald hq_156 (show decode prog_7_method_33_code 69 = .ok (.iaload, 1) by decide +kernel) (SGn hS (by decide)) (SGk hS rfl) (SGi hS rfl h7) ?_
      exact Ev_iret hq_156 (show decode prog_7_method_33_code 70 = .ok (.ireturn, 1) by decide +kernel) rfl k
    have k := k.2 c6
    by_cases c8 : x2 = 3
    · have k := k.1 c8
      refine Ev_tableIn (off := 48) (tgt := 60) hq_156 (show decode prog_7_method_33_code 12 = .ok (.tableswitch 79 0 7 #[48, 48, 48, 48, 48, 59, 66, 73], 48) by decide +kernel) (by rw [c8]; decide) (by rw [c8]; decide) (by rw [c8]; decide) (by decide) ?_
      refine Ev_aload_n hq_156 (show decode prog_7_method_33_code 60 = .ok (.aload_n 0, 1) by decide +kernel) rfl ?_
      refine Ev_getR hq_156 (show decode prog_7_method_33_code 61 = .ok (.getfield 16, 3) by decide +kernel) rfl (SGn hS (by decide)) (SGk hS rfl) (by decide) rfl (SGr hS rfl) ?_
      refine Ev_iconst (v := 5) hq_156 (show decode prog_7_method_33_code 64 = .ok (.iconst 5, 1) by decide +kernel) (by decide) ?_
      refine Ev_iload_n hq_156 (show decode prog_7_method_33_code 65 = .ok (.iload_n 1, 1) by decide +kernel) rfl ?_
      refine Ev_imul hq_156 (show decode prog_7_method_33_code 66 = .ok (.imul, 1) by decide +kernel) ?_
      refine Ev_iload_n hq_156 (show decode prog_7_method_33_code 67 = .ok (.iload_n 2, 1) by decide +kernel) rfl ?_
      refine Ev_iadd hq_156 (show decode prog_7_method_33_code 68 = .ok (.iadd, 1) by decide +kernel) ?_
      obtain ⟨h9, k⟩ := k
      refine Ev_iald hq_156 (show decode prog_7_method_33_code 69 = .ok (.iaload, 1) by decide +kernel) (SGn hS (by decide)) (SGk hS rfl) (SGi hS rfl h9) ?_
      exact Ev_iret hq_156 (show decode prog_7_method_33_code 70 = .ok (.ireturn, 1) by decide +kernel) rfl k
    have k := k.2 c8
    by_cases c10 : x2 = 4
    · have k := k.1 c10
      refine Ev_tableIn (off := 48) (tgt := 60) hq_156 (show decode prog_7_method_33_code 12 = .ok (.tableswitch 79 0 7 #[48, 48, 48, 48, 48, 59, 66, 73], 48) by decide +kernel) (by rw [c10]; decide) (by rw [c10]; decide) (by rw [c10]; decide) (by decide) ?_
      refine Ev_aload_n hq_156 (show decode prog_7_method_33_code 60 = .ok (.aload_n 0, 1) by decide +kernel) rfl ?_
      refine Ev_getR hq_156 (show decode prog_7_method_33_code 61 = .ok (.getfield 16, 3) by decide +kernel) rfl (SGn hS (by decide)) (SGk hS rfl) (by decide) rfl (SGr hS rfl) ?_
      refine Ev_iconst (v := 5) hq_156 (show decode prog_7_method_33_code 64 = .ok (.iconst 5, 1) by decide +kernel) (by decide) ?_
      refine Ev_iload_n hq_156 (show decode prog_7_method_33_code 65 = .ok (.iload_n 1, 1) by decide +kernel) rfl ?_
      refine Ev_imul hq_156 (show decode prog_7_method_33_code 66 = .ok (.imul, 1) by decide +kernel) ?_
      refine Ev_iload_n hq_156 (show decode prog_7_method_33_code 67 = .ok (.iload_n 2, 1) by decide +kernel) rfl ?_
      refine Ev_iadd hq_156 (show decode prog_7_method_33_code 68 = .ok (.iadd, 1) by decide +kernel) ?_
      obtain ⟨h11, k⟩ := k
      refine Ev_iald hq_156 (show decode prog_7_method_33_code 69 = .ok (.iaload, 1) by decide +kernel) (SGn hS (by decide)) (SGk hS rfl) (SGi hS rfl h11) ?_
      exact Ev_iret hq_156 (show decode prog_7_method_33_code 70 = .ok (.ireturn, 1) by decide +kernel) rfl k
    have k := k.2 c10
    by_cases c12 : x2 = 5
    · have k := k.1 c12
      refine Ev_tableIn (off := 59) (tgt := 71) hq_156 (show decode prog_7_method_33_code 12 = .ok (.tableswitch 79 0 7 #[48, 48, 48, 48, 48, 59, 66, 73], 48) by decide +kernel) (by rw [c12]; decide) (by rw [c12]; decide) (by rw [c12]; decide) (by decide) ?_
      refine Ev_aload_n hq_156 (show decode prog_7_method_33_code 71 = .ok (.aload_n 0, 1) by decide +kernel) rfl ?_
      refine Ev_getR hq_156 (show decode prog_7_method_33_code 72 = .ok (.getfield 7, 3) by decide +kernel) rfl (SGn hS (by decide)) (SGk hS rfl) (by decide) rfl (SGr hS rfl) ?_
      refine Ev_iload_n hq_156 (show decode prog_7_method_33_code 75 = .ok (.iload_n 1, 1) by decide +kernel) rfl ?_
      obtain ⟨h13, k⟩ := k
      refine Ev_iald hq_156 (show decode prog_7_method_33_code 76 = .ok (.iaload, 1) by decide +kernel) (SGn hS (by decide)) (SGk hS rfl) (SGi hS rfl h13) ?_
      exact Ev_iret hq_156 (show decode prog_7_method_33_code 77 = .ok (.ireturn, 1) by decide +kernel) rfl k
    have k := k.2 c12
    by_cases c14 : x2 = 6
    · have k := k.1 c14
      refine Ev_tableIn (off := 66) (tgt := 78) hq_156 (show decode prog_7_method_33_code 12 = .ok (.tableswitch 79 0 7 #[48, 48, 48, 48, 48, 59, 66, 73], 48) by decide +kernel) (by rw [c14]; decide) (by rw [c14]; decide) (by rw [c14]; decide) (by decide) ?_
      refine Ev_aload_n hq_156 (show decode prog_7_method_33_code 78 = .ok (.aload_n 0, 1) by decide +kernel) rfl ?_
      refine Ev_getR hq_156 (show decode prog_7_method_33_code 79 = .ok (.getfield 13, 3) by decide +kernel) rfl (SGn hS (by decide)) (SGk hS rfl) (by decide) rfl (SGr hS rfl) ?_
      refine Ev_iload_n hq_156 (show decode prog_7_method_33_code 82 = .ok (.iload_n 1, 1) by decide +kernel) rfl ?_
      obtain ⟨h15, k⟩ := k
      refine Ev_iald hq_156 (show decode prog_7_method_33_code 83 = .ok (.iaload, 1) by decide +kernel) (SGn hS (by decide)) (SGk hS rfl) (SGi hS rfl h15) ?_
      exact Ev_iret hq_156 (show decode prog_7_method_33_code 84 = .ok (.ireturn, 1) by decide +kernel) rfl k
    have k := k.2 c14
    by_cases c16 : x2 = 7
    · have k := k.1 c16
      refine Ev_tableIn (off := 73) (tgt := 85) hq_156 (show decode prog_7_method_33_code 12 = .ok (.tableswitch 79 0 7 #[48, 48, 48, 48, 48, 59, 66, 73], 48) by decide +kernel) (by rw [c16]; decide) (by rw [c16]; decide) (by rw [c16]; decide) (by decide) ?_
      refine Ev_aload_n hq_156 (show decode prog_7_method_33_code 85 = .ok (.aload_n 0, 1) by decide +kernel) rfl ?_
      refine Ev_iload_n hq_156 (show decode prog_7_method_33_code 86 = .ok (.iload_n 1, 1) by decide +kernel) rfl ?_
      obtain ⟨r19, I17, h18, k⟩ := k
      refine Ev_virt (as := [.int x1]) hq_156 (show decode prog_7_method_33_code 87 = .ok (.invokevirtual 187, 3) by decide +kernel) rfl hq_157 rfl (z_le rfl) ⟨(SGn hS (by decide)), (SGk hS rfl), by decide⟩ h18 ?_
      exact Ev_iret hq_156 (show decode prog_7_method_33_code 90 = .ok (.ireturn, 1) by decide +kernel) rfl k
    have k := k.2 c16
    have ec2 : (x2).toInt ≠ 0 := z_ne (k := 0) c2
    have ec4 : (x2).toInt ≠ 1 := z_ne (k := 1) c4
    have ec6 : (x2).toInt ≠ 2 := z_ne (k := 2) c6
    have ec8 : (x2).toInt ≠ 3 := z_ne (k := 3) c8
    have ec10 : (x2).toInt ≠ 4 := z_ne (k := 4) c10
    have ec12 : (x2).toInt ≠ 5 := z_ne (k := 5) c12
    have ec14 : (x2).toInt ≠ 6 := z_ne (k := 6) c14
    have ec16 : (x2).toInt ≠ 7 := z_ne (k := 7) c16
    refine Ev_tableOut (tgt := 91) hq_156 (show decode prog_7_method_33_code 12 = .ok (.tableswitch 79 0 7 #[48, 48, 48, 48, 48, 59, 66, 73], 48) by decide +kernel) (by omega) (by decide) ?_
    refine Ev_bipush (v := (-7)) hq_156 (show decode prog_7_method_33_code 91 = .ok (.bipush (-7), 2) by decide +kernel) (by decide) ?_
    exact Ev_iret hq_156 (show decode prog_7_method_33_code 93 = .ok (.ireturn, 1) by decide +kernel) rfl k
  · have k := k.2 (Classical.not_not.mp c1)
    refine Ev_bipush (v := (-5)) hq_156 (show decode prog_7_method_33_code 8 = .ok (.bipush (-5), 2) by decide +kernel) (by decide) ?_
    exact Ev_iret hq_156 (show decode prog_7_method_33_code 10 = .ok (.ireturn, 1) by decide +kernel) rfl k
set_option maxRecDepth 20000 in
theorem wp_Z_higher {X : Nat × (Nat → Int32)} {d : Nat} {G : zG} {I : zI} {res : Option Value × zG × zI} (x1 : Int32) (x2 : Int32) 
    (k : Ev X d 162 5 [.ref 57, .int x1, .int x2, .int 0, .int 0] [] G I res) :
    Ev X d 162 0 [.ref 57, .int x1, .int x2, zU, zU] [] G I res := by
  refine Ev_iconst (v := 0) hq_162 (show decode prog_7_method_34_code 0 = .ok (.iconst 0, 1) by decide +kernel) (by decide) ?_
  refine Ev_istore_n (lo2 := [.ref 57, .int x1, .int x2, .int 0, zU]) hq_162 (show decode prog_7_method_34_code 1 = .ok (.istore_n 3, 1) by decide +kernel) (z_le rfl) rfl ?_
  refine Ev_iconst (v := 0) hq_162 (show decode prog_7_method_34_code 2 = .ok (.iconst 0, 1) by decide +kernel) (by decide) ?_
  refine Ev_istore (lo2 := [.ref 57, .int x1, .int x2, .int 0, .int 0]) hq_162 (show decode prog_7_method_34_code 3 = .ok (.istore 4, 2) by decide +kernel) (z_le rfl) rfl ?_
  exact k
set_option maxRecDepth 20000 in
theorem wp_Z_higher_5 {X : Nat × (Nat → Int32)} {d : Nat} {G : zG} {I : zI} {res : Option Value × zG × zI} (x1 : Int32) (x2 : Int32) (x3 : Int32) (x4 : Int32) (hS : SG G) 
    (k : ((I 57 0) ≤ x4 → res = (some (.int x3), G, I)) ∧ (¬ (I 57 0) ≤ x4 → (x4 = x1 → ∀ y3 : Int32, y3 = (x3 + 0) → ∀ y4 : Int32, y4 = x4 + 1 → Ev X (d + 1) 162 5 [.ref 57, .int x1, .int x2, .int y3, .int y4] [] G I res) ∧ (¬ x4 = x1 → ∃ (r7 : Int32) (I5 : zI), Cv X d 143 [.ref 57, .int x4] G I (some (.int r7), G, I5) ∧ ((r7 = 0 → ∀ y9 : Int32, y9 = (x3 + 0) → ∀ y10 : Int32, y10 = x4 + 1 → Ev X (d + 1) 162 5 [.ref 57, .int x1, .int x2, .int y9, .int y10] [] G I5 res) ∧ (¬ r7 = 0 → z_inr ((4 * x2) + x4) 124 ∧ (z_inr ((4 * x2) + x1) 124 ∧ (((I5 73 ((4 * x2) + x4).toNatClampNeg) ≤ (I5 73 ((4 * x2) + x1).toNatClampNeg) → ∀ y14 : Int32, y14 = (x3 + 0) → ∀ y15 : Int32, y15 = x4 + 1 → Ev X (d + 1) 162 5 [.ref 57, .int x1, .int x2, .int y14, .int y15] [] G I5 res) ∧ (¬ (I5 73 ((4 * x2) + x4).toNatClampNeg) ≤ (I5 73 ((4 * x2) + x1).toNatClampNeg) → ∀ y16 : Int32, y16 = (x3 + 1) → ∀ y17 : Int32, y17 = x4 + 1 → Ev X (d + 1) 162 5 [.ref 57, .int x1, .int x2, .int y16, .int y17] [] G I5 res)))))))) :
    Ev X (d + 1) 162 5 [.ref 57, .int x1, .int x2, .int x3, .int x4] [] G I res := by
  refine Ev_iload hq_162 (show decode prog_7_method_34_code 5 = .ok (.iload 4, 2) by decide +kernel) rfl ?_
  refine Ev_aload_n hq_162 (show decode prog_7_method_34_code 7 = .ok (.aload_n 0, 1) by decide +kernel) rfl ?_
  refine Ev_getI hq_162 (show decode prog_7_method_34_code 8 = .ok (.getfield 87, 3) by decide +kernel) rfl (SGn hS (by decide)) (SGk hS rfl) (by decide) rfl ?_
  refine Ev_icmp_ge (tgt := 67) hq_162 (show decode prog_7_method_34_code 11 = .ok (.if_icmp .ge 56, 3) by decide +kernel) (by decide) (fun c1 => ?_) (fun c1 => ?_)
  · have k := k.1 c1
    refine Ev_iload_n hq_162 (show decode prog_7_method_34_code 67 = .ok (.iload_n 3, 1) by decide +kernel) rfl ?_
    exact Ev_iret hq_162 (show decode prog_7_method_34_code 68 = .ok (.ireturn, 1) by decide +kernel) rfl k
  · have k := k.2 c1
    refine Ev_iload_n hq_162 (show decode prog_7_method_34_code 14 = .ok (.iload_n 3, 1) by decide +kernel) rfl ?_
    refine Ev_iload hq_162 (show decode prog_7_method_34_code 15 = .ok (.iload 4, 2) by decide +kernel) rfl ?_
    refine Ev_iload_n hq_162 (show decode prog_7_method_34_code 17 = .ok (.iload_n 1, 1) by decide +kernel) rfl ?_
    refine Ev_icmp_eq (tgt := 58) hq_162 (show decode prog_7_method_34_code 18 = .ok (.if_icmp .eq 40, 3) by decide +kernel) (by decide) (fun c2 => ?_) (fun c2 => ?_)
    · have k := k.1 c2
      refine Ev_iconst (v := 0) hq_162 (show decode prog_7_method_34_code 58 = .ok (.iconst 0, 1) by decide +kernel) (by decide) ?_
      refine Ev_iadd hq_162 (show decode prog_7_method_34_code 59 = .ok (.iadd, 1) by decide +kernel) ?_
      obtain ⟨y3, ey3⟩ : ∃ y3 : Int32, y3 = (x3 + 0) := ⟨_, rfl⟩
      have k := k y3 ey3
      rw [← ey3]
      refine Ev_istore_n (lo2 := [.ref 57, .int x1, .int x2, .int y3, .int x4]) hq_162 (show decode prog_7_method_34_code 60 = .ok (.istore_n 3, 1) by decide +kernel) (z_le rfl) rfl ?_
      obtain ⟨y4, ey4⟩ : ∃ y4 : Int32, y4 = x4 + 1 := ⟨_, rfl⟩
      have k := k y4 ey4
      refine Ev_iinc (v := y4) (lo2 := [.ref 57, .int x1, .int x2, .int y3, .int y4]) hq_162 (show decode prog_7_method_34_code 61 = .ok (.iinc 4 1, 3) by decide +kernel) rfl (by rw [ey4]; rfl) rfl ?_
      refine Ev_goto (tgt := 5) hq_162 (show decode prog_7_method_34_code 64 = .ok (.goto (-59), 3) by decide +kernel) (by decide) ?_
      exact k
    · have k := k.2 c2
      refine Ev_aload_n hq_162 (show decode prog_7_method_34_code 21 = .ok (.aload_n 0, 1) by decide +kernel) rfl ?_
      refine Ev_iload hq_162 (show decode prog_7_method_34_code 22 = .ok (.iload 4, 2) by decide +kernel) rfl ?_
      obtain ⟨r7, I5, h6, k⟩ := k
      refine Ev_virt (as := [.int x4]) hq_162 (show decode prog_7_method_34_code 24 = .ok (.invokevirtual 94, 3) by decide +kernel) rfl hq_143 rfl (z_le rfl) ⟨(SGn hS (by decide)), (SGk hS rfl), by decide⟩ h6 ?_
      refine Ev_if_eq (tgt := 58) hq_162 (show decode prog_7_method_34_code 27 = .ok (.ifCond .eq 31, 3) by decide +kernel) (by decide) (fun c8 => ?_) (fun c8 => ?_)
      · have k := k.1 c8
        refine Ev_iconst (v := 0) hq_162 (show decode prog_7_method_34_code 58 = .ok (.iconst 0, 1) by decide +kernel) (by decide) ?_
        refine Ev_iadd hq_162 (show decode prog_7_method_34_code 59 = .ok (.iadd, 1) by decide +kernel) ?_
        obtain ⟨y9, ey9⟩ : ∃ y9 : Int32, y9 = (x3 + 0) := ⟨_, rfl⟩
        have k := k y9 ey9
        rw [← ey9]
        refine Ev_istore_n (lo2 := [.ref 57, .int x1, .int x2, .int y9, .int x4]) hq_162 (show decode prog_7_method_34_code 60 = .ok (.istore_n 3, 1) by decide +kernel) (z_le rfl) rfl ?_
        obtain ⟨y10, ey10⟩ : ∃ y10 : Int32, y10 = x4 + 1 := ⟨_, rfl⟩
        have k := k y10 ey10
        refine Ev_iinc (v := y10) (lo2 := [.ref 57, .int x1, .int x2, .int y9, .int y10]) hq_162 (show decode prog_7_method_34_code 61 = .ok (.iinc 4 1, 3) by decide +kernel) rfl (by rw [ey10]; rfl) rfl ?_
        refine Ev_goto (tgt := 5) hq_162 (show decode prog_7_method_34_code 64 = .ok (.goto (-59), 3) by decide +kernel) (by decide) ?_
        exact k
      · have k := k.2 c8
        refine Ev_aload_n hq_162 (show decode prog_7_method_34_code 30 = .ok (.aload_n 0, 1) by decide +kernel) rfl ?_
        refine Ev_getR hq_162 (show decode prog_7_method_34_code 31 = .ok (.getfield 55, 3) by decide +kernel) rfl (SGn hS (by decide)) (SGk hS rfl) (by decide) rfl (SGr hS rfl) ?_
        refine Ev_iconst (v := 4) hq_162 (show decode prog_7_method_34_code 34 = .ok (.iconst 4, 1) by decide +kernel) (by decide) ?_
        refine Ev_iload_n hq_162 (show decode prog_7_method_34_code 35 = .ok (.iload_n 2, 1) by decide +kernel) rfl ?_
        refine Ev_imul hq_162 (show decode prog_7_method_34_code 36 = .ok (.imul, 1) by decide +kernel) ?_
        refine Ev_iload hq_162 (show decode prog_7_method_34_code 37 = .ok (.iload 4, 2) by decide +kernel) rfl ?_
        refine Ev_iadd hq_162 (show decode prog_7_method_34_code 39 = .ok (.iadd, 1) by decide +kernel) ?_
        obtain ⟨h11, k⟩ := k
        refine Ev_iald hq_162 (show decode prog_7_method_34_code 40 = .ok (.iaload, 1) by decide +kernel) (SGn hS (by decide)) (SGk hS rfl) (SGi hS rfl h11) ?_
        refine Ev_aload_n hq_162 (show decode prog_7_method_34_code 41 = .ok (.aload_n 0, 1) by decide +kernel) rfl ?_
        refine Ev_getR hq_162 (show decode prog_7_method_34_code 42 = .ok (.getfield 55, 3) by decide +kernel) rfl (SGn hS (by decide)) (SGk hS rfl) (by decide) rfl (SGr hS rfl) ?_
        refine Ev_iconst (v := 4) hq_162 (show decode prog_7_method_34_code 45 = .ok (.iconst 4, 1) by decide +kernel) (by decide) ?_
        refine Ev_iload_n hq_162 (show decode prog_7_method_34_code 46 = .ok (.iload_n 2, 1) by decide +kernel) rfl ?_
        refine Ev_imul hq_162 (show decode prog_7_method_34_code 47 = .ok (.imul, 1) by decide +kernel) ?_
        refine Ev_iload_n hq_162 (show decode prog_7_method_34_code 48 = .ok (.iload_n 1, 1) by decide +kernel) rfl ?_
        refine Ev_iadd hq_162 (show decode prog_7_method_34_code 49 = .ok (.iadd, 1) by decide +kernel) ?_
        obtain ⟨h12, k⟩ := k
        refine Ev_iald hq_162 (show decode prog_7_method_34_code 50 = .ok (.iaload, 1) by decide +kernel) (SGn hS (by decide)) (SGk hS rfl) (SGi hS rfl h12) ?_
        refine Ev_icmp_le (tgt := 58) hq_162 (show decode prog_7_method_34_code 51 = .ok (.if_icmp .le 7, 3) by decide +kernel) (by decide) (fun c13 => ?_) (fun c13 => ?_)
        · have k := k.1 c13
          refine Ev_iconst (v := 0) hq_162 (show decode prog_7_method_34_code 58 = .ok (.iconst 0, 1) by decide +kernel) (by decide) ?_
          refine Ev_iadd hq_162 (show decode prog_7_method_34_code 59 = .ok (.iadd, 1) by decide +kernel) ?_
          obtain ⟨y14, ey14⟩ : ∃ y14 : Int32, y14 = (x3 + 0) := ⟨_, rfl⟩
          have k := k y14 ey14
          rw [← ey14]
          refine Ev_istore_n (lo2 := [.ref 57, .int x1, .int x2, .int y14, .int x4]) hq_162 (show decode prog_7_method_34_code 60 = .ok (.istore_n 3, 1) by decide +kernel) (z_le rfl) rfl ?_
          obtain ⟨y15, ey15⟩ : ∃ y15 : Int32, y15 = x4 + 1 := ⟨_, rfl⟩
          have k := k y15 ey15
          refine Ev_iinc (v := y15) (lo2 := [.ref 57, .int x1, .int x2, .int y14, .int y15]) hq_162 (show decode prog_7_method_34_code 61 = .ok (.iinc 4 1, 3) by decide +kernel) rfl (by rw [ey15]; rfl) rfl ?_
          refine Ev_goto (tgt := 5) hq_162 (show decode prog_7_method_34_code 64 = .ok (.goto (-59), 3) by decide +kernel) (by decide) ?_
          exact k
        · have k := k.2 c13
          refine Ev_iconst (v := 1) hq_162 (show decode prog_7_method_34_code 54 = .ok (.iconst 1, 1) by decide +kernel) (by decide) ?_
          refine Ev_goto (tgt := 59) hq_162 (show decode prog_7_method_34_code 55 = .ok (.goto 4, 3) by decide +kernel) (by decide) ?_
          refine Ev_iadd hq_162 (show decode prog_7_method_34_code 59 = .ok (.iadd, 1) by decide +kernel) ?_
          obtain ⟨y16, ey16⟩ : ∃ y16 : Int32, y16 = (x3 + 1) := ⟨_, rfl⟩
          have k := k y16 ey16
          rw [← ey16]
          refine Ev_istore_n (lo2 := [.ref 57, .int x1, .int x2, .int y16, .int x4]) hq_162 (show decode prog_7_method_34_code 60 = .ok (.istore_n 3, 1) by decide +kernel) (z_le rfl) rfl ?_
          obtain ⟨y17, ey17⟩ : ∃ y17 : Int32, y17 = x4 + 1 := ⟨_, rfl⟩
          have k := k y17 ey17
          refine Ev_iinc (v := y17) (lo2 := [.ref 57, .int x1, .int x2, .int y16, .int y17]) hq_162 (show decode prog_7_method_34_code 61 = .ok (.iinc 4 1, 3) by decide +kernel) rfl (by rw [ey17]; rfl) rfl ?_
          refine Ev_goto (tgt := 5) hq_162 (show decode prog_7_method_34_code 64 = .ok (.goto (-59), 3) by decide +kernel) (by decide) ?_
          exact k
set_option maxRecDepth 20000 in
theorem wp_Z_feltBy {X : Nat × (Nat → Int32)} {d : Nat} {G : zG} {I : zI} {res : Option Value × zG × zI} (x1 : Int32) (x2 : Int32) (hS : SG G) 
    (k : z_inr (5 * x1) 20 ∧ (∀ y2 : Int32, y2 = (x2 - (I 60 (5 * x1).toNatClampNeg)) → (0 ≤ y2 → z_inr ((4 * y2) + x1) 124 ∧ (∀ y5 : Int32, y5 = (I 73 ((4 * y2) + x1).toNatClampNeg) → ∃ (r8 : Int32) (I6 : zI), Cv X d 162 [.ref 57, .int x1, .int x2] G I (some (.int r8), G, I6) ∧ (z_inr x1 4 ∧ (∀ y10 : Int32, y10 = (I6 58 x1.toNatClampNeg) → z_inr x1 4 ∧ (∀ y12 : Int32, y12 = (I6 59 x1.toNatClampNeg) → (y10 = 1 → ∀ y14 : Int32, y14 = (y5 - (((2 * y12) + 1) * r8)) → (¬ y10 = 3 → res = (some (.int (f_Z_within y14 0 999)), G, I6)) ∧ (y10 = 3 → (¬ (y12 + 2) = 0) ∧ ((¬ (x2 - x2 / (y12 + 2) * (y12 + 2)) = (y12 + 1) → res = (some (.int (f_Z_within y14 0 999)), G, I6)) ∧ ((x2 - x2 / (y12 + 2) * (y12 + 2)) = (y12 + 1) → ∀ y18 : Int32, y18 = (y14 / 2) → res = (some (.int (f_Z_within y18 0 999)), G, I6))))) ∧ (¬ y10 = 1 → (¬ y10 = 3 → (¬ y10 = 3 → res = (some (.int (f_Z_within y5 0 999)), G, I6)) ∧ (y10 = 3 → (¬ (y12 + 2) = 0) ∧ ((¬ (x2 - x2 / (y12 + 2) * (y12 + 2)) = (y12 + 1) → res = (some (.int (f_Z_within y5 0 999)), G, I6)) ∧ ((x2 - x2 / (y12 + 2) * (y12 + 2)) = (y12 + 1) → ∀ y23 : Int32, y23 = (y5 / 2) → res = (some (.int (f_Z_within y23 0 999)), G, I6))))) ∧ (y10 = 3 → ∀ y24 : Int32, y24 = (y5 - (((2 * y12) + 1) * r8)) → (¬ y10 = 3 → res = (some (.int (f_Z_within y24 0 999)), G, I6)) ∧ (y10 = 3 → (¬ (y12 + 2) = 0) ∧ ((¬ (x2 - x2 / (y12 + 2) * (y12 + 2)) = (y12 + 1) → res = (some (.int (f_Z_within y24 0 999)), G, I6)) ∧ ((x2 - x2 / (y12 + 2) * (y12 + 2)) = (y12 + 1) → ∀ y28 : Int32, y28 = (y24 / 2) → res = (some (.int (f_Z_within y28 0 999)), G, I6))))))))))) ∧ (¬ 0 ≤ y2 → z_inr ((4 * 0) + x1) 124 ∧ (∀ y30 : Int32, y30 = (I 73 ((4 * 0) + x1).toNatClampNeg) → ∃ (r33 : Int32) (I31 : zI), Cv X d 162 [.ref 57, .int x1, .int x2] G I (some (.int r33), G, I31) ∧ (z_inr x1 4 ∧ (∀ y35 : Int32, y35 = (I31 58 x1.toNatClampNeg) → z_inr x1 4 ∧ (∀ y37 : Int32, y37 = (I31 59 x1.toNatClampNeg) → (y35 = 1 → ∀ y39 : Int32, y39 = (y30 - (((2 * y37) + 1) * r33)) → (¬ y35 = 3 → res = (some (.int (f_Z_within y39 0 999)), G, I31)) ∧ (y35 = 3 → (¬ (y37 + 2) = 0) ∧ ((¬ (x2 - x2 / (y37 + 2) * (y37 + 2)) = (y37 + 1) → res = (some (.int (f_Z_within y39 0 999)), G, I31)) ∧ ((x2 - x2 / (y37 + 2) * (y37 + 2)) = (y37 + 1) → ∀ y43 : Int32, y43 = (y39 / 2) → res = (some (.int (f_Z_within y43 0 999)), G, I31))))) ∧ (¬ y35 = 1 → (¬ y35 = 3 → (¬ y35 = 3 → res = (some (.int (f_Z_within y30 0 999)), G, I31)) ∧ (y35 = 3 → (¬ (y37 + 2) = 0) ∧ ((¬ (x2 - x2 / (y37 + 2) * (y37 + 2)) = (y37 + 1) → res = (some (.int (f_Z_within y30 0 999)), G, I31)) ∧ ((x2 - x2 / (y37 + 2) * (y37 + 2)) = (y37 + 1) → ∀ y48 : Int32, y48 = (y30 / 2) → res = (some (.int (f_Z_within y48 0 999)), G, I31))))) ∧ (y35 = 3 → ∀ y49 : Int32, y49 = (y30 - (((2 * y37) + 1) * r33)) → (¬ y35 = 3 → res = (some (.int (f_Z_within y49 0 999)), G, I31)) ∧ (y35 = 3 → (¬ (y37 + 2) = 0) ∧ ((¬ (x2 - x2 / (y37 + 2) * (y37 + 2)) = (y37 + 1) → res = (some (.int (f_Z_within y49 0 999)), G, I31)) ∧ ((x2 - x2 / (y37 + 2) * (y37 + 2)) = (y37 + 1) → ∀ y53 : Int32, y53 = (y49 / 2) → res = (some (.int (f_Z_within y53 0 999)), G, I31))))))))))))) :
    Ev X (d + 1) 161 0 [.ref 57, .int x1, .int x2, zU, zU, zU, zU, zU, zU] [] G I res := by
  refine Ev_iload_n hq_161 (show decode prog_7_method_35_code 0 = .ok (.iload_n 2, 1) by decide +kernel) rfl ?_
  refine Ev_aload_n hq_161 (show decode prog_7_method_35_code 1 = .ok (.aload_n 0, 1) by decide +kernel) rfl ?_
  refine Ev_getR hq_161 (show decode prog_7_method_35_code 2 = .ok (.getfield 16, 3) by decide +kernel) rfl (SGn hS (by decide)) (SGk hS rfl) (by decide) rfl (SGr hS rfl) ?_
  refine Ev_iconst (v := 5) hq_161 (show decode prog_7_method_35_code 5 = .ok (.iconst 5, 1) by decide +kernel) (by decide) ?_
  refine Ev_iload_n hq_161 (show decode prog_7_method_35_code 6 = .ok (.iload_n 1, 1) by decide +kernel) rfl ?_
  refine Ev_imul hq_161 (show decode prog_7_method_35_code 7 = .ok (.imul, 1) by decide +kernel) ?_
  obtain ⟨h1, k⟩ := k
  refine Ev_iald hq_161 (show decode prog_7_method_35_code 8 = .ok (.iaload, 1) by decide +kernel) (SGn hS (by decide)) (SGk hS rfl) (SGi hS rfl h1) ?_
  refine Ev_isub hq_161 (show decode prog_7_method_35_code 9 = .ok (.isub, 1) by decide +kernel) ?_
  obtain ⟨y2, ey2⟩ : ∃ y2 : Int32, y2 = (x2 - (I 60 (5 * x1).toNatClampNeg)) := ⟨_, rfl⟩
  have k := k y2 ey2
  rw [← ey2]
  refine Ev_istore_n (lo2 := [.ref 57, .int x1, .int x2, .int y2, zU, zU, zU, zU, zU]) hq_161 (show decode prog_7_method_35_code 10 = .ok (.istore_n 3, 1) by decide +kernel) (z_le rfl) rfl ?_
  refine Ev_aload_n hq_161 (show decode prog_7_method_35_code 11 = .ok (.aload_n 0, 1) by decide +kernel) rfl ?_
  refine Ev_getR hq_161 (show decode prog_7_method_35_code 12 = .ok (.getfield 55, 3) by decide +kernel) rfl (SGn hS (by decide)) (SGk hS rfl) (by decide) rfl (SGr hS rfl) ?_
  refine Ev_iconst (v := 4) hq_161 (show decode prog_7_method_35_code 15 = .ok (.iconst 4, 1) by decide +kernel) (by decide) ?_
  refine Ev_iload_n hq_161 (show decode prog_7_method_35_code 16 = .ok (.iload_n 3, 1) by decide +kernel) rfl ?_
  refine Ev_if_ge (tgt := 24) hq_161 (show decode prog_7_method_35_code 17 = .ok (.ifCond .ge 7, 3) by decide +kernel) (by decide) (fun c3 => ?_) (fun c3 => ?_)
  · have k := k.1 c3
    refine Ev_iload_n hq_161 (show decode prog_7_method_35_code 24 = .ok (.iload_n 3, 1) by decide +kernel) rfl ?_
    refine Ev_imul hq_161 (show decode prog_7_method_35_code 25 = .ok (.imul, 1) by decide +kernel) ?_
    refine Ev_iload_n hq_161 (show decode prog_7_method_35_code 26 = .ok (.iload_n 1, 1) by decide +kernel) rfl ?_
    refine Ev_iadd hq_161 (show decode prog_7_method_35_code 27 = .ok (.iadd, 1) by decide +kernel) ?_
    obtain ⟨h4, k⟩ := k
    refine Ev_iald hq_161 (show decode prog_7_method_35_code 28 = .ok (.iaload, 1) by decide +kernel) (SGn hS (by decide)) (SGk hS rfl) (SGi hS rfl h4) ?_
    obtain ⟨y5, ey5⟩ : ∃ y5 : Int32, y5 = (I 73 ((4 * y2) + x1).toNatClampNeg) := ⟨_, rfl⟩
    have k := k y5 ey5
    rw [← ey5]
    refine Ev_istore (lo2 := [.ref 57, .int x1, .int x2, .int y2, .int y5, zU, zU, zU, zU]) hq_161 (show decode prog_7_method_35_code 29 = .ok (.istore 4, 2) by decide +kernel) (z_le rfl) rfl ?_
    refine Ev_aload_n hq_161 (show decode prog_7_method_35_code 31 = .ok (.aload_n 0, 1) by decide +kernel) rfl ?_
    refine Ev_iload_n hq_161 (show decode prog_7_method_35_code 32 = .ok (.iload_n 1, 1) by decide +kernel) rfl ?_
    refine Ev_iload_n hq_161 (show decode prog_7_method_35_code 33 = .ok (.iload_n 2, 1) by decide +kernel) rfl ?_
    obtain ⟨r8, I6, h7, k⟩ := k
    refine Ev_virt (as := [.int x1, .int x2]) hq_161 (show decode prog_7_method_35_code 34 = .ok (.invokevirtual 190, 3) by decide +kernel) rfl hq_162 rfl (z_le rfl) ⟨(SGn hS (by decide)), (SGk hS rfl), by decide⟩ h7 ?_
    refine Ev_istore (lo2 := [.ref 57, .int x1, .int x2, .int y2, .int y5, .int r8, zU, zU, zU]) hq_161 (show decode prog_7_method_35_code 37 = .ok (.istore 5, 2) by decide +kernel) (z_le rfl) rfl ?_
    refine Ev_aload_n hq_161 (show decode prog_7_method_35_code 39 = .ok (.aload_n 0, 1) by decide +kernel) rfl ?_
    refine Ev_getR hq_161 (show decode prog_7_method_35_code 40 = .ok (.getfield 7, 3) by decide +kernel) rfl (SGn hS (by decide)) (SGk hS rfl) (by decide) rfl (SGr hS rfl) ?_
    refine Ev_iload_n hq_161 (show decode prog_7_method_35_code 43 = .ok (.iload_n 1, 1) by decide +kernel) rfl ?_
    obtain ⟨h9, k⟩ := k
    refine Ev_iald hq_161 (show decode prog_7_method_35_code 44 = .ok (.iaload, 1) by decide +kernel) (SGn hS (by decide)) (SGk hS rfl) (SGi hS rfl h9) ?_
    obtain ⟨y10, ey10⟩ : ∃ y10 : Int32, y10 = (I6 58 x1.toNatClampNeg) := ⟨_, rfl⟩
    have k := k y10 ey10
    rw [← ey10]
    refine Ev_istore (lo2 := [.ref 57, .int x1, .int x2, .int y2, .int y5, .int r8, .int y10, zU, zU]) hq_161 (show decode prog_7_method_35_code 45 = .ok (.istore 6, 2) by decide +kernel) (z_le rfl) rfl ?_
    refine Ev_aload_n hq_161 (show decode prog_7_method_35_code 47 = .ok (.aload_n 0, 1) by decide +kernel) rfl ?_
    refine Ev_getR hq_161 (show decode prog_7_method_35_code 48 = .ok (.getfield 13, 3) by decide +kernel) rfl (SGn hS (by decide)) (SGk hS rfl) (by decide) rfl (SGr hS rfl) ?_
    refine Ev_iload_n hq_161 (show decode prog_7_method_35_code 51 = .ok (.iload_n 1, 1) by decide +kernel) rfl ?_
    obtain ⟨h11, k⟩ := k
    refine Ev_iald hq_161 (show decode prog_7_method_35_code 52 = .ok (.iaload, 1) by decide +kernel) (SGn hS (by decide)) (SGk hS rfl) (SGi hS rfl h11) ?_
    obtain ⟨y12, ey12⟩ : ∃ y12 : Int32, y12 = (I6 59 x1.toNatClampNeg) := ⟨_, rfl⟩
    have k := k y12 ey12
    rw [← ey12]
    refine Ev_istore (lo2 := [.ref 57, .int x1, .int x2, .int y2, .int y5, .int r8, .int y10, .int y12, zU]) hq_161 (show decode prog_7_method_35_code 53 = .ok (.istore 7, 2) by decide +kernel) (z_le rfl) rfl ?_
    refine Ev_iload hq_161 (show decode prog_7_method_35_code 55 = .ok (.iload 6, 2) by decide +kernel) rfl ?_
    refine Ev_iconst (v := 1) hq_161 (show decode prog_7_method_35_code 57 = .ok (.iconst 1, 1) by decide +kernel) (by decide) ?_
    refine Ev_icmp_eq (tgt := 67) hq_161 (show decode prog_7_method_35_code 58 = .ok (.if_icmp .eq 9, 3) by decide +kernel) (by decide) (fun c13 => ?_) (fun c13 => ?_)
    · have k := k.1 c13
      refine Ev_iload hq_161 (show decode prog_7_method_35_code 67 = .ok (.iload 4, 2) by decide +kernel) rfl ?_
      refine Ev_iconst (v := 2) hq_161 (show decode prog_7_method_35_code 69 = .ok (.iconst 2, 1) by decide +kernel) (by decide) ?_
      refine Ev_iload hq_161 (show decode prog_7_method_35_code 70 = .ok (.iload 7, 2) by decide +kernel) rfl ?_
      refine Ev_imul hq_161 (show decode prog_7_method_35_code 72 = .ok (.imul, 1) by decide +kernel) ?_
      refine Ev_iconst (v := 1) hq_161 (show decode prog_7_method_35_code 73 = .ok (.iconst 1, 1) by decide +kernel) (by decide) ?_
      refine Ev_iadd hq_161 (show decode prog_7_method_35_code 74 = .ok (.iadd, 1) by decide +kernel) ?_
      refine Ev_iload hq_161 (show decode prog_7_method_35_code 75 = .ok (.iload 5, 2) by decide +kernel) rfl ?_
      refine Ev_imul hq_161 (show decode prog_7_method_35_code 77 = .ok (.imul, 1) by decide +kernel) ?_
      refine Ev_isub hq_161 (show decode prog_7_method_35_code 78 = .ok (.isub, 1) by decide +kernel) ?_
      refine Ev_goto (tgt := 84) hq_161 (show decode prog_7_method_35_code 79 = .ok (.goto 5, 3) by decide +kernel) (by decide) ?_
      obtain ⟨y14, ey14⟩ : ∃ y14 : Int32, y14 = (y5 - (((2 * y12) + 1) * r8)) := ⟨_, rfl⟩
      have k := k y14 ey14
      rw [← ey14]
      refine Ev_istore (lo2 := [.ref 57, .int x1, .int x2, .int y2, .int y5, .int r8, .int y10, .int y12, .int y14]) hq_161 (show decode prog_7_method_35_code 84 = .ok (.istore 8, 2) by decide +kernel) (z_le rfl) rfl ?_
      refine Ev_iload hq_161 (show decode prog_7_method_35_code 86 = .ok (.iload 6, 2) by decide +kernel) rfl ?_
      refine Ev_iconst (v := 3) hq_161 (show decode prog_7_method_35_code 88 = .ok (.iconst 3, 1) by decide +kernel) (by decide) ?_
      refine Ev_icmp_ne (tgt := 112) hq_161 (show decode prog_7_method_35_code 89 = .ok (.if_icmp .ne 23, 3) by decide +kernel) (by decide) (fun c15 => ?_) (fun c15 => ?_)
      · have k := k.1 c15
        refine Ev_iload hq_161 (show decode prog_7_method_35_code 112 = .ok (.iload 8, 2) by decide +kernel) rfl ?_
        refine Ev_istore (lo2 := [.ref 57, .int x1, .int x2, .int y2, .int y5, .int r8, .int y10, .int y12, .int y14]) hq_161 (show decode prog_7_method_35_code 114 = .ok (.istore 8, 2) by decide +kernel) (z_le rfl) rfl ?_
        refine Ev_iload hq_161 (show decode prog_7_method_35_code 116 = .ok (.iload 8, 2) by decide +kernel) rfl ?_
        refine Ev_iconst (v := 0) hq_161 (show decode prog_7_method_35_code 118 = .ok (.iconst 0, 1) by decide +kernel) (by decide) ?_
        refine Ev_sipush (v := 999) hq_161 (show decode prog_7_method_35_code 119 = .ok (.sipush 999, 3) by decide +kernel) (by decide) ?_
        refine Ev_stat (as := [.int y14, .int 0, .int 999]) hq_161 (show decode prog_7_method_35_code 122 = .ok (.invokestatic 173, 3) by decide +kernel) rfl (Or.inl rfl) hq_152 rfl (z_le rfl) (c_Z_within y14 0 999) ?_
        exact Ev_iret hq_161 (show decode prog_7_method_35_code 125 = .ok (.ireturn, 1) by decide +kernel) rfl k
      · have k := k.2 (Classical.not_not.mp c15)
        refine Ev_iload_n hq_161 (show decode prog_7_method_35_code 92 = .ok (.iload_n 2, 1) by decide +kernel) rfl ?_
        refine Ev_iload hq_161 (show decode prog_7_method_35_code 93 = .ok (.iload 7, 2) by decide +kernel) rfl ?_
        refine Ev_iconst (v := 2) hq_161 (show decode prog_7_method_35_code 95 = .ok (.iconst 2, 1) by decide +kernel) (by decide) ?_
        refine Ev_iadd hq_161 (show decode prog_7_method_35_code 96 = .ok (.iadd, 1) by decide +kernel) ?_
        obtain ⟨h16, k⟩ := k
        refine Ev_irem hq_161 (show decode prog_7_method_35_code 97 = .ok (.irem, 1) by decide +kernel) h16 ?_
        refine Ev_iload hq_161 (show decode prog_7_method_35_code 98 = .ok (.iload 7, 2) by decide +kernel) rfl ?_
        refine Ev_iconst (v := 1) hq_161 (show decode prog_7_method_35_code 100 = .ok (.iconst 1, 1) by decide +kernel) (by decide) ?_
        refine Ev_iadd hq_161 (show decode prog_7_method_35_code 101 = .ok (.iadd, 1) by decide +kernel) ?_
        refine Ev_icmp_ne (tgt := 112) hq_161 (show decode prog_7_method_35_code 102 = .ok (.if_icmp .ne 10, 3) by decide +kernel) (by decide) (fun c17 => ?_) (fun c17 => ?_)
        · have k := k.1 c17
          refine Ev_iload hq_161 (show decode prog_7_method_35_code 112 = .ok (.iload 8, 2) by decide +kernel) rfl ?_
          refine Ev_istore (lo2 := [.ref 57, .int x1, .int x2, .int y2, .int y5, .int r8, .int y10, .int y12, .int y14]) hq_161 (show decode prog_7_method_35_code 114 = .ok (.istore 8, 2) by decide +kernel) (z_le rfl) rfl ?_
          refine Ev_iload hq_161 (show decode prog_7_method_35_code 116 = .ok (.iload 8, 2) by decide +kernel) rfl ?_
          refine Ev_iconst (v := 0) hq_161 (show decode prog_7_method_35_code 118 = .ok (.iconst 0, 1) by decide +kernel) (by decide) ?_
          refine Ev_sipush (v := 999) hq_161 (show decode prog_7_method_35_code 119 = .ok (.sipush 999, 3) by decide +kernel) (by decide) ?_
          refine Ev_stat (as := [.int y14, .int 0, .int 999]) hq_161 (show decode prog_7_method_35_code 122 = .ok (.invokestatic 173, 3) by decide +kernel) rfl (Or.inl rfl) hq_152 rfl (z_le rfl) (c_Z_within y14 0 999) ?_
          exact Ev_iret hq_161 (show decode prog_7_method_35_code 125 = .ok (.ireturn, 1) by decide +kernel) rfl k
        · have k := k.2 (Classical.not_not.mp c17)
          refine Ev_iload hq_161 (show decode prog_7_method_35_code 105 = .ok (.iload 8, 2) by decide +kernel) rfl ?_
          refine Ev_iconst (v := 2) hq_161 (show decode prog_7_method_35_code 107 = .ok (.iconst 2, 1) by decide +kernel) (by decide) ?_
          refine Ev_idiv hq_161 (show decode prog_7_method_35_code 108 = .ok (.idiv, 1) by decide +kernel) (by decide) ?_
          refine Ev_goto (tgt := 114) hq_161 (show decode prog_7_method_35_code 109 = .ok (.goto 5, 3) by decide +kernel) (by decide) ?_
          obtain ⟨y18, ey18⟩ : ∃ y18 : Int32, y18 = (y14 / 2) := ⟨_, rfl⟩
          have k := k y18 ey18
          rw [← ey18]
          refine Ev_istore (lo2 := [.ref 57, .int x1, .int x2, .int y2, .int y5, .int r8, .int y10, .int y12, .int y18]) hq_161 (show decode prog_7_method_35_code 114 = .ok (.istore 8, 2) by decide +kernel) (z_le rfl) rfl ?_
          refine Ev_iload hq_161 (show decode prog_7_method_35_code 116 = .ok (.iload 8, 2) by decide +kernel) rfl ?_
          refine Ev_iconst (v := 0) hq_161 (show decode prog_7_method_35_code 118 = .ok (.iconst 0, 1) by decide +kernel) (by decide) ?_
          refine Ev_sipush (v := 999) hq_161 (show decode prog_7_method_35_code 119 = .ok (.sipush 999, 3) by decide +kernel) (by decide) ?_
          refine Ev_stat (as := [.int y18, .int 0, .int 999]) hq_161 (show decode prog_7_method_35_code 122 = .ok (.invokestatic 173, 3) by decide +kernel) rfl (Or.inl rfl) hq_152 rfl (z_le rfl) (c_Z_within y18 0 999) ?_
          exact Ev_iret hq_161 (show decode prog_7_method_35_code 125 = .ok (.ireturn, 1) by decide +kernel) rfl k
    · have k := k.2 c13
      refine Ev_iload hq_161 (show decode prog_7_method_35_code 61 = .ok (.iload 6, 2) by decide +kernel) rfl ?_
      refine Ev_iconst (v := 3) hq_161 (show decode prog_7_method_35_code 63 = .ok (.iconst 3, 1) by decide +kernel) (by decide) ?_
      refine Ev_icmp_ne (tgt := 82) hq_161 (show decode prog_7_method_35_code 64 = .ok (.if_icmp .ne 18, 3) by decide +kernel) (by decide) (fun c19 => ?_) (fun c19 => ?_)
      · have k := k.1 c19
        refine Ev_iload hq_161 (show decode prog_7_method_35_code 82 = .ok (.iload 4, 2) by decide +kernel) rfl ?_
        refine Ev_istore (lo2 := [.ref 57, .int x1, .int x2, .int y2, .int y5, .int r8, .int y10, .int y12, .int y5]) hq_161 (show decode prog_7_method_35_code 84 = .ok (.istore 8, 2) by decide +kernel) (z_le rfl) rfl ?_
        refine Ev_iload hq_161 (show decode prog_7_method_35_code 86 = .ok (.iload 6, 2) by decide +kernel) rfl ?_
        refine Ev_iconst (v := 3) hq_161 (show decode prog_7_method_35_code 88 = .ok (.iconst 3, 1) by decide +kernel) (by decide) ?_
        refine Ev_icmp_ne (tgt := 112) hq_161 (show decode prog_7_method_35_code 89 = .ok (.if_icmp .ne 23, 3) by decide +kernel) (by decide) (fun c20 => ?_) (fun c20 => ?_)
        · have k := k.1 c20
          refine Ev_iload hq_161 (show decode prog_7_method_35_code 112 = .ok (.iload 8, 2) by decide +kernel) rfl ?_
          refine Ev_istore (lo2 := [.ref 57, .int x1, .int x2, .int y2, .int y5, .int r8, .int y10, .int y12, .int y5]) hq_161 (show decode prog_7_method_35_code 114 = .ok (.istore 8, 2) by decide +kernel) (z_le rfl) rfl ?_
          refine Ev_iload hq_161 (show decode prog_7_method_35_code 116 = .ok (.iload 8, 2) by decide +kernel) rfl ?_
          refine Ev_iconst (v := 0) hq_161 (show decode prog_7_method_35_code 118 = .ok (.iconst 0, 1) by decide +kernel) (by decide) ?_
          refine Ev_sipush (v := 999) hq_161 (show decode prog_7_method_35_code 119 = .ok (.sipush 999, 3) by decide +kernel) (by decide) ?_
          refine Ev_stat (as := [.int y5, .int 0, .int 999]) hq_161 (show decode prog_7_method_35_code 122 = .ok (.invokestatic 173, 3) by decide +kernel) rfl (Or.inl rfl) hq_152 rfl (z_le rfl) (c_Z_within y5 0 999) ?_
          exact Ev_iret hq_161 (show decode prog_7_method_35_code 125 = .ok (.ireturn, 1) by decide +kernel) rfl k
        · have k := k.2 (Classical.not_not.mp c20)
          refine Ev_iload_n hq_161 (show decode prog_7_method_35_code 92 = .ok (.iload_n 2, 1) by decide +kernel) rfl ?_
          refine Ev_iload hq_161 (show decode prog_7_method_35_code 93 = .ok (.iload 7, 2) by decide +kernel) rfl ?_
          refine Ev_iconst (v := 2) hq_161 (show decode prog_7_method_35_code 95 = .ok (.iconst 2, 1) by decide +kernel) (by decide) ?_
          refine Ev_iadd hq_161 (show decode prog_7_method_35_code 96 = .ok (.iadd, 1) by decide +kernel) ?_
          obtain ⟨h21, k⟩ := k
          refine Ev_irem hq_161 (show decode prog_7_method_35_code 97 = .ok (.irem, 1) by decide +kernel) h21 ?_
          refine Ev_iload hq_161 (show decode prog_7_method_35_code 98 = .ok (.iload 7, 2) by decide +kernel) rfl ?_
          refine Ev_iconst (v := 1) hq_161 (show decode prog_7_method_35_code 100 = .ok (.iconst 1, 1) by decide +kernel) (by decide) ?_
          refine Ev_iadd hq_161 (show decode prog_7_method_35_code 101 = .ok (.iadd, 1) by decide +kernel) ?_
          refine Ev_icmp_ne (tgt := 112) hq_161 (show decode prog_7_method_35_code 102 = .ok (.if_icmp .ne 10, 3) by decide +kernel) (by decide) (fun c22 => ?_) (fun c22 => ?_)
          · have k := k.1 c22
            refine Ev_iload hq_161 (show decode prog_7_method_35_code 112 = .ok (.iload 8, 2) by decide +kernel) rfl ?_
            refine Ev_istore (lo2 := [.ref 57, .int x1, .int x2, .int y2, .int y5, .int r8, .int y10, .int y12, .int y5]) hq_161 (show decode prog_7_method_35_code 114 = .ok (.istore 8, 2) by decide +kernel) (z_le rfl) rfl ?_
            refine Ev_iload hq_161 (show decode prog_7_method_35_code 116 = .ok (.iload 8, 2) by decide +kernel) rfl ?_
            refine Ev_iconst (v := 0) hq_161 (show decode prog_7_method_35_code 118 = .ok (.iconst 0, 1) by decide +kernel) (by decide) ?_
            refine Ev_sipush (v := 999) hq_161 (show decode prog_7_method_35_code 119 = .ok (.sipush 999, 3) by decide +kernel) (by decide) ?_
            refine Ev_stat (as := [.int y5, .int 0, .int 999]) hq_161 (show decode prog_7_method_35_code 122 = .ok (.invokestatic 173, 3) by decide +kernel) rfl (Or.inl rfl) hq_152 rfl (z_le rfl) (c_Z_within y5 0 999) ?_
            exact Ev_iret hq_161 (show decode prog_7_method_35_code 125 = .ok (.ireturn, 1) by decide +kernel) rfl k
          · have k := k.2 (Classical.not_not.mp c22)
            refine Ev_iload hq_161 (show decode prog_7_method_35_code 105 = .ok (.iload 8, 2) by decide +kernel) rfl ?_
            refine Ev_iconst (v := 2) hq_161 (show decode prog_7_method_35_code 107 = .ok (.iconst 2, 1) by decide +kernel) (by decide) ?_
            refine Ev_idiv hq_161 (show decode prog_7_method_35_code 108 = .ok (.idiv, 1) by decide +kernel) (by decide) ?_
            refine Ev_goto (tgt := 114) hq_161 (show decode prog_7_method_35_code 109 = .ok (.goto 5, 3) by decide +kernel) (by decide) ?_
            obtain ⟨y23, ey23⟩ : ∃ y23 : Int32, y23 = (y5 / 2) := ⟨_, rfl⟩
            have k := k y23 ey23
            rw [← ey23]
            refine Ev_istore (lo2 := [.ref 57, .int x1, .int x2, .int y2, .int y5, .int r8, .int y10, .int y12, .int y23]) hq_161 (show decode prog_7_method_35_code 114 = .ok (.istore 8, 2) by decide +kernel) (z_le rfl) rfl ?_
            refine Ev_iload hq_161 (show decode prog_7_method_35_code 116 = .ok (.iload 8, 2) by decide +kernel) rfl ?_
            refine Ev_iconst (v := 0) hq_161 (show decode prog_7_method_35_code 118 = .ok (.iconst 0, 1) by decide +kernel) (by decide) ?_
            refine Ev_sipush (v := 999) hq_161 (show decode prog_7_method_35_code 119 = .ok (.sipush 999, 3) by decide +kernel) (by decide) ?_
            refine Ev_stat (as := [.int y23, .int 0, .int 999]) hq_161 (show decode prog_7_method_35_code 122 = .ok (.invokestatic 173, 3) by decide +kernel) rfl (Or.inl rfl) hq_152 rfl (z_le rfl) (c_Z_within y23 0 999) ?_
            exact Ev_iret hq_161 (show decode prog_7_method_35_code 125 = .ok (.ireturn, 1) by decide +kernel) rfl k
      · have k := k.2 (Classical.not_not.mp c19)
        refine Ev_iload hq_161 (show decode prog_7_method_35_code 67 = .ok (.iload 4, 2) by decide +kernel) rfl ?_
        refine Ev_iconst (v := 2) hq_161 (show decode prog_7_method_35_code 69 = .ok (.iconst 2, 1) by decide +kernel) (by decide) ?_
        refine Ev_iload hq_161 (show decode prog_7_method_35_code 70 = .ok (.iload 7, 2) by decide +kernel) rfl ?_
        refine Ev_imul hq_161 (show decode prog_7_method_35_code 72 = .ok (.imul, 1) by decide +kernel) ?_
        refine Ev_iconst (v := 1) hq_161 (show decode prog_7_method_35_code 73 = .ok (.iconst 1, 1) by decide +kernel) (by decide) ?_
        refine Ev_iadd hq_161 (show decode prog_7_method_35_code 74 = .ok (.iadd, 1) by decide +kernel) ?_
        refine Ev_iload hq_161 (show decode prog_7_method_35_code 75 = .ok (.iload 5, 2) by decide +kernel) rfl ?_
        refine Ev_imul hq_161 (show decode prog_7_method_35_code 77 = .ok (.imul, 1) by decide +kernel) ?_
        refine Ev_isub hq_161 (show decode prog_7_method_35_code 78 = .ok (.isub, 1) by decide +kernel) ?_
        refine Ev_goto (tgt := 84) hq_161 (show decode prog_7_method_35_code 79 = .ok (.goto 5, 3) by decide +kernel) (by decide) ?_
        obtain ⟨y24, ey24⟩ : ∃ y24 : Int32, y24 = (y5 - (((2 * y12) + 1) * r8)) := ⟨_, rfl⟩
        have k := k y24 ey24
        rw [← ey24]
        refine Ev_istore (lo2 := [.ref 57, .int x1, .int x2, .int y2, .int y5, .int r8, .int y10, .int y12, .int y24]) hq_161 (show decode prog_7_method_35_code 84 = .ok (.istore 8, 2) by decide +kernel) (z_le rfl) rfl ?_
        refine Ev_iload hq_161 (show decode prog_7_method_35_code 86 = .ok (.iload 6, 2) by decide +kernel) rfl ?_
        refine Ev_iconst (v := 3) hq_161 (show decode prog_7_method_35_code 88 = .ok (.iconst 3, 1) by decide +kernel) (by decide) ?_
        refine Ev_icmp_ne (tgt := 112) hq_161 (show decode prog_7_method_35_code 89 = .ok (.if_icmp .ne 23, 3) by decide +kernel) (by decide) (fun c25 => ?_) (fun c25 => ?_)
        · have k := k.1 c25
          refine Ev_iload hq_161 (show decode prog_7_method_35_code 112 = .ok (.iload 8, 2) by decide +kernel) rfl ?_
          refine Ev_istore (lo2 := [.ref 57, .int x1, .int x2, .int y2, .int y5, .int r8, .int y10, .int y12, .int y24]) hq_161 (show decode prog_7_method_35_code 114 = .ok (.istore 8, 2) by decide +kernel) (z_le rfl) rfl ?_
          refine Ev_iload hq_161 (show decode prog_7_method_35_code 116 = .ok (.iload 8, 2) by decide +kernel) rfl ?_
          refine Ev_iconst (v := 0) hq_161 (show decode prog_7_method_35_code 118 = .ok (.iconst 0, 1) by decide +kernel) (by decide) ?_
          refine Ev_sipush (v := 999) hq_161 (show decode prog_7_method_35_code 119 = .ok (.sipush 999, 3) by decide +kernel) (by decide) ?_
          refine Ev_stat (as := [.int y24, .int 0, .int 999]) hq_161 (show decode prog_7_method_35_code 122 = .ok (.invokestatic 173, 3) by decide +kernel) rfl (Or.inl rfl) hq_152 rfl (z_le rfl) (c_Z_within y24 0 999) ?_
          exact Ev_iret hq_161 (show decode prog_7_method_35_code 125 = .ok (.ireturn, 1) by decide +kernel) rfl k
        · have k := k.2 (Classical.not_not.mp c25)
          refine Ev_iload_n hq_161 (show decode prog_7_method_35_code 92 = .ok (.iload_n 2, 1) by decide +kernel) rfl ?_
          refine Ev_iload hq_161 (show decode prog_7_method_35_code 93 = .ok (.iload 7, 2) by decide +kernel) rfl ?_
          refine Ev_iconst (v := 2) hq_161 (show decode prog_7_method_35_code 95 = .ok (.iconst 2, 1) by decide +kernel) (by decide) ?_
          refine Ev_iadd hq_161 (show decode prog_7_method_35_code 96 = .ok (.iadd, 1) by decide +kernel) ?_
          obtain ⟨h26, k⟩ := k
          refine Ev_irem hq_161 (show decode prog_7_method_35_code 97 = .ok (.irem, 1) by decide +kernel) h26 ?_
          refine Ev_iload hq_161 (show decode prog_7_method_35_code 98 = .ok (.iload 7, 2) by decide +kernel) rfl ?_
          refine Ev_iconst (v := 1) hq_161 (show decode prog_7_method_35_code 100 = .ok (.iconst 1, 1) by decide +kernel) (by decide) ?_
          refine Ev_iadd hq_161 (show decode prog_7_method_35_code 101 = .ok (.iadd, 1) by decide +kernel) ?_
          refine Ev_icmp_ne (tgt := 112) hq_161 (show decode prog_7_method_35_code 102 = .ok (.if_icmp .ne 10, 3) by decide +kernel) (by decide) (fun c27 => ?_) (fun c27 => ?_)
          · have k := k.1 c27
            refine Ev_iload hq_161 (show decode prog_7_method_35_code 112 = .ok (.iload 8, 2) by decide +kernel) rfl ?_
            refine Ev_istore (lo2 := [.ref 57, .int x1, .int x2, .int y2, .int y5, .int r8, .int y10, .int y12, .int y24]) hq_161 (show decode prog_7_method_35_code 114 = .ok (.istore 8, 2) by decide +kernel) (z_le rfl) rfl ?_
            refine Ev_iload hq_161 (show decode prog_7_method_35_code 116 = .ok (.iload 8, 2) by decide +kernel) rfl ?_
            refine Ev_iconst (v := 0) hq_161 (show decode prog_7_method_35_code 118 = .ok (.iconst 0, 1) by decide +kernel) (by decide) ?_
            refine Ev_sipush (v := 999) hq_161 (show decode prog_7_method_35_code 119 = .ok (.sipush 999, 3) by decide +kernel) (by decide) ?_
            refine Ev_stat (as := [.int y24, .int 0, .int 999]) hq_161 (show decode prog_7_method_35_code 122 = .ok (.invokestatic 173, 3) by decide +kernel) rfl (Or.inl rfl) hq_152 rfl (z_le rfl) (c_Z_within y24 0 999) ?_
            exact Ev_iret hq_161 (show decode prog_7_method_35_code 125 = .ok (.ireturn, 1) by decide +kernel) rfl k
          · have k := k.2 (Classical.not_not.mp c27)
            refine Ev_iload hq_161 (show decode prog_7_method_35_code 105 = .ok (.iload 8, 2) by decide +kernel) rfl ?_
            refine Ev_iconst (v := 2) hq_161 (show decode prog_7_method_35_code 107 = .ok (.iconst 2, 1) by decide +kernel) (by decide) ?_
            refine Ev_idiv hq_161 (show decode prog_7_method_35_code 108 = .ok (.idiv, 1) by decide +kernel) (by decide) ?_
            refine Ev_goto (tgt := 114) hq_161 (show decode prog_7_method_35_code 109 = .ok (.goto 5, 3) by decide +kernel) (by decide) ?_
            obtain ⟨y28, ey28⟩ : ∃ y28 : Int32, y28 = (y24 / 2) := ⟨_, rfl⟩
            have k := k y28 ey28
            rw [← ey28]
            refine Ev_istore (lo2 := [.ref 57, .int x1, .int x2, .int y2, .int y5, .int r8, .int y10, .int y12, .int y28]) hq_161 (show decode prog_7_method_35_code 114 = .ok (.istore 8, 2) by decide +kernel) (z_le rfl) rfl ?_
            refine Ev_iload hq_161 (show decode prog_7_method_35_code 116 = .ok (.iload 8, 2) by decide +kernel) rfl ?_
            refine Ev_iconst (v := 0) hq_161 (show decode prog_7_method_35_code 118 = .ok (.iconst 0, 1) by decide +kernel) (by decide) ?_
            refine Ev_sipush (v := 999) hq_161 (show decode prog_7_method_35_code 119 = .ok (.sipush 999, 3) by decide +kernel) (by decide) ?_
            refine Ev_stat (as := [.int y28, .int 0, .int 999]) hq_161 (show decode prog_7_method_35_code 122 = .ok (.invokestatic 173, 3) by decide +kernel) rfl (Or.inl rfl) hq_152 rfl (z_le rfl) (c_Z_within y28 0 999) ?_
            exact Ev_iret hq_161 (show decode prog_7_method_35_code 125 = .ok (.ireturn, 1) by decide +kernel) rfl k
  · have k := k.2 c3
    refine Ev_iconst (v := 0) hq_161 (show decode prog_7_method_35_code 20 = .ok (.iconst 0, 1) by decide +kernel) (by decide) ?_
    refine Ev_goto (tgt := 25) hq_161 (show decode prog_7_method_35_code 21 = .ok (.goto 4, 3) by decide +kernel) (by decide) ?_
    refine Ev_imul hq_161 (show decode prog_7_method_35_code 25 = .ok (.imul, 1) by decide +kernel) ?_
    refine Ev_iload_n hq_161 (show decode prog_7_method_35_code 26 = .ok (.iload_n 1, 1) by decide +kernel) rfl ?_
    refine Ev_iadd hq_161 (show decode prog_7_method_35_code 27 = .ok (.iadd, 1) by decide +kernel) ?_
    obtain ⟨h29, k⟩ := k
    refine Ev_iald hq_161 (show decode prog_7_method_35_code 28 = .ok (.iaload, 1) by decide +kernel) (SGn hS (by decide)) (SGk hS rfl) (SGi hS rfl h29) ?_
    obtain ⟨y30, ey30⟩ : ∃ y30 : Int32, y30 = (I 73 ((4 * 0) + x1).toNatClampNeg) := ⟨_, rfl⟩
    have k := k y30 ey30
    rw [← ey30]
    refine Ev_istore (lo2 := [.ref 57, .int x1, .int x2, .int y2, .int y30, zU, zU, zU, zU]) hq_161 (show decode prog_7_method_35_code 29 = .ok (.istore 4, 2) by decide +kernel) (z_le rfl) rfl ?_
    refine Ev_aload_n hq_161 (show decode prog_7_method_35_code 31 = .ok (.aload_n 0, 1) by decide +kernel) rfl ?_
    refine Ev_iload_n hq_161 (show decode prog_7_method_35_code 32 = .ok (.iload_n 1, 1) by decide +kernel) rfl ?_
    refine Ev_iload_n hq_161 (show decode prog_7_method_35_code 33 = .ok (.iload_n 2, 1) by decide +kernel) rfl ?_
    obtain ⟨r33, I31, h32, k⟩ := k
    refine Ev_virt (as := [.int x1, .int x2]) hq_161 (show decode prog_7_method_35_code 34 = .ok (.invokevirtual 190, 3) by decide +kernel) rfl hq_162 rfl (z_le rfl) ⟨(SGn hS (by decide)), (SGk hS rfl), by decide⟩ h32 ?_
    refine Ev_istore (lo2 := [.ref 57, .int x1, .int x2, .int y2, .int y30, .int r33, zU, zU, zU]) hq_161 (show decode prog_7_method_35_code 37 = .ok (.istore 5, 2) by decide +kernel) (z_le rfl) rfl ?_
    refine Ev_aload_n hq_161 (show decode prog_7_method_35_code 39 = .ok (.aload_n 0, 1) by decide +kernel) rfl ?_
    refine Ev_getR hq_161 (show decode prog_7_method_35_code 40 = .ok (.getfield 7, 3) by decide +kernel) rfl (SGn hS (by decide)) (SGk hS rfl) (by decide) rfl (SGr hS rfl) ?_
    refine Ev_iload_n hq_161 (show decode prog_7_method_35_code 43 = .ok (.iload_n 1, 1) by decide +kernel) rfl ?_
    obtain ⟨h34, k⟩ := k
    refine Ev_iald hq_161 (show decode prog_7_method_35_code 44 = .ok (.iaload, 1) by decide +kernel) (SGn hS (by decide)) (SGk hS rfl) (SGi hS rfl h34) ?_
    obtain ⟨y35, ey35⟩ : ∃ y35 : Int32, y35 = (I31 58 x1.toNatClampNeg) := ⟨_, rfl⟩
    have k := k y35 ey35
    rw [← ey35]
    refine Ev_istore (lo2 := [.ref 57, .int x1, .int x2, .int y2, .int y30, .int r33, .int y35, zU, zU]) hq_161 (show decode prog_7_method_35_code 45 = .ok (.istore 6, 2) by decide +kernel) (z_le rfl) rfl ?_
    refine Ev_aload_n hq_161 (show decode prog_7_method_35_code 47 = .ok (.aload_n 0, 1) by decide +kernel) rfl ?_
    refine Ev_getR hq_161 (show decode prog_7_method_35_code 48 = .ok (.getfield 13, 3) by decide +kernel) rfl (SGn hS (by decide)) (SGk hS rfl) (by decide) rfl (SGr hS rfl) ?_
    refine Ev_iload_n hq_161 (show decode prog_7_method_35_code 51 = .ok (.iload_n 1, 1) by decide +kernel) rfl ?_
    obtain ⟨h36, k⟩ := k
    refine Ev_iald hq_161 (show decode prog_7_method_35_code 52 = .ok (.iaload, 1) by decide +kernel) (SGn hS (by decide)) (SGk hS rfl) (SGi hS rfl h36) ?_
    obtain ⟨y37, ey37⟩ : ∃ y37 : Int32, y37 = (I31 59 x1.toNatClampNeg) := ⟨_, rfl⟩
    have k := k y37 ey37
    rw [← ey37]
    refine Ev_istore (lo2 := [.ref 57, .int x1, .int x2, .int y2, .int y30, .int r33, .int y35, .int y37, zU]) hq_161 (show decode prog_7_method_35_code 53 = .ok (.istore 7, 2) by decide +kernel) (z_le rfl) rfl ?_
    refine Ev_iload hq_161 (show decode prog_7_method_35_code 55 = .ok (.iload 6, 2) by decide +kernel) rfl ?_
    refine Ev_iconst (v := 1) hq_161 (show decode prog_7_method_35_code 57 = .ok (.iconst 1, 1) by decide +kernel) (by decide) ?_
    refine Ev_icmp_eq (tgt := 67) hq_161 (show decode prog_7_method_35_code 58 = .ok (.if_icmp .eq 9, 3) by decide +kernel) (by decide) (fun c38 => ?_) (fun c38 => ?_)
    · have k := k.1 c38
      refine Ev_iload hq_161 (show decode prog_7_method_35_code 67 = .ok (.iload 4, 2) by decide +kernel) rfl ?_
      refine Ev_iconst (v := 2) hq_161 (show decode prog_7_method_35_code 69 = .ok (.iconst 2, 1) by decide +kernel) (by decide) ?_
      refine Ev_iload hq_161 (show decode prog_7_method_35_code 70 = .ok (.iload 7, 2) by decide +kernel) rfl ?_
      refine Ev_imul hq_161 (show decode prog_7_method_35_code 72 = .ok (.imul, 1) by decide +kernel) ?_
      refine Ev_iconst (v := 1) hq_161 (show decode prog_7_method_35_code 73 = .ok (.iconst 1, 1) by decide +kernel) (by decide) ?_
      refine Ev_iadd hq_161 (show decode prog_7_method_35_code 74 = .ok (.iadd, 1) by decide +kernel) ?_
      refine Ev_iload hq_161 (show decode prog_7_method_35_code 75 = .ok (.iload 5, 2) by decide +kernel) rfl ?_
      refine Ev_imul hq_161 (show decode prog_7_method_35_code 77 = .ok (.imul, 1) by decide +kernel) ?_
      refine Ev_isub hq_161 (show decode prog_7_method_35_code 78 = .ok (.isub, 1) by decide +kernel) ?_
      refine Ev_goto (tgt := 84) hq_161 (show decode prog_7_method_35_code 79 = .ok (.goto 5, 3) by decide +kernel) (by decide) ?_
      obtain ⟨y39, ey39⟩ : ∃ y39 : Int32, y39 = (y30 - (((2 * y37) + 1) * r33)) := ⟨_, rfl⟩
      have k := k y39 ey39
      rw [← ey39]
      refine Ev_istore (lo2 := [.ref 57, .int x1, .int x2, .int y2, .int y30, .int r33, .int y35, .int y37, .int y39]) hq_161 (show decode prog_7_method_35_code 84 = .ok (.istore 8, 2) by decide +kernel) (z_le rfl) rfl ?_
      refine Ev_iload hq_161 (show decode prog_7_method_35_code 86 = .ok (.iload 6, 2) by decide +kernel) rfl ?_
      refine Ev_iconst (v := 3) hq_161 (show decode prog_7_method_35_code 88 = .ok (.iconst 3, 1) by decide +kernel) (by decide) ?_
      refine Ev_icmp_ne (tgt := 112) hq_161 (show decode prog_7_method_35_code 89 = .ok (.if_icmp .ne 23, 3) by decide +kernel) (by decide) (fun c40 => ?_) (fun c40 => ?_)
      · have k := k.1 c40
        refine Ev_iload hq_161 (show decode prog_7_method_35_code 112 = .ok (.iload 8, 2) by decide +kernel) rfl ?_
        refine Ev_istore (lo2 := [.ref 57, .int x1, .int x2, .int y2, .int y30, .int r33, .int y35, .int y37, .int y39]) hq_161 (show decode prog_7_method_35_code 114 = .ok (.istore 8, 2) by decide +kernel) (z_le rfl) rfl ?_
        refine Ev_iload hq_161 (show decode prog_7_method_35_code 116 = .ok (.iload 8, 2) by decide +kernel) rfl ?_
        refine Ev_iconst (v := 0) hq_161 (show decode prog_7_method_35_code 118 = .ok (.iconst 0, 1) by decide +kernel) (by decide) ?_
        refine Ev_sipush (v := 999) hq_161 (show decode prog_7_method_35_code 119 = .ok (.sipush 999, 3) by decide +kernel) (by decide) ?_
        refine Ev_stat (as := [.int y39, .int 0, .int 999]) hq_161 (show decode prog_7_method_35_code 122 = .ok (.invokestatic 173, 3) by decide +kernel) rfl (Or.inl rfl) hq_152 rfl (z_le rfl) (c_Z_within y39 0 999) ?_
        exact Ev_iret hq_161 (show decode prog_7_method_35_code 125 = .ok (.ireturn, 1) by decide +kernel) rfl k
      · have k := k.2 (Classical.not_not.mp c40)
        refine Ev_iload_n hq_161 (show decode prog_7_method_35_code 92 = .ok (.iload_n 2, 1) by decide +kernel) rfl ?_
        refine Ev_iload hq_161 (show decode prog_7_method_35_code 93 = .ok (.iload 7, 2) by decide +kernel) rfl ?_
        refine Ev_iconst (v := 2) hq_161 (show decode prog_7_method_35_code 95 = .ok (.iconst 2, 1) by decide +kernel) (by decide) ?_
        refine Ev_iadd hq_161 (show decode prog_7_method_35_code 96 = .ok (.iadd, 1) by decide +kernel) ?_
        obtain ⟨h41, k⟩ := k
        refine Ev_irem hq_161 (show decode prog_7_method_35_code 97 = .ok (.irem, 1) by decide +kernel) h41 ?_
        refine Ev_iload hq_161 (show decode prog_7_method_35_code 98 = .ok (.iload 7, 2) by decide +kernel) rfl ?_
        refine Ev_iconst (v := 1) hq_161 (show decode prog_7_method_35_code 100 = .ok (.iconst 1, 1) by decide +kernel) (by decide) ?_
        refine Ev_iadd hq_161 (show decode prog_7_method_35_code 101 = .ok (.iadd, 1) by decide +kernel) ?_
        refine Ev_icmp_ne (tgt := 112) hq_161 (show decode prog_7_method_35_code 102 = .ok (.if_icmp .ne 10, 3) by decide +kernel) (by decide) (fun c42 => ?_) (fun c42 => ?_)
        · have k := k.1 c42
          refine Ev_iload hq_161 (show decode prog_7_method_35_code 112 = .ok (.iload 8, 2) by decide +kernel) rfl ?_
          refine Ev_istore (lo2 := [.ref 57, .int x1, .int x2, .int y2, .int y30, .int r33, .int y35, .int y37, .int y39]) hq_161 (show decode prog_7_method_35_code 114 = .ok (.istore 8, 2) by decide +kernel) (z_le rfl) rfl ?_
          refine Ev_iload hq_161 (show decode prog_7_method_35_code 116 = .ok (.iload 8, 2) by decide +kernel) rfl ?_
          refine Ev_iconst (v := 0) hq_161 (show decode prog_7_method_35_code 118 = .ok (.iconst 0, 1) by decide +kernel) (by decide) ?_
          refine Ev_sipush (v := 999) hq_161 (show decode prog_7_method_35_code 119 = .ok (.sipush 999, 3) by decide +kernel) (by decide) ?_
          refine Ev_stat (as := [.int y39, .int 0, .int 999]) hq_161 (show decode prog_7_method_35_code 122 = .ok (.invokestatic 173, 3) by decide +kernel) rfl (Or.inl rfl) hq_152 rfl (z_le rfl) (c_Z_within y39 0 999) ?_
          exact Ev_iret hq_161 (show decode prog_7_method_35_code 125 = .ok (.ireturn, 1) by decide +kernel) rfl k
        · have k := k.2 (Classical.not_not.mp c42)
          refine Ev_iload hq_161 (show decode prog_7_method_35_code 105 = .ok (.iload 8, 2) by decide +kernel) rfl ?_
          refine Ev_iconst (v := 2) hq_161 (show decode prog_7_method_35_code 107 = .ok (.iconst 2, 1) by decide +kernel) (by decide) ?_
          refine Ev_idiv hq_161 (show decode prog_7_method_35_code 108 = .ok (.idiv, 1) by decide +kernel) (by decide) ?_
          refine Ev_goto (tgt := 114) hq_161 (show decode prog_7_method_35_code 109 = .ok (.goto 5, 3) by decide +kernel) (by decide) ?_
          obtain ⟨y43, ey43⟩ : ∃ y43 : Int32, y43 = (y39 / 2) := ⟨_, rfl⟩
          have k := k y43 ey43
          rw [← ey43]
          refine Ev_istore (lo2 := [.ref 57, .int x1, .int x2, .int y2, .int y30, .int r33, .int y35, .int y37, .int y43]) hq_161 (show decode prog_7_method_35_code 114 = .ok (.istore 8, 2) by decide +kernel) (z_le rfl) rfl ?_
          refine Ev_iload hq_161 (show decode prog_7_method_35_code 116 = .ok (.iload 8, 2) by decide +kernel) rfl ?_
          refine Ev_iconst (v := 0) hq_161 (show decode prog_7_method_35_code 118 = .ok (.iconst 0, 1) by decide +kernel) (by decide) ?_
          refine Ev_sipush (v := 999) hq_161 (show decode prog_7_method_35_code 119 = .ok (.sipush 999, 3) by decide +kernel) (by decide) ?_
          refine Ev_stat (as := [.int y43, .int 0, .int 999]) hq_161 (show decode prog_7_method_35_code 122 = .ok (.invokestatic 173, 3) by decide +kernel) rfl (Or.inl rfl) hq_152 rfl (z_le rfl) (c_Z_within y43 0 999) ?_
          exact Ev_iret hq_161 (show decode prog_7_method_35_code 125 = .ok (.ireturn, 1) by decide +kernel) rfl k
    · have k := k.2 c38
      refine Ev_iload hq_161 (show decode prog_7_method_35_code 61 = .ok (.iload 6, 2) by decide +kernel) rfl ?_
      refine Ev_iconst (v := 3) hq_161 (show decode prog_7_method_35_code 63 = .ok (.iconst 3, 1) by decide +kernel) (by decide) ?_
      refine Ev_icmp_ne (tgt := 82) hq_161 (show decode prog_7_method_35_code 64 = .ok (.if_icmp .ne 18, 3) by decide +kernel) (by decide) (fun c44 => ?_) (fun c44 => ?_)
      · have k := k.1 c44
        refine Ev_iload hq_161 (show decode prog_7_method_35_code 82 = .ok (.iload 4, 2) by decide +kernel) rfl ?_
        refine Ev_istore (lo2 := [.ref 57, .int x1, .int x2, .int y2, .int y30, .int r33, .int y35, .int y37, .int y30]) hq_161 (show decode prog_7_method_35_code 84 = .ok (.istore 8, 2) by decide +kernel) (z_le rfl) rfl ?_
        refine Ev_iload hq_161 (show decode prog_7_method_35_code 86 = .ok (.iload 6, 2) by decide +kernel) rfl ?_
        refine Ev_iconst (v := 3) hq_161 (show decode prog_7_method_35_code 88 = .ok (.iconst 3, 1) by decide +kernel) (by decide) ?_
        refine Ev_icmp_ne (tgt := 112) hq_161 (show decode prog_7_method_35_code 89 = .ok (.if_icmp .ne 23, 3) by decide +kernel) (by decide) (fun c45 => ?_) (fun c45 => ?_)
        · have k := k.1 c45
          refine Ev_iload hq_161 (show decode prog_7_method_35_code 112 = .ok (.iload 8, 2) by decide +kernel) rfl ?_
          refine Ev_istore (lo2 := [.ref 57, .int x1, .int x2, .int y2, .int y30, .int r33, .int y35, .int y37, .int y30]) hq_161 (show decode prog_7_method_35_code 114 = .ok (.istore 8, 2) by decide +kernel) (z_le rfl) rfl ?_
          refine Ev_iload hq_161 (show decode prog_7_method_35_code 116 = .ok (.iload 8, 2) by decide +kernel) rfl ?_
          refine Ev_iconst (v := 0) hq_161 (show decode prog_7_method_35_code 118 = .ok (.iconst 0, 1) by decide +kernel) (by decide) ?_
          refine Ev_sipush (v := 999) hq_161 (show decode prog_7_method_35_code 119 = .ok (.sipush 999, 3) by decide +kernel) (by decide) ?_
          refine Ev_stat (as := [.int y30, .int 0, .int 999]) hq_161 (show decode prog_7_method_35_code 122 = .ok (.invokestatic 173, 3) by decide +kernel) rfl (Or.inl rfl) hq_152 rfl (z_le rfl) (c_Z_within y30 0 999) ?_
          exact Ev_iret hq_161 (show decode prog_7_method_35_code 125 = .ok (.ireturn, 1) by decide +kernel) rfl k
        · have k := k.2 (Classical.not_not.mp c45)
          refine Ev_iload_n hq_161 (show decode prog_7_method_35_code 92 = .ok (.iload_n 2, 1) by decide +kernel) rfl ?_
          refine Ev_iload hq_161 (show decode prog_7_method_35_code 93 = .ok (.iload 7, 2) by decide +kernel) rfl ?_
          refine Ev_iconst (v := 2) hq_161 (show decode prog_7_method_35_code 95 = .ok (.iconst 2, 1) by decide +kernel) (by decide) ?_
          refine Ev_iadd hq_161 (show decode prog_7_method_35_code 96 = .ok (.iadd, 1) by decide +kernel) ?_
          obtain ⟨h46, k⟩ := k
          refine Ev_irem hq_161 (show decode prog_7_method_35_code 97 = .ok (.irem, 1) by decide +kernel) h46 ?_
          refine Ev_iload hq_161 (show decode prog_7_method_35_code 98 = .ok (.iload 7, 2) by decide +kernel) rfl ?_
          refine Ev_iconst (v := 1) hq_161 (show decode prog_7_method_35_code 100 = .ok (.iconst 1, 1) by decide +kernel) (by decide) ?_
          refine Ev_iadd hq_161 (show decode prog_7_method_35_code 101 = .ok (.iadd, 1) by decide +kernel) ?_
          refine Ev_icmp_ne (tgt := 112) hq_161 (show decode prog_7_method_35_code 102 = .ok (.if_icmp .ne 10, 3) by decide +kernel) (by decide) (fun c47 => ?_) (fun c47 => ?_)
          · have k := k.1 c47
            refine Ev_iload hq_161 (show decode prog_7_method_35_code 112 = .ok (.iload 8, 2) by decide +kernel) rfl ?_
            refine Ev_istore (lo2 := [.ref 57, .int x1, .int x2, .int y2, .int y30, .int r33, .int y35, .int y37, .int y30]) hq_161 (show decode prog_7_method_35_code 114 = .ok (.istore 8, 2) by decide +kernel) (z_le rfl) rfl ?_
            refine Ev_iload hq_161 (show decode prog_7_method_35_code 116 = .ok (.iload 8, 2) by decide +kernel) rfl ?_
            refine Ev_iconst (v := 0) hq_161 (show decode prog_7_method_35_code 118 = .ok (.iconst 0, 1) by decide +kernel) (by decide) ?_
            refine Ev_sipush (v := 999) hq_161 (show decode prog_7_method_35_code 119 = .ok (.sipush 999, 3) by decide +kernel) (by decide) ?_
            refine Ev_stat (as := [.int y30, .int 0, .int 999]) hq_161 (show decode prog_7_method_35_code 122 = .ok (.invokestatic 173, 3) by decide +kernel) rfl (Or.inl rfl) hq_152 rfl (z_le rfl) (c_Z_within y30 0 999) ?_
            exact Ev_iret hq_161 (show decode prog_7_method_35_code 125 = .ok (.ireturn, 1) by decide +kernel) rfl k
          · have k := k.2 (Classical.not_not.mp c47)
            refine Ev_iload hq_161 (show decode prog_7_method_35_code 105 = .ok (.iload 8, 2) by decide +kernel) rfl ?_
            refine Ev_iconst (v := 2) hq_161 (show decode prog_7_method_35_code 107 = .ok (.iconst 2, 1) by decide +kernel) (by decide) ?_
            refine Ev_idiv hq_161 (show decode prog_7_method_35_code 108 = .ok (.idiv, 1) by decide +kernel) (by decide) ?_
            refine Ev_goto (tgt := 114) hq_161 (show decode prog_7_method_35_code 109 = .ok (.goto 5, 3) by decide +kernel) (by decide) ?_
            obtain ⟨y48, ey48⟩ : ∃ y48 : Int32, y48 = (y30 / 2) := ⟨_, rfl⟩
            have k := k y48 ey48
            rw [← ey48]
            refine Ev_istore (lo2 := [.ref 57, .int x1, .int x2, .int y2, .int y30, .int r33, .int y35, .int y37, .int y48]) hq_161 (show decode prog_7_method_35_code 114 = .ok (.istore 8, 2) by decide +kernel) (z_le rfl) rfl ?_
            refine Ev_iload hq_161 (show decode prog_7_method_35_code 116 = .ok (.iload 8, 2) by decide +kernel) rfl ?_
            refine Ev_iconst (v := 0) hq_161 (show decode prog_7_method_35_code 118 = .ok (.iconst 0, 1) by decide +kernel) (by decide) ?_
            refine Ev_sipush (v := 999) hq_161 (show decode prog_7_method_35_code 119 = .ok (.sipush 999, 3) by decide +kernel) (by decide) ?_
            refine Ev_stat (as := [.int y48, .int 0, .int 999]) hq_161 (show decode prog_7_method_35_code 122 = .ok (.invokestatic 173, 3) by decide +kernel) rfl (Or.inl rfl) hq_152 rfl (z_le rfl) (c_Z_within y48 0 999) ?_
            exact Ev_iret hq_161 (show decode prog_7_method_35_code 125 = .ok (.ireturn, 1) by decide +kernel) rfl k
      · have k := k.2 (Classical.not_not.mp c44)
        refine Ev_iload hq_161 (show decode prog_7_method_35_code 67 = .ok (.iload 4, 2) by decide +kernel) rfl ?_
        refine Ev_iconst (v := 2) hq_161 (show decode prog_7_method_35_code 69 = .ok (.iconst 2, 1) by decide +kernel) (by decide) ?_
        refine Ev_iload hq_161 (show decode prog_7_method_35_code 70 = .ok (.iload 7, 2) by decide +kernel) rfl ?_
        refine Ev_imul hq_161 (show decode prog_7_method_35_code 72 = .ok (.imul, 1) by decide +kernel) ?_
        refine Ev_iconst (v := 1) hq_161 (show decode prog_7_method_35_code 73 = .ok (.iconst 1, 1) by decide +kernel) (by decide) ?_
        refine Ev_iadd hq_161 (show decode prog_7_method_35_code 74 = .ok (.iadd, 1) by decide +kernel) ?_
        refine Ev_iload hq_161 (show decode prog_7_method_35_code 75 = .ok (.iload 5, 2) by decide +kernel) rfl ?_
        refine Ev_imul hq_161 (show decode prog_7_method_35_code 77 = .ok (.imul, 1) by decide +kernel) ?_
        refine Ev_isub hq_161 (show decode prog_7_method_35_code 78 = .ok (.isub, 1) by decide +kernel) ?_
        refine Ev_goto (tgt := 84) hq_161 (show decode prog_7_method_35_code 79 = .ok (.goto 5, 3) by decide +kernel) (by decide) ?_
        obtain ⟨y49, ey49⟩ : ∃ y49 : Int32, y49 = (y30 - (((2 * y37) + 1) * r33)) := ⟨_, rfl⟩
        have k := k y49 ey49
        rw [← ey49]
        refine Ev_istore (lo2 := [.ref 57, .int x1, .int x2, .int y2, .int y30, .int r33, .int y35, .int y37, .int y49]) hq_161 (show decode prog_7_method_35_code 84 = .ok (.istore 8, 2) by decide +kernel) (z_le rfl) rfl ?_
        refine Ev_iload hq_161 (show decode prog_7_method_35_code 86 = .ok (.iload 6, 2) by decide +kernel) rfl ?_
        refine Ev_iconst (v := 3) hq_161 (show decode prog_7_method_35_code 88 = .ok (.iconst 3, 1) by decide +kernel) (by decide) ?_
        refine Ev_icmp_ne (tgt := 112) hq_161 (show decode prog_7_method_35_code 89 = .ok (.if_icmp .ne 23, 3) by decide +kernel) (by decide) (fun c50 => ?_) (fun c50 => ?_)
        · have k := k.1 c50
          refine Ev_iload hq_161 (show decode prog_7_method_35_code 112 = .ok (.iload 8, 2) by decide +kernel) rfl ?_
          refine Ev_istore (lo2 := [.ref 57, .int x1, .int x2, .int y2, .int y30, .int r33, .int y35, .int y37, .int y49]) hq_161 (show decode prog_7_method_35_code 114 = .ok (.istore 8, 2) by decide +kernel) (z_le rfl) rfl ?_
          refine Ev_iload hq_161 (show decode prog_7_method_35_code 116 = .ok (.iload 8, 2) by decide +kernel) rfl ?_
          refine Ev_iconst (v := 0) hq_161 (show decode prog_7_method_35_code 118 = .ok (.iconst 0, 1) by decide +kernel) (by decide) ?_
          refine Ev_sipush (v := 999) hq_161 (show decode prog_7_method_35_code 119 = .ok (.sipush 999, 3) by decide +kernel) (by decide) ?_
          refine Ev_stat (as := [.int y49, .int 0, .int 999]) hq_161 (show decode prog_7_method_35_code 122 = .ok (.invokestatic 173, 3) by decide +kernel) rfl (Or.inl rfl) hq_152 rfl (z_le rfl) (c_Z_within y49 0 999) ?_
          exact Ev_iret hq_161 (show decode prog_7_method_35_code 125 = .ok (.ireturn, 1) by decide +kernel) rfl k
        · have k := k.2 (Classical.not_not.mp c50)
          refine Ev_iload_n hq_161 (show decode prog_7_method_35_code 92 = .ok (.iload_n 2, 1) by decide +kernel) rfl ?_
          refine Ev_iload hq_161 (show decode prog_7_method_35_code 93 = .ok (.iload 7, 2) by decide +kernel) rfl ?_
          refine Ev_iconst (v := 2) hq_161 (show decode prog_7_method_35_code 95 = .ok (.iconst 2, 1) by decide +kernel) (by decide) ?_
          refine Ev_iadd hq_161 (show decode prog_7_method_35_code 96 = .ok (.iadd, 1) by decide +kernel) ?_
          obtain ⟨h51, k⟩ := k
          refine Ev_irem hq_161 (show decode prog_7_method_35_code 97 = .ok (.irem, 1) by decide +kernel) h51 ?_
          refine Ev_iload hq_161 (show decode prog_7_method_35_code 98 = .ok (.iload 7, 2) by decide +kernel) rfl ?_
          refine Ev_iconst (v := 1) hq_161 (show decode prog_7_method_35_code 100 = .ok (.iconst 1, 1) by decide +kernel) (by decide) ?_
          refine Ev_iadd hq_161 (show decode prog_7_method_35_code 101 = .ok (.iadd, 1) by decide +kernel) ?_
          refine Ev_icmp_ne (tgt := 112) hq_161 (show decode prog_7_method_35_code 102 = .ok (.if_icmp .ne 10, 3) by decide +kernel) (by decide) (fun c52 => ?_) (fun c52 => ?_)
          · have k := k.1 c52
            refine Ev_iload hq_161 (show decode prog_7_method_35_code 112 = .ok (.iload 8, 2) by decide +kernel) rfl ?_
            refine Ev_istore (lo2 := [.ref 57, .int x1, .int x2, .int y2, .int y30, .int r33, .int y35, .int y37, .int y49]) hq_161 (show decode prog_7_method_35_code 114 = .ok (.istore 8, 2) by decide +kernel) (z_le rfl) rfl ?_
            refine Ev_iload hq_161 (show decode prog_7_method_35_code 116 = .ok (.iload 8, 2) by decide +kernel) rfl ?_
            refine Ev_iconst (v := 0) hq_161 (show decode prog_7_method_35_code 118 = .ok (.iconst 0, 1) by decide +kernel) (by decide) ?_
            refine Ev_sipush (v := 999) hq_161 (show decode prog_7_method_35_code 119 = .ok (.sipush 999, 3) by decide +kernel) (by decide) ?_
            refine Ev_stat (as := [.int y49, .int 0, .int 999]) hq_161 (show decode prog_7_method_35_code 122 = .ok (.invokestatic 173, 3) by decide +kernel) rfl (Or.inl rfl) hq_152 rfl (z_le rfl) (c_Z_within y49 0 999) ?_
            exact Ev_iret hq_161 (show decode prog_7_method_35_code 125 = .ok (.ireturn, 1) by decide +kernel) rfl k
          · have k := k.2 (Classical.not_not.mp c52)
            refine Ev_iload hq_161 (show decode prog_7_method_35_code 105 = .ok (.iload 8, 2) by decide +kernel) rfl ?_
            refine Ev_iconst (v := 2) hq_161 (show decode prog_7_method_35_code 107 = .ok (.iconst 2, 1) by decide +kernel) (by decide) ?_
            refine Ev_idiv hq_161 (show decode prog_7_method_35_code 108 = .ok (.idiv, 1) by decide +kernel) (by decide) ?_
            refine Ev_goto (tgt := 114) hq_161 (show decode prog_7_method_35_code 109 = .ok (.goto 5, 3) by decide +kernel) (by decide) ?_
            obtain ⟨y53, ey53⟩ : ∃ y53 : Int32, y53 = (y49 / 2) := ⟨_, rfl⟩
            have k := k y53 ey53
            rw [← ey53]
            refine Ev_istore (lo2 := [.ref 57, .int x1, .int x2, .int y2, .int y30, .int r33, .int y35, .int y37, .int y53]) hq_161 (show decode prog_7_method_35_code 114 = .ok (.istore 8, 2) by decide +kernel) (z_le rfl) rfl ?_
            refine Ev_iload hq_161 (show decode prog_7_method_35_code 116 = .ok (.iload 8, 2) by decide +kernel) rfl ?_
            refine Ev_iconst (v := 0) hq_161 (show decode prog_7_method_35_code 118 = .ok (.iconst 0, 1) by decide +kernel) (by decide) ?_
            refine Ev_sipush (v := 999) hq_161 (show decode prog_7_method_35_code 119 = .ok (.sipush 999, 3) by decide +kernel) (by decide) ?_
            refine Ev_stat (as := [.int y53, .int 0, .int 999]) hq_161 (show decode prog_7_method_35_code 122 = .ok (.invokestatic 173, 3) by decide +kernel) rfl (Or.inl rfl) hq_152 rfl (z_le rfl) (c_Z_within y53 0 999) ?_
            exact Ev_iret hq_161 (show decode prog_7_method_35_code 125 = .ok (.ireturn, 1) by decide +kernel) rfl k
set_option maxRecDepth 20000 in
theorem wp_Z_far {X : Nat × (Nat → Int32)} {d : Nat} {G : zG} {I : zI} {res : Option Value × zG × zI} (x0 : Int32) 
    (k : (0 ≤ x0 → res = (some (.int x0), G, I)) ∧ (¬ 0 ≤ x0 → res = (some (.int (-x0)), G, I))) :
    Ev X d 164 0 [.int x0] [] G I res := by
  refine Ev_iload_n hq_164 (show decode prog_7_method_5_code 0 = .ok (.iload_n 0, 1) by decide +kernel) rfl ?_
  refine Ev_if_ge (tgt := 9) hq_164 (show decode prog_7_method_5_code 1 = .ok (.ifCond .ge 8, 3) by decide +kernel) (by decide) (fun c1 => ?_) (fun c1 => ?_)
  · have k := k.1 c1
    refine Ev_iload_n hq_164 (show decode prog_7_method_5_code 9 = .ok (.iload_n 0, 1) by decide +kernel) rfl ?_
    exact Ev_iret hq_164 (show decode prog_7_method_5_code 10 = .ok (.ireturn, 1) by decide +kernel) rfl k
  · have k := k.2 c1
    refine Ev_iload_n hq_164 (show decode prog_7_method_5_code 4 = .ok (.iload_n 0, 1) by decide +kernel) rfl ?_
    refine Ev_ineg hq_164 (show decode prog_7_method_5_code 5 = .ok (.ineg, 1) by decide +kernel) ?_
    refine Ev_goto (tgt := 10) hq_164 (show decode prog_7_method_5_code 6 = .ok (.goto 4, 3) by decide +kernel) (by decide) ?_
    exact Ev_iret hq_164 (show decode prog_7_method_5_code 10 = .ok (.ireturn, 1) by decide +kernel) rfl k
def f_Z_far (x0 : Int32) : Int32 := (if 0 ≤ x0 then x0 else (-x0))
theorem c_Z_far {X : Nat × (Nat → Int32)} {d : Nat} {G : zG} {I : zI} (x0 : Int32) : Cv X d 164 [.int x0] G I (some (.int (f_Z_far x0)), G, I) := by
  exact Cv.of hq_164 (z_le rfl) rfl (wp_Z_far x0 ⟨fun h0 => (by simp only [f_Z_far]; rw [if_pos h0]), fun h0 => (by simp only [f_Z_far]; rw [if_neg h0])⟩)
set_option maxRecDepth 20000 in
theorem wp_Z_turnedBy {X : Nat × (Nat → Int32)} {d : Nat} {G : zG} {I : zI} {res : Option Value × zG × zI} (x1 : Int32) (x2 : Int32) (hS : SG G) 
    (k : z_inr ((5 * x1) + 3) 20 ∧ (∀ y2 : Int32, y2 = ((x2 * (I 60 ((5 * x1) + 3).toNatClampNeg)) / 8) → z_inr x1 4 ∧ (∀ y4 : Int32, y4 = (I 58 x1.toNatClampNeg) → z_inr x1 4 ∧ (∀ y6 : Int32, y6 = ((I 59 x1.toNatClampNeg) + 1) → (x1 = (I 57 34) → res = (some (.int 0), G, I)) ∧ (¬ x1 = (I 57 34) → (y4 = 5 → res = (some (.int 0), G, I)) ∧ (¬ y4 = 5 → (¬ y4 = 4 → (y4 = 2 → (¬ y6 = 0) ∧ (res = (some (.int ((y2 / y6) * y6)), G, I))) ∧ (¬ y4 = 2 → (¬ y4 = 4 → res = (some (.int y2), G, I)) ∧ (y4 = 4 → (¬ y6 = 0) ∧ (res = (some (.int ((y2 / y6) * y6)), G, I))))) ∧ (y4 = 4 → z_inr x1 4 ∧ (((3 * (I 59 x1.toNatClampNeg)) ≤ (f_Z_far y2) → (y4 = 2 → (¬ y6 = 0) ∧ (res = (some (.int ((y2 / y6) * y6)), G, I))) ∧ (¬ y4 = 2 → (¬ y4 = 4 → res = (some (.int y2), G, I)) ∧ (y4 = 4 → (¬ y6 = 0) ∧ (res = (some (.int ((y2 / y6) * y6)), G, I))))) ∧ (¬ (3 * (I 59 x1.toNatClampNeg)) ≤ (f_Z_far y2) → res = (some (.int 0), G, I)))))))))) :
    Ev X (d + 1) 163 0 [.ref 57, .int x1, .int x2, zU, zU, zU] [] G I res := by
  refine Ev_iload_n hq_163 (show decode prog_7_method_36_code 0 = .ok (.iload_n 2, 1) by decide +kernel) rfl ?_
  refine Ev_aload_n hq_163 (show decode prog_7_method_36_code 1 = .ok (.aload_n 0, 1) by decide +kernel) rfl ?_
  refine Ev_getR hq_163 (show decode prog_7_method_36_code 2 = .ok (.getfield 16, 3) by decide +kernel) rfl (SGn hS (by decide)) (SGk hS rfl) (by decide) rfl (SGr hS rfl) ?_
  refine Ev_iconst (v := 5) hq_163 (show decode prog_7_method_36_code 5 = .ok (.iconst 5, 1) by decide +kernel) (by decide) ?_
  refine Ev_iload_n hq_163 (show decode prog_7_method_36_code 6 = .ok (.iload_n 1, 1) by decide +kernel) rfl ?_
  refine Ev_imul hq_163 (show decode prog_7_method_36_code 7 = .ok (.imul, 1) by decide +kernel) ?_
  refine Ev_iconst (v := 3) hq_163 (show decode prog_7_method_36_code 8 = .ok (.iconst 3, 1) by decide +kernel) (by decide) ?_
  refine Ev_iadd hq_163 (show decode prog_7_method_36_code 9 = .ok (.iadd, 1) by decide +kernel) ?_
  obtain ⟨h1, k⟩ := k
  refine Ev_iald hq_163 (show decode prog_7_method_36_code 10 = .ok (.iaload, 1) by decide +kernel) (SGn hS (by decide)) (SGk hS rfl) (SGi hS rfl h1) ?_
  refine Ev_imul hq_163 (show decode prog_7_method_36_code 11 = .ok (.imul, 1) by decide +kernel) ?_
  refine Ev_bipush (v := 8) hq_163 (show decode prog_7_method_36_code 12 = .ok (.bipush 8, 2) by decide +kernel) (by decide) ?_
  refine Ev_idiv hq_163 (show decode prog_7_method_36_code 14 = .ok (.idiv, 1) by decide +kernel) (by decide) ?_
  obtain ⟨y2, ey2⟩ : ∃ y2 : Int32, y2 = ((x2 * (I 60 ((5 * x1) + 3).toNatClampNeg)) / 8) := ⟨_, rfl⟩
  have k := k y2 ey2
  rw [← ey2]
  refine Ev_istore_n (lo2 := [.ref 57, .int x1, .int x2, .int y2, zU, zU]) hq_163 (show decode prog_7_method_36_code 15 = .ok (.istore_n 3, 1) by decide +kernel) (z_le rfl) rfl ?_
  refine Ev_aload_n hq_163 (show decode prog_7_method_36_code 16 = .ok (.aload_n 0, 1) by decide +kernel) rfl ?_
  refine Ev_getR hq_163 (show decode prog_7_method_36_code 17 = .ok (.getfield 7, 3) by decide +kernel) rfl (SGn hS (by decide)) (SGk hS rfl) (by decide) rfl (SGr hS rfl) ?_
  refine Ev_iload_n hq_163 (show decode prog_7_method_36_code 20 = .ok (.iload_n 1, 1) by decide +kernel) rfl ?_
  obtain ⟨h3, k⟩ := k
  refine Ev_iald hq_163 (show decode prog_7_method_36_code 21 = .ok (.iaload, 1) by decide +kernel) (SGn hS (by decide)) (SGk hS rfl) (SGi hS rfl h3) ?_
  obtain ⟨y4, ey4⟩ : ∃ y4 : Int32, y4 = (I 58 x1.toNatClampNeg) := ⟨_, rfl⟩
  have k := k y4 ey4
  rw [← ey4]
  refine Ev_istore (lo2 := [.ref 57, .int x1, .int x2, .int y2, .int y4, zU]) hq_163 (show decode prog_7_method_36_code 22 = .ok (.istore 4, 2) by decide +kernel) (z_le rfl) rfl ?_
  refine Ev_aload_n hq_163 (show decode prog_7_method_36_code 24 = .ok (.aload_n 0, 1) by decide +kernel) rfl ?_
  refine Ev_getR hq_163 (show decode prog_7_method_36_code 25 = .ok (.getfield 13, 3) by decide +kernel) rfl (SGn hS (by decide)) (SGk hS rfl) (by decide) rfl (SGr hS rfl) ?_
  refine Ev_iload_n hq_163 (show decode prog_7_method_36_code 28 = .ok (.iload_n 1, 1) by decide +kernel) rfl ?_
  obtain ⟨h5, k⟩ := k
  refine Ev_iald hq_163 (show decode prog_7_method_36_code 29 = .ok (.iaload, 1) by decide +kernel) (SGn hS (by decide)) (SGk hS rfl) (SGi hS rfl h5) ?_
  refine Ev_iconst (v := 1) hq_163 (show decode prog_7_method_36_code 30 = .ok (.iconst 1, 1) by decide +kernel) (by decide) ?_
  refine Ev_iadd hq_163 (show decode prog_7_method_36_code 31 = .ok (.iadd, 1) by decide +kernel) ?_
  obtain ⟨y6, ey6⟩ : ∃ y6 : Int32, y6 = ((I 59 x1.toNatClampNeg) + 1) := ⟨_, rfl⟩
  have k := k y6 ey6
  rw [← ey6]
  refine Ev_istore (lo2 := [.ref 57, .int x1, .int x2, .int y2, .int y4, .int y6]) hq_163 (show decode prog_7_method_36_code 32 = .ok (.istore 5, 2) by decide +kernel) (z_le rfl) rfl ?_
  refine Ev_iload_n hq_163 (show decode prog_7_method_36_code 34 = .ok (.iload_n 1, 1) by decide +kernel) rfl ?_
  refine Ev_aload_n hq_163 (show decode prog_7_method_36_code 35 = .ok (.aload_n 0, 1) by decide +kernel) rfl ?_
  refine Ev_getI hq_163 (show decode prog_7_method_36_code 36 = .ok (.getfield 70, 3) by decide +kernel) rfl (SGn hS (by decide)) (SGk hS rfl) (by decide) rfl ?_
  refine Ev_icmp_eq (tgt := 69) hq_163 (show decode prog_7_method_36_code 39 = .ok (.if_icmp .eq 30, 3) by decide +kernel) (by decide) (fun c7 => ?_) (fun c7 => ?_)
  · have k := k.1 c7
    refine Ev_iconst (v := 0) hq_163 (show decode prog_7_method_36_code 69 = .ok (.iconst 0, 1) by decide +kernel) (by decide) ?_
    exact Ev_iret hq_163 (show decode prog_7_method_36_code 70 = .ok (.ireturn, 1) by decide +kernel) rfl k
  · have k := k.2 c7
    refine Ev_iload hq_163 (show decode prog_7_method_36_code 42 = .ok (.iload 4, 2) by decide +kernel) rfl ?_
    refine Ev_iconst (v := 5) hq_163 (show decode prog_7_method_36_code 44 = .ok (.iconst 5, 1) by decide +kernel) (by decide) ?_
    refine Ev_icmp_eq (tgt := 69) hq_163 (show decode prog_7_method_36_code 45 = .ok (.if_icmp .eq 24, 3) by decide +kernel) (by decide) (fun c8 => ?_) (fun c8 => ?_)
    · have k := k.1 c8
      refine Ev_iconst (v := 0) hq_163 (show decode prog_7_method_36_code 69 = .ok (.iconst 0, 1) by decide +kernel) (by decide) ?_
      exact Ev_iret hq_163 (show decode prog_7_method_36_code 70 = .ok (.ireturn, 1) by decide +kernel) rfl k
    · have k := k.2 c8
      refine Ev_iload hq_163 (show decode prog_7_method_36_code 48 = .ok (.iload 4, 2) by decide +kernel) rfl ?_
      refine Ev_iconst (v := 4) hq_163 (show decode prog_7_method_36_code 50 = .ok (.iconst 4, 1) by decide +kernel) (by decide) ?_
      refine Ev_icmp_ne (tgt := 71) hq_163 (show decode prog_7_method_36_code 51 = .ok (.if_icmp .ne 20, 3) by decide +kernel) (by decide) (fun c9 => ?_) (fun c9 => ?_)
      · have k := k.1 c9
        refine Ev_iload hq_163 (show decode prog_7_method_36_code 71 = .ok (.iload 4, 2) by decide +kernel) rfl ?_
        refine Ev_iconst (v := 2) hq_163 (show decode prog_7_method_36_code 73 = .ok (.iconst 2, 1) by decide +kernel) (by decide) ?_
        refine Ev_icmp_eq (tgt := 83) hq_163 (show decode prog_7_method_36_code 74 = .ok (.if_icmp .eq 9, 3) by decide +kernel) (by decide) (fun c10 => ?_) (fun c10 => ?_)
        · have k := k.1 c10
          refine Ev_iload_n hq_163 (show decode prog_7_method_36_code 83 = .ok (.iload_n 3, 1) by decide +kernel) rfl ?_
          refine Ev_iload hq_163 (show decode prog_7_method_36_code 84 = .ok (.iload 5, 2) by decide +kernel) rfl ?_
          obtain ⟨h11, k⟩ := k
          refine Ev_idiv hq_163 (show decode prog_7_method_36_code 86 = .ok (.idiv, 1) by decide +kernel) h11 ?_
          refine Ev_iload hq_163 (show decode prog_7_method_36_code 87 = .ok (.iload 5, 2) by decide +kernel) rfl ?_
          refine Ev_imul hq_163 (show decode prog_7_method_36_code 89 = .ok (.imul, 1) by decide +kernel) ?_
          refine Ev_goto (tgt := 94) hq_163 (show decode prog_7_method_36_code 90 = .ok (.goto 4, 3) by decide +kernel) (by decide) ?_
          exact Ev_iret hq_163 (show decode prog_7_method_36_code 94 = .ok (.ireturn, 1) by decide +kernel) rfl k
        · have k := k.2 c10
          refine Ev_iload hq_163 (show decode prog_7_method_36_code 77 = .ok (.iload 4, 2) by decide +kernel) rfl ?_
          refine Ev_iconst (v := 4) hq_163 (show decode prog_7_method_36_code 79 = .ok (.iconst 4, 1) by decide +kernel) (by decide) ?_
          refine Ev_icmp_ne (tgt := 93) hq_163 (show decode prog_7_method_36_code 80 = .ok (.if_icmp .ne 13, 3) by decide +kernel) (by decide) (fun c12 => ?_) (fun c12 => ?_)
          · have k := k.1 c12
            refine Ev_iload_n hq_163 (show decode prog_7_method_36_code 93 = .ok (.iload_n 3, 1) by decide +kernel) rfl ?_
            exact Ev_iret hq_163 (show decode prog_7_method_36_code 94 = .ok (.ireturn, 1) by decide +kernel) rfl k
          · have k := k.2 (Classical.not_not.mp c12)
            refine Ev_iload_n hq_163 (show decode prog_7_method_36_code 83 = .ok (.iload_n 3, 1) by decide +kernel) rfl ?_
            refine Ev_iload hq_163 (show decode prog_7_method_36_code 84 = .ok (.iload 5, 2) by decide +kernel) rfl ?_
            obtain ⟨h13, k⟩ := k
            refine Ev_idiv hq_163 (show decode prog_7_method_36_code 86 = .ok (.idiv, 1) by decide +kernel) h13 ?_
            refine Ev_iload hq_163 (show decode prog_7_method_36_code 87 = .ok (.iload 5, 2) by decide +kernel) rfl ?_
            refine Ev_imul hq_163 (show decode prog_7_method_36_code 89 = .ok (.imul, 1) by decide +kernel) ?_
            refine Ev_goto (tgt := 94) hq_163 (show decode prog_7_method_36_code 90 = .ok (.goto 4, 3) by decide +kernel) (by decide) ?_
            exact Ev_iret hq_163 (show decode prog_7_method_36_code 94 = .ok (.ireturn, 1) by decide +kernel) rfl k
      · have k := k.2 (Classical.not_not.mp c9)
        refine Ev_iload_n hq_163 (show decode prog_7_method_36_code 54 = .ok (.iload_n 3, 1) by decide +kernel) rfl ?_
        refine Ev_stat (as := [.int y2]) hq_163 (show decode prog_7_method_36_code 55 = .ok (.invokestatic 193, 3) by decide +kernel) rfl (Or.inl rfl) hq_164 rfl (z_le rfl) (c_Z_far y2) ?_
        refine Ev_iconst (v := 3) hq_163 (show decode prog_7_method_36_code 58 = .ok (.iconst 3, 1) by decide +kernel) (by decide) ?_
        refine Ev_aload_n hq_163 (show decode prog_7_method_36_code 59 = .ok (.aload_n 0, 1) by decide +kernel) rfl ?_
        refine Ev_getR hq_163 (show decode prog_7_method_36_code 60 = .ok (.getfield 13, 3) by decide +kernel) rfl (SGn hS (by decide)) (SGk hS rfl) (by decide) rfl (SGr hS rfl) ?_
        refine Ev_iload_n hq_163 (show decode prog_7_method_36_code 63 = .ok (.iload_n 1, 1) by decide +kernel) rfl ?_
        obtain ⟨h14, k⟩ := k
        refine Ev_iald hq_163 (show decode prog_7_method_36_code 64 = .ok (.iaload, 1) by decide +kernel) (SGn hS (by decide)) (SGk hS rfl) (SGi hS rfl h14) ?_
        refine Ev_imul hq_163 (show decode prog_7_method_36_code 65 = .ok (.imul, 1) by decide +kernel) ?_
        refine Ev_icmp_ge (tgt := 71) hq_163 (show decode prog_7_method_36_code 66 = .ok (.if_icmp .ge 5, 3) by decide +kernel) (by decide) (fun c15 => ?_) (fun c15 => ?_)
        · have k := k.1 c15
          refine Ev_iload hq_163 (show decode prog_7_method_36_code 71 = .ok (.iload 4, 2) by decide +kernel) rfl ?_
          refine Ev_iconst (v := 2) hq_163 (show decode prog_7_method_36_code 73 = .ok (.iconst 2, 1) by decide +kernel) (by decide) ?_
          refine Ev_icmp_eq (tgt := 83) hq_163 (show decode prog_7_method_36_code 74 = .ok (.if_icmp .eq 9, 3) by decide +kernel) (by decide) (fun c16 => ?_) (fun c16 => ?_)
          · have k := k.1 c16
            refine Ev_iload_n hq_163 (show decode prog_7_method_36_code 83 = .ok (.iload_n 3, 1) by decide +kernel) rfl ?_
            refine Ev_iload hq_163 (show decode prog_7_method_36_code 84 = .ok (.iload 5, 2) by decide +kernel) rfl ?_
            obtain ⟨h17, k⟩ := k
            refine Ev_idiv hq_163 (show decode prog_7_method_36_code 86 = .ok (.idiv, 1) by decide +kernel) h17 ?_
            refine Ev_iload hq_163 (show decode prog_7_method_36_code 87 = .ok (.iload 5, 2) by decide +kernel) rfl ?_
            refine Ev_imul hq_163 (show decode prog_7_method_36_code 89 = .ok (.imul, 1) by decide +kernel) ?_
            refine Ev_goto (tgt := 94) hq_163 (show decode prog_7_method_36_code 90 = .ok (.goto 4, 3) by decide +kernel) (by decide) ?_
            exact Ev_iret hq_163 (show decode prog_7_method_36_code 94 = .ok (.ireturn, 1) by decide +kernel) rfl k
          · have k := k.2 c16
            refine Ev_iload hq_163 (show decode prog_7_method_36_code 77 = .ok (.iload 4, 2) by decide +kernel) rfl ?_
            refine Ev_iconst (v := 4) hq_163 (show decode prog_7_method_36_code 79 = .ok (.iconst 4, 1) by decide +kernel) (by decide) ?_
            refine Ev_icmp_ne (tgt := 93) hq_163 (show decode prog_7_method_36_code 80 = .ok (.if_icmp .ne 13, 3) by decide +kernel) (by decide) (fun c18 => ?_) (fun c18 => ?_)
            · have k := k.1 c18
              refine Ev_iload_n hq_163 (show decode prog_7_method_36_code 93 = .ok (.iload_n 3, 1) by decide +kernel) rfl ?_
              exact Ev_iret hq_163 (show decode prog_7_method_36_code 94 = .ok (.ireturn, 1) by decide +kernel) rfl k
            · have k := k.2 (Classical.not_not.mp c18)
              refine Ev_iload_n hq_163 (show decode prog_7_method_36_code 83 = .ok (.iload_n 3, 1) by decide +kernel) rfl ?_
              refine Ev_iload hq_163 (show decode prog_7_method_36_code 84 = .ok (.iload 5, 2) by decide +kernel) rfl ?_
              obtain ⟨h19, k⟩ := k
              refine Ev_idiv hq_163 (show decode prog_7_method_36_code 86 = .ok (.idiv, 1) by decide +kernel) h19 ?_
              refine Ev_iload hq_163 (show decode prog_7_method_36_code 87 = .ok (.iload 5, 2) by decide +kernel) rfl ?_
              refine Ev_imul hq_163 (show decode prog_7_method_36_code 89 = .ok (.imul, 1) by decide +kernel) ?_
              refine Ev_goto (tgt := 94) hq_163 (show decode prog_7_method_36_code 90 = .ok (.goto 4, 3) by decide +kernel) (by decide) ?_
              exact Ev_iret hq_163 (show decode prog_7_method_36_code 94 = .ok (.ireturn, 1) by decide +kernel) rfl k
        · have k := k.2 c15
          refine Ev_iconst (v := 0) hq_163 (show decode prog_7_method_36_code 69 = .ok (.iconst 0, 1) by decide +kernel) (by decide) ?_
          exact Ev_iret hq_163 (show decode prog_7_method_36_code 70 = .ok (.ireturn, 1) by decide +kernel) rfl k
