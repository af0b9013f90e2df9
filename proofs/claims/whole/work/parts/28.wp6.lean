set_option maxRecDepth 20000 in
theorem wp_Z_puts {X : Nat × (Nat → Int32)} {d : Nat} {G : zG} {I : zI} {res : Option Value × zG × zI} (x1 : Int32) (hS : SG G) 
    (k : z_inr ((200 * (I 57 8)) + (I 57 26)) 1200 ∧ (∀ I2 : zI, I2 = z_up I 62 ((200 * (I 57 8)) + (I 57 26)).toNatClampNeg x1 → (∀ I3 : zI, I3 = z_up I2 57 26 ((I2 57 26) + 1) → res = (none, G, I3)))) :
    Ev X d 134 0 [.ref 57, .int x1] [] G I res := by
  refine Ev_aload_n hq_134 (show decode prog_7_method_16_code 0 = .ok (.aload_n 0, 1) by decide +kernel) rfl ?_
  refine Ev_getR hq_134 (show decode prog_7_method_16_code 1 = .ok (.getfield 22, 3) by decide +kernel) rfl (SGn hS (by decide)) (SGk hS rfl) (by decide) rfl (SGr hS rfl) ?_
  refine Ev_sipush (v := 200) hq_134 (show decode prog_7_method_16_code 4 = .ok (.sipush 200, 3) by decide +kernel) (by decide) ?_
  refine Ev_aload_n hq_134 (show decode prog_7_method_16_code 7 = .ok (.aload_n 0, 1) by decide +kernel) rfl ?_
  refine Ev_getI hq_134 (show decode prog_7_method_16_code 8 = .ok (.getfield 101, 3) by decide +kernel) rfl (SGn hS (by decide)) (SGk hS rfl) (by decide) rfl ?_
  refine Ev_imul hq_134 (show decode prog_7_method_16_code 11 = .ok (.imul, 1) by decide +kernel) ?_
  refine Ev_aload_n hq_134 (show decode prog_7_method_16_code 12 = .ok (.aload_n 0, 1) by decide +kernel) rfl ?_
  refine Ev_getI hq_134 (show decode prog_7_method_16_code 13 = .ok (.getfield 126, 3) by decide +kernel) rfl (SGn hS (by decide)) (SGk hS rfl) (by decide) rfl ?_
  refine Ev_iadd hq_134 (show decode prog_7_method_16_code 16 = .ok (.iadd, 1) by decide +kernel) ?_
  refine Ev_iload_n hq_134 (show decode prog_7_method_16_code 17 = .ok (.iload_n 1, 1) by decide +kernel) rfl ?_
  obtain ⟨h1, k⟩ := k
  refine Ev_iast hq_134 (show decode prog_7_method_16_code 18 = .ok (.iastore, 1) by decide +kernel) (SGn hS (by decide)) (SGk hS rfl) (SGi hS rfl h1) ?_
  obtain ⟨I2, eI2⟩ : ∃ I2 : zI, I2 = z_up I 62 ((200 * (I 57 8)) + (I 57 26)).toNatClampNeg x1 := ⟨_, rfl⟩
  have k := k I2 eI2
  rw [← eI2]
  refine Ev_aload_n hq_134 (show decode prog_7_method_16_code 19 = .ok (.aload_n 0, 1) by decide +kernel) rfl ?_
  refine Ev_dup hq_134 (show decode prog_7_method_16_code 20 = .ok (.dup, 1) by decide +kernel) rfl ?_
  refine Ev_getI hq_134 (show decode prog_7_method_16_code 21 = .ok (.getfield 126, 3) by decide +kernel) rfl (SGn hS (by decide)) (SGk hS rfl) (by decide) rfl ?_
  refine Ev_iconst (v := 1) hq_134 (show decode prog_7_method_16_code 24 = .ok (.iconst 1, 1) by decide +kernel) (by decide) ?_
  refine Ev_iadd hq_134 (show decode prog_7_method_16_code 25 = .ok (.iadd, 1) by decide +kernel) ?_
  refine Ev_putI hq_134 (show decode prog_7_method_16_code 26 = .ok (.putfield 126, 3) by decide +kernel) rfl (SGn hS (by decide)) (SGk hS rfl) (by decide) (by decide) rfl (fun hz => by cases hz) ?_
  obtain ⟨I3, eI3⟩ : ∃ I3 : zI, I3 = z_up I2 57 26 ((I2 57 26) + 1) := ⟨_, rfl⟩
  have k := k I3 eI3
  rw [← eI3]
  exact Ev_vret hq_134 (show decode prog_7_method_16_code 29 = .ok (.return_, 1) by decide +kernel) k
set_option maxRecDepth 20000 in
theorem wp_Z_rank {X : Nat × (Nat → Int32)} {d : Nat} {G : zG} {I : zI} {res : Option Value × zG × zI} (x0 : Int32) 
    (k : (¬ x0 = 0 → (¬ x0 = 11 → (¬ x0 = 12 → (¬ x0 = 13 → (15 < x0 → (17 < x0 → (¬ x0 = 18 → res = (some (.int 7), G, I)) ∧ (x0 = 18 → res = (some (.int 6), G, I))) ∧ (¬ 17 < x0 → res = (some (.int 5), G, I))) ∧ (¬ 15 < x0 → res = (some (.int 4), G, I))) ∧ (x0 = 13 → res = (some (.int 3), G, I))) ∧ (x0 = 12 → res = (some (.int 2), G, I))) ∧ (x0 = 11 → res = (some (.int 1), G, I))) ∧ (x0 = 0 → res = (some (.int 0), G, I))) :
    Ev X d 136 0 [.int x0] [] G I res := by
  refine Ev_iload_n hq_136 (show decode prog_7_method_15_code 0 = .ok (.iload_n 0, 1) by decide +kernel) rfl ?_
  refine Ev_if_ne (tgt := 8) hq_136 (show decode prog_7_method_15_code 1 = .ok (.ifCond .ne 7, 3) by decide +kernel) (by decide) (fun c1 => ?_) (fun c1 => ?_)
  · have k := k.1 c1
    refine Ev_iload_n hq_136 (show decode prog_7_method_15_code 8 = .ok (.iload_n 0, 1) by decide +kernel) rfl ?_
    refine Ev_bipush (v := 11) hq_136 (show decode prog_7_method_15_code 9 = .ok (.bipush 11, 2) by decide +kernel) (by decide) ?_
    refine Ev_icmp_ne (tgt := 18) hq_136 (show decode prog_7_method_15_code 11 = .ok (.if_icmp .ne 7, 3) by decide +kernel) (by decide) (fun c2 => ?_) (fun c2 => ?_)
    · have k := k.1 c2
      refine Ev_iload_n hq_136 (show decode prog_7_method_15_code 18 = .ok (.iload_n 0, 1) by decide +kernel) rfl ?_
      refine Ev_bipush (v := 12) hq_136 (show decode prog_7_method_15_code 19 = .ok (.bipush 12, 2) by decide +kernel) (by decide) ?_
      refine Ev_icmp_ne (tgt := 28) hq_136 (show decode prog_7_method_15_code 21 = .ok (.if_icmp .ne 7, 3) by decide +kernel) (by decide) (fun c3 => ?_) (fun c3 => ?_)
      · have k := k.1 c3
        refine Ev_iload_n hq_136 (show decode prog_7_method_15_code 28 = .ok (.iload_n 0, 1) by decide +kernel) rfl ?_
        refine Ev_bipush (v := 13) hq_136 (show decode prog_7_method_15_code 29 = .ok (.bipush 13, 2) by decide +kernel) (by decide) ?_
        refine Ev_icmp_ne (tgt := 38) hq_136 (show decode prog_7_method_15_code 31 = .ok (.if_icmp .ne 7, 3) by decide +kernel) (by decide) (fun c4 => ?_) (fun c4 => ?_)
        · have k := k.1 c4
          refine Ev_iload_n hq_136 (show decode prog_7_method_15_code 38 = .ok (.iload_n 0, 1) by decide +kernel) rfl ?_
          refine Ev_bipush (v := 15) hq_136 (show decode prog_7_method_15_code 39 = .ok (.bipush 15, 2) by decide +kernel) (by decide) ?_
          refine Ev_icmp_gt (tgt := 48) hq_136 (show decode prog_7_method_15_code 41 = .ok (.if_icmp .gt 7, 3) by decide +kernel) (by decide) (fun c5 => ?_) (fun c5 => ?_)
          · have k := k.1 c5
            refine Ev_iload_n hq_136 (show decode prog_7_method_15_code 48 = .ok (.iload_n 0, 1) by decide +kernel) rfl ?_
            refine Ev_bipush (v := 17) hq_136 (show decode prog_7_method_15_code 49 = .ok (.bipush 17, 2) by decide +kernel) (by decide) ?_
            refine Ev_icmp_gt (tgt := 58) hq_136 (show decode prog_7_method_15_code 51 = .ok (.if_icmp .gt 7, 3) by decide +kernel) (by decide) (fun c6 => ?_) (fun c6 => ?_)
            · have k := k.1 c6
              refine Ev_iload_n hq_136 (show decode prog_7_method_15_code 58 = .ok (.iload_n 0, 1) by decide +kernel) rfl ?_
              refine Ev_bipush (v := 18) hq_136 (show decode prog_7_method_15_code 59 = .ok (.bipush 18, 2) by decide +kernel) (by decide) ?_
              refine Ev_icmp_ne (tgt := 69) hq_136 (show decode prog_7_method_15_code 61 = .ok (.if_icmp .ne 8, 3) by decide +kernel) (by decide) (fun c7 => ?_) (fun c7 => ?_)
              · have k := k.1 c7
                refine Ev_bipush (v := 7) hq_136 (show decode prog_7_method_15_code 69 = .ok (.bipush 7, 2) by decide +kernel) (by decide) ?_
                exact Ev_iret hq_136 (show decode prog_7_method_15_code 71 = .ok (.ireturn, 1) by decide +kernel) rfl k
              · have k := k.2 (Classical.not_not.mp c7)
                refine Ev_bipush (v := 6) hq_136 (show decode prog_7_method_15_code 64 = .ok (.bipush 6, 2) by decide +kernel) (by decide) ?_
                refine Ev_goto (tgt := 71) hq_136 (show decode prog_7_method_15_code 66 = .ok (.goto 5, 3) by decide +kernel) (by decide) ?_
                exact Ev_iret hq_136 (show decode prog_7_method_15_code 71 = .ok (.ireturn, 1) by decide +kernel) rfl k
            · have k := k.2 c6
              refine Ev_iconst (v := 5) hq_136 (show decode prog_7_method_15_code 54 = .ok (.iconst 5, 1) by decide +kernel) (by decide) ?_
              refine Ev_goto (tgt := 71) hq_136 (show decode prog_7_method_15_code 55 = .ok (.goto 16, 3) by decide +kernel) (by decide) ?_
              exact Ev_iret hq_136 (show decode prog_7_method_15_code 71 = .ok (.ireturn, 1) by decide +kernel) rfl k
          · have k := k.2 c5
            refine Ev_iconst (v := 4) hq_136 (show decode prog_7_method_15_code 44 = .ok (.iconst 4, 1) by decide +kernel) (by decide) ?_
            refine Ev_goto (tgt := 71) hq_136 (show decode prog_7_method_15_code 45 = .ok (.goto 26, 3) by decide +kernel) (by decide) ?_
            exact Ev_iret hq_136 (show decode prog_7_method_15_code 71 = .ok (.ireturn, 1) by decide +kernel) rfl k
        · have k := k.2 (Classical.not_not.mp c4)
          refine Ev_iconst (v := 3) hq_136 (show decode prog_7_method_15_code 34 = .ok (.iconst 3, 1) by decide +kernel) (by decide) ?_
          refine Ev_goto (tgt := 71) hq_136 (show decode prog_7_method_15_code 35 = .ok (.goto 36, 3) by decide +kernel) (by decide) ?_
          exact Ev_iret hq_136 (show decode prog_7_method_15_code 71 = .ok (.ireturn, 1) by decide +kernel) rfl k
      · have k := k.2 (Classical.not_not.mp c3)
        refine Ev_iconst (v := 2) hq_136 (show decode prog_7_method_15_code 24 = .ok (.iconst 2, 1) by decide +kernel) (by decide) ?_
        refine Ev_goto (tgt := 71) hq_136 (show decode prog_7_method_15_code 25 = .ok (.goto 46, 3) by decide +kernel) (by decide) ?_
        exact Ev_iret hq_136 (show decode prog_7_method_15_code 71 = .ok (.ireturn, 1) by decide +kernel) rfl k
    · have k := k.2 (Classical.not_not.mp c2)
      refine Ev_iconst (v := 1) hq_136 (show decode prog_7_method_15_code 14 = .ok (.iconst 1, 1) by decide +kernel) (by decide) ?_
      refine Ev_goto (tgt := 71) hq_136 (show decode prog_7_method_15_code 15 = .ok (.goto 56, 3) by decide +kernel) (by decide) ?_
      exact Ev_iret hq_136 (show decode prog_7_method_15_code 71 = .ok (.ireturn, 1) by decide +kernel) rfl k
  · have k := k.2 (Classical.not_not.mp c1)
    refine Ev_iconst (v := 0) hq_136 (show decode prog_7_method_15_code 4 = .ok (.iconst 0, 1) by decide +kernel) (by decide) ?_
    refine Ev_goto (tgt := 71) hq_136 (show decode prog_7_method_15_code 5 = .ok (.goto 66, 3) by decide +kernel) (by decide) ?_
    exact Ev_iret hq_136 (show decode prog_7_method_15_code 71 = .ok (.ireturn, 1) by decide +kernel) rfl k
def f_Z_rank (x0 : Int32) : Int32 := (if x0 = 0 then 0 else (if x0 = 11 then 1 else (if x0 = 12 then 2 else (if x0 = 13 then 3 else (if 15 < x0 then (if 17 < x0 then (if x0 = 18 then 6 else 7) else 5) else 4)))))
theorem c_Z_rank {X : Nat × (Nat → Int32)} {d : Nat} {G : zG} {I : zI} (x0 : Int32) : Cv X d 136 [.int x0] G I (some (.int (f_Z_rank x0)), G, I) := by
  exact Cv.of hq_136 (z_le rfl) rfl (wp_Z_rank x0 ⟨fun h0 => ⟨fun h1 => ⟨fun h2 => ⟨fun h3 => ⟨fun h4 => ⟨fun h5 => ⟨fun h6 => (by simp only [f_Z_rank]; rw [if_neg h0]; rw [if_neg h1]; rw [if_neg h2]; rw [if_neg h3]; rw [if_pos h4]; rw [if_pos h5]; rw [if_neg h6]), fun h6 => (by simp only [f_Z_rank]; rw [if_neg h0]; rw [if_neg h1]; rw [if_neg h2]; rw [if_neg h3]; rw [if_pos h4]; rw [if_pos h5]; rw [if_pos h6])⟩, fun h5 => (by simp only [f_Z_rank]; rw [if_neg h0]; rw [if_neg h1]; rw [if_neg h2]; rw [if_neg h3]; rw [if_pos h4]; rw [if_neg h5])⟩, fun h4 => (by simp only [f_Z_rank]; rw [if_neg h0]; rw [if_neg h1]; rw [if_neg h2]; rw [if_neg h3]; rw [if_neg h4])⟩, fun h3 => (by simp only [f_Z_rank]; rw [if_neg h0]; rw [if_neg h1]; rw [if_neg h2]; rw [if_pos h3])⟩, fun h2 => (by simp only [f_Z_rank]; rw [if_neg h0]; rw [if_neg h1]; rw [if_pos h2])⟩, fun h1 => (by simp only [f_Z_rank]; rw [if_neg h0]; rw [if_pos h1])⟩, fun h0 => (by simp only [f_Z_rank]; rw [if_pos h0])⟩)
set_option maxRecDepth 20000 in
theorem wp_Z_unwinds {X : Nat × (Nat → Int32)} {d : Nat} {G : zG} {I : zI} {res : Option Value × zG × zI} (x1 : Int32) (hS : SG G) 
    (k : ((I 57 24) ≤ 0 → res = (none, G, I)) ∧ (¬ (I 57 24) ≤ 0 → z_inr ((I 57 24) - 1) 200 ∧ (((f_Z_rank (I 70 ((I 57 24) - 1).toNatClampNeg)) < x1 → res = (none, G, I)) ∧ (¬ (f_Z_rank (I 70 ((I 57 24) - 1).toNatClampNeg)) < x1 → (∀ I4 : zI, I4 = z_up I 57 24 ((I 57 24) - 1) → z_inr (I4 57 24) 200 ∧ (∀ y6 : Int32, y6 = (I4 70 (I4 57 24).toNatClampNeg) → (y6 = 13 → (∀ I8 : zI, I8 = z_up I4 57 25 ((I4 57 25) - 1) → ∃ (I9 : zI), Cv X d 134 [.ref 57, .int y6] G I8 (none, G, I9) ∧ (Ev X (d + 1) 135 0 [.ref 57, .int x1, .int y6] [] G I9 res))) ∧ (¬ y6 = 13 → (¬ y6 = 19 → (∀ I12 : zI, I12 = z_up I4 57 25 ((I4 57 25) - 0) → ∃ (I13 : zI), Cv X d 134 [.ref 57, .int y6] G I12 (none, G, I13) ∧ (Ev X (d + 1) 135 0 [.ref 57, .int x1, .int y6] [] G I13 res))) ∧ (y6 = 19 → (∀ I15 : zI, I15 = z_up I4 57 25 ((I4 57 25) - 1) → ∃ (I16 : zI), Cv X d 134 [.ref 57, .int y6] G I15 (none, G, I16) ∧ (Ev X (d + 1) 135 0 [.ref 57, .int x1, .int y6] [] G I16 res)))))))))) :
    Ev X (d + 1) 135 0 [.ref 57, .int x1, zU] [] G I res := by
  refine Ev_aload_n hq_135 (show decode prog_7_method_17_code 0 = .ok (.aload_n 0, 1) by decide +kernel) rfl ?_
  refine Ev_getI hq_135 (show decode prog_7_method_17_code 1 = .ok (.getfield 129, 3) by decide +kernel) rfl (SGn hS (by decide)) (SGk hS rfl) (by decide) rfl ?_
  refine Ev_if_le (tgt := 79) hq_135 (show decode prog_7_method_17_code 4 = .ok (.ifCond .le 75, 3) by decide +kernel) (by decide) (fun c1 => ?_) (fun c1 => ?_)
  · have k := k.1 c1
    exact Ev_vret hq_135 (show decode prog_7_method_17_code 79 = .ok (.return_, 1) by decide +kernel) k
  · have k := k.2 c1
    refine Ev_aload_n hq_135 (show decode prog_7_method_17_code 7 = .ok (.aload_n 0, 1) by decide +kernel) rfl ?_
    refine Ev_getR hq_135 (show decode prog_7_method_17_code 8 = .ok (.getfield 46, 3) by decide +kernel) rfl (SGn hS (by decide)) (SGk hS rfl) (by decide) rfl (SGr hS rfl) ?_
    refine Ev_aload_n hq_135 (show decode prog_7_method_17_code 11 = .ok (.aload_n 0, 1) by decide +kernel) rfl ?_
    refine Ev_getI hq_135 (show decode prog_7_method_17_code 12 = .ok (.getfield 129, 3) by decide +kernel) rfl (SGn hS (by decide)) (SGk hS rfl) (by decide) rfl ?_
    refine Ev_iconst (v := 1) hq_135 (show decode prog_7_method_17_code 15 = .ok (.iconst 1, 1) by decide +kernel) (by decide) ?_
    refine Ev_isub hq_135 (show decode prog_7_method_17_code 16 = .ok (.isub, 1) by decide +kernel) ?_
    obtain ⟨h2, k⟩ := k
    refine Ev_iald hq_135 (show decode prog_7_method_17_code 17 = .ok (.iaload, 1) by decide +kernel) (SGn hS (by decide)) (SGk hS rfl) (SGi hS rfl h2) ?_
    refine Ev_stat (as := [.int (I 70 ((I 57 24) - 1).toNatClampNeg)]) hq_135 (show decode prog_7_method_17_code 18 = .ok (.invokestatic 132, 3) by decide +kernel) rfl (Or.inl rfl) hq_136 rfl (z_le rfl) (c_Z_rank (I 70 ((I 57 24) - 1).toNatClampNeg)) ?_
    refine Ev_iload_n hq_135 (show decode prog_7_method_17_code 21 = .ok (.iload_n 1, 1) by decide +kernel) rfl ?_
    refine Ev_icmp_lt (tgt := 79) hq_135 (show decode prog_7_method_17_code 22 = .ok (.if_icmp .lt 57, 3) by decide +kernel) (by decide) (fun c3 => ?_) (fun c3 => ?_)
    · have k := k.1 c3
      exact Ev_vret hq_135 (show decode prog_7_method_17_code 79 = .ok (.return_, 1) by decide +kernel) k
    · have k := k.2 c3
      refine Ev_aload_n hq_135 (show decode prog_7_method_17_code 25 = .ok (.aload_n 0, 1) by decide +kernel) rfl ?_
      refine Ev_dup hq_135 (show decode prog_7_method_17_code 26 = .ok (.dup, 1) by decide +kernel) rfl ?_
      refine Ev_getI hq_135 (show decode prog_7_method_17_code 27 = .ok (.getfield 129, 3) by decide +kernel) rfl (SGn hS (by decide)) (SGk hS rfl) (by decide) rfl ?_
      refine Ev_iconst (v := 1) hq_135 (show decode prog_7_method_17_code 30 = .ok (.iconst 1, 1) by decide +kernel) (by decide) ?_
      refine Ev_isub hq_135 (show decode prog_7_method_17_code 31 = .ok (.isub, 1) by decide +kernel) ?_
      refine Ev_putI hq_135 (show decode prog_7_method_17_code 32 = .ok (.putfield 129, 3) by decide +kernel) rfl (SGn hS (by decide)) (SGk hS rfl) (by decide) (by decide) rfl (fun hz => by cases hz) ?_
      obtain ⟨I4, eI4⟩ : ∃ I4 : zI, I4 = z_up I 57 24 ((I 57 24) - 1) := ⟨_, rfl⟩
      have k := k I4 eI4
      rw [← eI4]
      refine Ev_aload_n hq_135 (show decode prog_7_method_17_code 35 = .ok (.aload_n 0, 1) by decide +kernel) rfl ?_
      refine Ev_getR hq_135 (show decode prog_7_method_17_code 36 = .ok (.getfield 46, 3) by decide +kernel) rfl (SGn hS (by decide)) (SGk hS rfl) (by decide) rfl (SGr hS rfl) ?_
      refine Ev_aload_n hq_135 (show decode prog_7_method_17_code 39 = .ok (.aload_n 0, 1) by decide +kernel) rfl ?_
      refine Ev_getI hq_135 (show decode prog_7_method_17_code 40 = .ok (.getfield 129, 3) by decide +kernel) rfl (SGn hS (by decide)) (SGk hS rfl) (by decide) rfl ?_
      obtain ⟨h5, k⟩ := k
      refine Ev_iald hq_135 (show decode prog_7_method_17_code 43 = .ok (.iaload, 1) by decide +kernel) (SGn hS (by decide)) (SGk hS rfl) (SGi hS rfl h5) ?_
      obtain ⟨y6, ey6⟩ : ∃ y6 : Int32, y6 = (I4 70 (I4 57 24).toNatClampNeg) := ⟨_, rfl⟩
      have k := k y6 ey6
      rw [← ey6]
      refine Ev_istore_n (lo2 := [.ref 57, .int x1, .int y6]) hq_135 (show decode prog_7_method_17_code 44 = .ok (.istore_n 2, 1) by decide +kernel) (z_le rfl) rfl ?_
      refine Ev_aload_n hq_135 (show decode prog_7_method_17_code 45 = .ok (.aload_n 0, 1) by decide +kernel) rfl ?_
      refine Ev_dup hq_135 (show decode prog_7_method_17_code 46 = .ok (.dup, 1) by decide +kernel) rfl ?_
      refine Ev_getI hq_135 (show decode prog_7_method_17_code 47 = .ok (.getfield 136, 3) by decide +kernel) rfl (SGn hS (by decide)) (SGk hS rfl) (by decide) rfl ?_
      refine Ev_iload_n hq_135 (show decode prog_7_method_17_code 50 = .ok (.iload_n 2, 1) by decide +kernel) rfl ?_
      refine Ev_bipush (v := 13) hq_135 (show decode prog_7_method_17_code 51 = .ok (.bipush 13, 2) by decide +kernel) (by decide) ?_
      refine Ev_icmp_eq (tgt := 62) hq_135 (show decode prog_7_method_17_code 53 = .ok (.if_icmp .eq 9, 3) by decide +kernel) (by decide) (fun c7 => ?_) (fun c7 => ?_)
      · have k := k.1 c7
        refine Ev_iconst (v := 1) hq_135 (show decode prog_7_method_17_code 62 = .ok (.iconst 1, 1) by decide +kernel) (by decide) ?_
        refine Ev_goto (tgt := 67) hq_135 (show decode prog_7_method_17_code 63 = .ok (.goto 4, 3) by decide +kernel) (by decide) ?_
        refine Ev_isub hq_135 (show decode prog_7_method_17_code 67 = .ok (.isub, 1) by decide +kernel) ?_
        refine Ev_putI hq_135 (show decode prog_7_method_17_code 68 = .ok (.putfield 136, 3) by decide +kernel) rfl (SGn hS (by decide)) (SGk hS rfl) (by decide) (by decide) rfl (fun hz => by cases hz) ?_
        obtain ⟨I8, eI8⟩ : ∃ I8 : zI, I8 = z_up I4 57 25 ((I4 57 25) - 1) := ⟨_, rfl⟩
        have k := k I8 eI8
        rw [← eI8]
        refine Ev_aload_n hq_135 (show decode prog_7_method_17_code 71 = .ok (.aload_n 0, 1) by decide +kernel) rfl ?_
        refine Ev_iload_n hq_135 (show decode prog_7_method_17_code 72 = .ok (.iload_n 2, 1) by decide +kernel) rfl ?_
        obtain ⟨I9, h10, k⟩ := k
        refine Ev_virt (as := [.int y6]) hq_135 (show decode prog_7_method_17_code 73 = .ok (.invokevirtual 139, 3) by decide +kernel) rfl hq_134 rfl (z_le rfl) ⟨(SGn hS (by decide)), (SGk hS rfl), by decide⟩ h10 ?_
        refine Ev_goto (tgt := 0) hq_135 (show decode prog_7_method_17_code 76 = .ok (.goto (-76), 3) by decide +kernel) (by decide) ?_
        exact k
      · have k := k.2 c7
        refine Ev_iload_n hq_135 (show decode prog_7_method_17_code 56 = .ok (.iload_n 2, 1) by decide +kernel) rfl ?_
        refine Ev_bipush (v := 19) hq_135 (show decode prog_7_method_17_code 57 = .ok (.bipush 19, 2) by decide +kernel) (by decide) ?_
        refine Ev_icmp_ne (tgt := 66) hq_135 (show decode prog_7_method_17_code 59 = .ok (.if_icmp .ne 7, 3) by decide +kernel) (by decide) (fun c11 => ?_) (fun c11 => ?_)
        · have k := k.1 c11
          refine Ev_iconst (v := 0) hq_135 (show decode prog_7_method_17_code 66 = .ok (.iconst 0, 1) by decide +kernel) (by decide) ?_
          refine Ev_isub hq_135 (show decode prog_7_method_17_code 67 = .ok (.isub, 1) by decide +kernel) ?_
          refine Ev_putI hq_135 (show decode prog_7_method_17_code 68 = .ok (.putfield 136, 3) by decide +kernel) rfl (SGn hS (by decide)) (SGk hS rfl) (by decide) (by decide) rfl (fun hz => by cases hz) ?_
          obtain ⟨I12, eI12⟩ : ∃ I12 : zI, I12 = z_up I4 57 25 ((I4 57 25) - 0) := ⟨_, rfl⟩
          have k := k I12 eI12
          rw [← eI12]
          refine Ev_aload_n hq_135 (show decode prog_7_method_17_code 71 = .ok (.aload_n 0, 1) by decide +kernel) rfl ?_
          refine Ev_iload_n hq_135 (show decode prog_7_method_17_code 72 = .ok (.iload_n 2, 1) by decide +kernel) rfl ?_
          obtain ⟨I13, h14, k⟩ := k
          refine Ev_virt (as := [.int y6]) hq_135 (show decode prog_7_method_17_code 73 = .ok (.invokevirtual 139, 3) by decide +kernel) rfl hq_134 rfl (z_le rfl) ⟨(SGn hS (by decide)), (SGk hS rfl), by decide⟩ h14 ?_
          refine Ev_goto (tgt := 0) hq_135 (show decode prog_7_method_17_code 76 = .ok (.goto (-76), 3) by decide +kernel) (by decide) ?_
          exact k
        · have k := k.2 (Classical.not_not.mp c11)
          refine Ev_iconst (v := 1) hq_135 (show decode prog_7_method_17_code 62 = .ok (.iconst 1, 1) by decide +kernel) (by decide) ?_
          refine Ev_goto (tgt := 67) hq_135 (show decode prog_7_method_17_code 63 = .ok (.goto 4, 3) by decide +kernel) (by decide) ?_
          refine Ev_isub hq_135 (show decode prog_7_method_17_code 67 = .ok (.isub, 1) by decide +kernel) ?_
          refine Ev_putI hq_135 (show decode prog_7_method_17_code 68 = .ok (.putfield 136, 3) by decide +kernel) rfl (SGn hS (by decide)) (SGk hS rfl) (by decide) (by decide) rfl (fun hz => by cases hz) ?_
          obtain ⟨I15, eI15⟩ : ∃ I15 : zI, I15 = z_up I4 57 25 ((I4 57 25) - 1) := ⟨_, rfl⟩
          have k := k I15 eI15
          rw [← eI15]
          refine Ev_aload_n hq_135 (show decode prog_7_method_17_code 71 = .ok (.aload_n 0, 1) by decide +kernel) rfl ?_
          refine Ev_iload_n hq_135 (show decode prog_7_method_17_code 72 = .ok (.iload_n 2, 1) by decide +kernel) rfl ?_
          obtain ⟨I16, h17, k⟩ := k
          refine Ev_virt (as := [.int y6]) hq_135 (show decode prog_7_method_17_code 73 = .ok (.invokevirtual 139, 3) by decide +kernel) rfl hq_134 rfl (z_le rfl) ⟨(SGn hS (by decide)), (SGk hS rfl), by decide⟩ h17 ?_
          refine Ev_goto (tgt := 0) hq_135 (show decode prog_7_method_17_code 76 = .ok (.goto (-76), 3) by decide +kernel) (by decide) ?_
          exact k
set_option maxRecDepth 20000 in
theorem wp_Z_unwinds_0 {X : Nat × (Nat → Int32)} {d : Nat} {G : zG} {I : zI} {res : Option Value × zG × zI} (x1 : Int32) (x2 : Int32) (hS : SG G) 
    (k : ((I 57 24) ≤ 0 → res = (none, G, I)) ∧ (¬ (I 57 24) ≤ 0 → z_inr ((I 57 24) - 1) 200 ∧ (((f_Z_rank (I 70 ((I 57 24) - 1).toNatClampNeg)) < x1 → res = (none, G, I)) ∧ (¬ (f_Z_rank (I 70 ((I 57 24) - 1).toNatClampNeg)) < x1 → (∀ I4 : zI, I4 = z_up I 57 24 ((I 57 24) - 1) → z_inr (I4 57 24) 200 ∧ (∀ y6 : Int32, y6 = (I4 70 (I4 57 24).toNatClampNeg) → (y6 = 13 → (∀ I8 : zI, I8 = z_up I4 57 25 ((I4 57 25) - 1) → ∃ (I9 : zI), Cv X d 134 [.ref 57, .int y6] G I8 (none, G, I9) ∧ (Ev X (d + 1) 135 0 [.ref 57, .int x1, .int y6] [] G I9 res))) ∧ (¬ y6 = 13 → (¬ y6 = 19 → (∀ I12 : zI, I12 = z_up I4 57 25 ((I4 57 25) - 0) → ∃ (I13 : zI), Cv X d 134 [.ref 57, .int y6] G I12 (none, G, I13) ∧ (Ev X (d + 1) 135 0 [.ref 57, .int x1, .int y6] [] G I13 res))) ∧ (y6 = 19 → (∀ I15 : zI, I15 = z_up I4 57 25 ((I4 57 25) - 1) → ∃ (I16 : zI), Cv X d 134 [.ref 57, .int y6] G I15 (none, G, I16) ∧ (Ev X (d + 1) 135 0 [.ref 57, .int x1, .int y6] [] G I16 res)))))))))) :
    Ev X (d + 1) 135 0 [.ref 57, .int x1, .int x2] [] G I res := by
  refine Ev_aload_n hq_135 (show decode prog_7_method_17_code 0 = .ok (.aload_n 0, 1) by decide +kernel) rfl ?_
  refine Ev_getI hq_135 (show decode prog_7_method_17_code 1 = .ok (.getfield 129, 3) by decide +kernel) rfl (SGn hS (by decide)) (SGk hS rfl) (by decide) rfl ?_
  refine Ev_if_le (tgt := 79) hq_135 (show decode prog_7_method_17_code 4 = .ok (.ifCond .le 75, 3) by decide +kernel) (by decide) (fun c1 => ?_) (fun c1 => ?_)
  · have k := k.1 c1
    exact Ev_vret hq_135 (show decode prog_7_method_17_code 79 = .ok (.return_, 1) by decide +kernel) k
  · have k := k.2 c1
    refine Ev_aload_n hq_135 (show decode prog_7_method_17_code 7 = .ok (.aload_n 0, 1) by decide +kernel) rfl ?_
    refine Ev_getR hq_135 (show decode prog_7_method_17_code 8 = .ok (.getfield 46, 3) by decide +kernel) rfl (SGn hS (by decide)) (SGk hS rfl) (by decide) rfl (SGr hS rfl) ?_
    refine Ev_aload_n hq_135 (show decode prog_7_method_17_code 11 = .ok (.aload_n 0, 1) by decide +kernel) rfl ?_
    refine Ev_getI hq_135 (show decode prog_7_method_17_code 12 = .ok (.getfield 129, 3) by decide +kernel) rfl (SGn hS (by decide)) (SGk hS rfl) (by decide) rfl ?_
    refine Ev_iconst (v := 1) hq_135 (show decode prog_7_method_17_code 15 = .ok (.iconst 1, 1) by decide +kernel) (by decide) ?_
    refine Ev_isub hq_135 (show decode prog_7_method_17_code 16 = .ok (.isub, 1) by decide +kernel) ?_
    obtain ⟨h2, k⟩ := k
    refine Ev_iald hq_135 (show decode prog_7_method_17_code 17 = .ok (.iaload, 1) by decide +kernel) (SGn hS (by decide)) (SGk hS rfl) (SGi hS rfl h2) ?_
    refine Ev_stat (as := [.int (I 70 ((I 57 24) - 1).toNatClampNeg)]) hq_135 (show decode prog_7_method_17_code 18 = .ok (.invokestatic 132, 3) by decide +kernel) rfl (Or.inl rfl) hq_136 rfl (z_le rfl) (c_Z_rank (I 70 ((I 57 24) - 1).toNatClampNeg)) ?_
    refine Ev_iload_n hq_135 (show decode prog_7_method_17_code 21 = .ok (.iload_n 1, 1) by decide +kernel) rfl ?_
    refine Ev_icmp_lt (tgt := 79) hq_135 (show decode prog_7_method_17_code 22 = .ok (.if_icmp .lt 57, 3) by decide +kernel) (by decide) (fun c3 => ?_) (fun c3 => ?_)
    · have k := k.1 c3
      exact Ev_vret hq_135 (show decode prog_7_method_17_code 79 = .ok (.return_, 1) by decide +kernel) k
    · have k := k.2 c3
      refine Ev_aload_n hq_135 (show decode prog_7_method_17_code 25 = .ok (.aload_n 0, 1) by decide +kernel) rfl ?_
      refine Ev_dup hq_135 (show decode prog_7_method_17_code 26 = .ok (.dup, 1) by decide +kernel) rfl ?_
      refine Ev_getI hq_135 (show decode prog_7_method_17_code 27 = .ok (.getfield 129, 3) by decide +kernel) rfl (SGn hS (by decide)) (SGk hS rfl) (by decide) rfl ?_
      refine Ev_iconst (v := 1) hq_135 (show decode prog_7_method_17_code 30 = .ok (.iconst 1, 1) by decide +kernel) (by decide) ?_
      refine Ev_isub hq_135 (show decode prog_7_method_17_code 31 = .ok (.isub, 1) by decide +kernel) ?_
      refine Ev_putI hq_135 (show decode prog_7_method_17_code 32 = .ok (.putfield 129, 3) by decide +kernel) rfl (SGn hS (by decide)) (SGk hS rfl) (by decide) (by decide) rfl (fun hz => by cases hz) ?_
      obtain ⟨I4, eI4⟩ : ∃ I4 : zI, I4 = z_up I 57 24 ((I 57 24) - 1) := ⟨_, rfl⟩
      have k := k I4 eI4
      rw [← eI4]
      refine Ev_aload_n hq_135 (show decode prog_7_method_17_code 35 = .ok (.aload_n 0, 1) by decide +kernel) rfl ?_
      refine Ev_getR hq_135 (show decode prog_7_method_17_code 36 = .ok (.getfield 46, 3) by decide +kernel) rfl (SGn hS (by decide)) (SGk hS rfl) (by decide) rfl (SGr hS rfl) ?_
      refine Ev_aload_n hq_135 (show decode prog_7_method_17_code 39 = .ok (.aload_n 0, 1) by decide +kernel) rfl ?_
      refine Ev_getI hq_135 (show decode prog_7_method_17_code 40 = .ok (.getfield 129, 3) by decide +kernel) rfl (SGn hS (by decide)) (SGk hS rfl) (by decide) rfl ?_
      obtain ⟨h5, k⟩ := k
      refine Ev_iald hq_135 (show decode prog_7_method_17_code 43 = .ok (.iaload, 1) by decide +kernel) (SGn hS (by decide)) (SGk hS rfl) (SGi hS rfl h5) ?_
      obtain ⟨y6, ey6⟩ : ∃ y6 : Int32, y6 = (I4 70 (I4 57 24).toNatClampNeg) := ⟨_, rfl⟩
      have k := k y6 ey6
      rw [← ey6]
      refine Ev_istore_n (lo2 := [.ref 57, .int x1, .int y6]) hq_135 (show decode prog_7_method_17_code 44 = .ok (.istore_n 2, 1) by decide +kernel) (z_le rfl) rfl ?_
      refine Ev_aload_n hq_135 (show decode prog_7_method_17_code 45 = .ok (.aload_n 0, 1) by decide +kernel) rfl ?_
      refine Ev_dup hq_135 (show decode prog_7_method_17_code 46 = .ok (.dup, 1) by decide +kernel) rfl ?_
      refine Ev_getI hq_135 (show decode prog_7_method_17_code 47 = .ok (.getfield 136, 3) by decide +kernel) rfl (SGn hS (by decide)) (SGk hS rfl) (by decide) rfl ?_
      refine Ev_iload_n hq_135 (show decode prog_7_method_17_code 50 = .ok (.iload_n 2, 1) by decide +kernel) rfl ?_
      refine Ev_bipush (v := 13) hq_135 (show decode prog_7_method_17_code 51 = .ok (.bipush 13, 2) by decide +kernel) (by decide) ?_
      refine Ev_icmp_eq (tgt := 62) hq_135 (show decode prog_7_method_17_code 53 = .ok (.if_icmp .eq 9, 3) by decide +kernel) (by decide) (fun c7 => ?_) (fun c7 => ?_)
      · have k := k.1 c7
        refine Ev_iconst (v := 1) hq_135 (show decode prog_7_method_17_code 62 = .ok (.iconst 1, 1) by decide +kernel) (by decide) ?_
        refine Ev_goto (tgt := 67) hq_135 (show decode prog_7_method_17_code 63 = .ok (.goto 4, 3) by decide +kernel) (by decide) ?_
        refine Ev_isub hq_135 (show decode prog_7_method_17_code 67 = .ok (.isub, 1) by decide +kernel) ?_
        refine Ev_putI hq_135 (show decode prog_7_method_17_code 68 = .ok (.putfield 136, 3) by decide +kernel) rfl (SGn hS (by decide)) (SGk hS rfl) (by decide) (by decide) rfl (fun hz => by cases hz) ?_
        obtain ⟨I8, eI8⟩ : ∃ I8 : zI, I8 = z_up I4 57 25 ((I4 57 25) - 1) := ⟨_, rfl⟩
        have k := k I8 eI8
        rw [← eI8]
        refine Ev_aload_n hq_135 (show decode prog_7_method_17_code 71 = .ok (.aload_n 0, 1) by decide +kernel) rfl ?_
        refine Ev_iload_n hq_135 (show decode prog_7_method_17_code 72 = .ok (.iload_n 2, 1) by decide +kernel) rfl ?_
        obtain ⟨I9, h10, k⟩ := k
        refine Ev_virt (as := [.int y6]) hq_135 (show decode prog_7_method_17_code 73 = .ok (.invokevirtual 139, 3) by decide +kernel) rfl hq_134 rfl (z_le rfl) ⟨(SGn hS (by decide)), (SGk hS rfl), by decide⟩ h10 ?_
        refine Ev_goto (tgt := 0) hq_135 (show decode prog_7_method_17_code 76 = .ok (.goto (-76), 3) by decide +kernel) (by decide) ?_
        exact k
      · have k := k.2 c7
        refine Ev_iload_n hq_135 (show decode prog_7_method_17_code 56 = .ok (.iload_n 2, 1) by decide +kernel) rfl ?_
        refine Ev_bipush (v := 19) hq_135 (show decode prog_7_method_17_code 57 = .ok (.bipush 19, 2) by decide +kernel) (by decide) ?_
        refine Ev_icmp_ne (tgt := 66) hq_135 (show decode prog_7_method_17_code 59 = .ok (.if_icmp .ne 7, 3) by decide +kernel) (by decide) (fun c11 => ?_) (fun c11 => ?_)
        · have k := k.1 c11
          refine Ev_iconst (v := 0) hq_135 (show decode prog_7_method_17_code 66 = .ok (.iconst 0, 1) by decide +kernel) (by decide) ?_
          refine Ev_isub hq_135 (show decode prog_7_method_17_code 67 = .ok (.isub, 1) by decide +kernel) ?_
          refine Ev_putI hq_135 (show decode prog_7_method_17_code 68 = .ok (.putfield 136, 3) by decide +kernel) rfl (SGn hS (by decide)) (SGk hS rfl) (by decide) (by decide) rfl (fun hz => by cases hz) ?_
          obtain ⟨I12, eI12⟩ : ∃ I12 : zI, I12 = z_up I4 57 25 ((I4 57 25) - 0) := ⟨_, rfl⟩
          have k := k I12 eI12
          rw [← eI12]
          refine Ev_aload_n hq_135 (show decode prog_7_method_17_code 71 = .ok (.aload_n 0, 1) by decide +kernel) rfl ?_
          refine Ev_iload_n hq_135 (show decode prog_7_method_17_code 72 = .ok (.iload_n 2, 1) by decide +kernel) rfl ?_
          obtain ⟨I13, h14, k⟩ := k
          refine Ev_virt (as := [.int y6]) hq_135 (show decode prog_7_method_17_code 73 = .ok (.invokevirtual 139, 3) by decide +kernel) rfl hq_134 rfl (z_le rfl) ⟨(SGn hS (by decide)), (SGk hS rfl), by decide⟩ h14 ?_
          refine Ev_goto (tgt := 0) hq_135 (show decode prog_7_method_17_code 76 = .ok (.goto (-76), 3) by decide +kernel) (by decide) ?_
          exact k
        · have k := k.2 (Classical.not_not.mp c11)
          refine Ev_iconst (v := 1) hq_135 (show decode prog_7_method_17_code 62 = .ok (.iconst 1, 1) by decide +kernel) (by decide) ?_
          refine Ev_goto (tgt := 67) hq_135 (show decode prog_7_method_17_code 63 = .ok (.goto 4, 3) by decide +kernel) (by decide) ?_
          refine Ev_isub hq_135 (show decode prog_7_method_17_code 67 = .ok (.isub, 1) by decide +kernel) ?_
          refine Ev_putI hq_135 (show decode prog_7_method_17_code 68 = .ok (.putfield 136, 3) by decide +kernel) rfl (SGn hS (by decide)) (SGk hS rfl) (by decide) (by decide) rfl (fun hz => by cases hz) ?_
          obtain ⟨I15, eI15⟩ : ∃ I15 : zI, I15 = z_up I4 57 25 ((I4 57 25) - 1) := ⟨_, rfl⟩
          have k := k I15 eI15
          rw [← eI15]
          refine Ev_aload_n hq_135 (show decode prog_7_method_17_code 71 = .ok (.aload_n 0, 1) by decide +kernel) rfl ?_
          refine Ev_iload_n hq_135 (show decode prog_7_method_17_code 72 = .ok (.iload_n 2, 1) by decide +kernel) rfl ?_
          obtain ⟨I16, h17, k⟩ := k
          refine Ev_virt (as := [.int y6]) hq_135 (show decode prog_7_method_17_code 73 = .ok (.invokevirtual 139, 3) by decide +kernel) rfl hq_134 rfl (z_le rfl) ⟨(SGn hS (by decide)), (SGk hS rfl), by decide⟩ h17 ?_
          refine Ev_goto (tgt := 0) hq_135 (show decode prog_7_method_17_code 76 = .ok (.goto (-76), 3) by decide +kernel) (by decide) ?_
          exact k
set_option maxRecDepth 20000 in
theorem wp_Z_holds {X : Nat × (Nat → Int32)} {d : Nat} {G : zG} {I : zI} {res : Option Value × zG × zI} (x1 : Int32) (hS : SG G) 
    (k : z_inr (I 57 24) 200 ∧ (∀ I2 : zI, I2 = z_up I 70 (I 57 24).toNatClampNeg x1 → (∀ I3 : zI, I3 = z_up I2 57 24 ((I2 57 24) + 1) → res = (none, G, I3)))) :
    Ev X d 138 0 [.ref 57, .int x1] [] G I res := by
  refine Ev_aload_n hq_138 (show decode prog_7_method_18_code 0 = .ok (.aload_n 0, 1) by decide +kernel) rfl ?_
  refine Ev_getR hq_138 (show decode prog_7_method_18_code 1 = .ok (.getfield 46, 3) by decide +kernel) rfl (SGn hS (by decide)) (SGk hS rfl) (by decide) rfl (SGr hS rfl) ?_
  refine Ev_aload_n hq_138 (show decode prog_7_method_18_code 4 = .ok (.aload_n 0, 1) by decide +kernel) rfl ?_
  refine Ev_getI hq_138 (show decode prog_7_method_18_code 5 = .ok (.getfield 129, 3) by decide +kernel) rfl (SGn hS (by decide)) (SGk hS rfl) (by decide) rfl ?_
  refine Ev_iload_n hq_138 (show decode prog_7_method_18_code 8 = .ok (.iload_n 1, 1) by decide +kernel) rfl ?_
  obtain ⟨h1, k⟩ := k
  refine Ev_iast hq_138 (show decode prog_7_method_18_code 9 = .ok (.iastore, 1) by decide +kernel) (SGn hS (by decide)) (SGk hS rfl) (SGi hS rfl h1) ?_
  obtain ⟨I2, eI2⟩ : ∃ I2 : zI, I2 = z_up I 70 (I 57 24).toNatClampNeg x1 := ⟨_, rfl⟩
  have k := k I2 eI2
  rw [← eI2]
  refine Ev_aload_n hq_138 (show decode prog_7_method_18_code 10 = .ok (.aload_n 0, 1) by decide +kernel) rfl ?_
  refine Ev_dup hq_138 (show decode prog_7_method_18_code 11 = .ok (.dup, 1) by decide +kernel) rfl ?_
  refine Ev_getI hq_138 (show decode prog_7_method_18_code 12 = .ok (.getfield 129, 3) by decide +kernel) rfl (SGn hS (by decide)) (SGk hS rfl) (by decide) rfl ?_
  refine Ev_iconst (v := 1) hq_138 (show decode prog_7_method_18_code 15 = .ok (.iconst 1, 1) by decide +kernel) (by decide) ?_
  refine Ev_iadd hq_138 (show decode prog_7_method_18_code 16 = .ok (.iadd, 1) by decide +kernel) ?_
  refine Ev_putI hq_138 (show decode prog_7_method_18_code 17 = .ok (.putfield 129, 3) by decide +kernel) rfl (SGn hS (by decide)) (SGk hS rfl) (by decide) (by decide) rfl (fun hz => by cases hz) ?_
  obtain ⟨I3, eI3⟩ : ∃ I3 : zI, I3 = z_up I2 57 24 ((I2 57 24) + 1) := ⟨_, rfl⟩
  have k := k I3 eI3
  rw [← eI3]
  exact Ev_vret hq_138 (show decode prog_7_method_18_code 20 = .ok (.return_, 1) by decide +kernel) k
set_option maxRecDepth 20000 in
theorem wp_Z_opensOne {X : Nat × (Nat → Int32)} {d : Nat} {G : zG} {I : zI} {res : Option Value × zG × zI} (x1 : Int32) (hS : SG G) 
    (k : (¬ (I 57 25) = 5 → (∀ I2 : zI, I2 = z_up I 57 25 ((I 57 25) + 1) → ∃ (I3 : zI), Cv X d 138 [.ref 57, .int x1] G I2 (none, G, I3) ∧ (res = (some (.int 1), G, I3)))) ∧ ((I 57 25) = 5 → res = (some (.int 0), G, I))) :
    Ev X (d + 1) 137 0 [.ref 57, .int x1] [] G I res := by
  refine Ev_aload_n hq_137 (show decode prog_7_method_19_code 0 = .ok (.aload_n 0, 1) by decide +kernel) rfl ?_
  refine Ev_getI hq_137 (show decode prog_7_method_19_code 1 = .ok (.getfield 136, 3) by decide +kernel) rfl (SGn hS (by decide)) (SGk hS rfl) (by decide) rfl ?_
  refine Ev_iconst (v := 5) hq_137 (show decode prog_7_method_19_code 4 = .ok (.iconst 5, 1) by decide +kernel) (by decide) ?_
  refine Ev_icmp_ne (tgt := 10) hq_137 (show decode prog_7_method_19_code 5 = .ok (.if_icmp .ne 5, 3) by decide +kernel) (by decide) (fun c1 => ?_) (fun c1 => ?_)
  · have k := k.1 c1
    refine Ev_aload_n hq_137 (show decode prog_7_method_19_code 10 = .ok (.aload_n 0, 1) by decide +kernel) rfl ?_
    refine Ev_dup hq_137 (show decode prog_7_method_19_code 11 = .ok (.dup, 1) by decide +kernel) rfl ?_
    refine Ev_getI hq_137 (show decode prog_7_method_19_code 12 = .ok (.getfield 136, 3) by decide +kernel) rfl (SGn hS (by decide)) (SGk hS rfl) (by decide) rfl ?_
    refine Ev_iconst (v := 1) hq_137 (show decode prog_7_method_19_code 15 = .ok (.iconst 1, 1) by decide +kernel) (by decide) ?_
    refine Ev_iadd hq_137 (show decode prog_7_method_19_code 16 = .ok (.iadd, 1) by decide +kernel) ?_
    refine Ev_putI hq_137 (show decode prog_7_method_19_code 17 = .ok (.putfield 136, 3) by decide +kernel) rfl (SGn hS (by decide)) (SGk hS rfl) (by decide) (by decide) rfl (fun hz => by cases hz) ?_
    obtain ⟨I2, eI2⟩ : ∃ I2 : zI, I2 = z_up I 57 25 ((I 57 25) + 1) := ⟨_, rfl⟩
    have k := k I2 eI2
    rw [← eI2]
    refine Ev_aload_n hq_137 (show decode prog_7_method_19_code 20 = .ok (.aload_n 0, 1) by decide +kernel) rfl ?_
    refine Ev_iload_n hq_137 (show decode prog_7_method_19_code 21 = .ok (.iload_n 1, 1) by decide +kernel) rfl ?_
    obtain ⟨I3, h4, k⟩ := k
    refine Ev_virt (as := [.int x1]) hq_137 (show decode prog_7_method_19_code 22 = .ok (.invokevirtual 143, 3) by decide +kernel) rfl hq_138 rfl (z_le rfl) ⟨(SGn hS (by decide)), (SGk hS rfl), by decide⟩ h4 ?_
    refine Ev_iconst (v := 1) hq_137 (show decode prog_7_method_19_code 25 = .ok (.iconst 1, 1) by decide +kernel) (by decide) ?_
    exact Ev_iret hq_137 (show decode prog_7_method_19_code 26 = .ok (.ireturn, 1) by decide +kernel) rfl k
  · have k := k.2 (Classical.not_not.mp c1)
    refine Ev_iconst (v := 0) hq_137 (show decode prog_7_method_19_code 8 = .ok (.iconst 0, 1) by decide +kernel) (by decide) ?_
    exact Ev_iret hq_137 (show decode prog_7_method_19_code 9 = .ok (.ireturn, 1) by decide +kernel) rfl k
set_option maxRecDepth 20000 in
theorem wp_Z_signOf {X : Nat × (Nat → Int32)} {d : Nat} {G : zG} {I : zI} {res : Option Value × zG × zI}  (hS : SG G) 
    (k : (¬ (I 57 20) = 4 → (¬ (I 57 20) = 5 → (¬ (I 57 20) = 60 → (¬ (I 57 20) = 61 → (¬ (I 57 20) = 43 → (¬ (I 57 20) = 45 → (¬ (I 57 20) = 42 → res = (some (.int (-1)), G, I)) ∧ ((I 57 20) = 42 → res = (some (.int 18), G, I))) ∧ ((I 57 20) = 45 → res = (some (.int 17), G, I))) ∧ ((I 57 20) = 43 → res = (some (.int 16), G, I))) ∧ ((I 57 20) = 61 → res = (some (.int 15), G, I))) ∧ ((I 57 20) = 60 → res = (some (.int 14), G, I))) ∧ ((I 57 20) = 5 → res = (some (.int 12), G, I))) ∧ ((I 57 20) = 4 → res = (some (.int 11), G, I))) :
    Ev X d 139 0 [.ref 57] [] G I res := by
  refine Ev_aload_n hq_139 (show decode prog_7_method_21_code 0 = .ok (.aload_n 0, 1) by decide +kernel) rfl ?_
  refine Ev_getI hq_139 (show decode prog_7_method_21_code 1 = .ok (.getfield 116, 3) by decide +kernel) rfl (SGn hS (by decide)) (SGk hS rfl) (by decide) rfl ?_
  refine Ev_iconst (v := 4) hq_139 (show decode prog_7_method_21_code 4 = .ok (.iconst 4, 1) by decide +kernel) (by decide) ?_
  refine Ev_icmp_ne (tgt := 13) hq_139 (show decode prog_7_method_21_code 5 = .ok (.if_icmp .ne 8, 3) by decide +kernel) (by decide) (fun c1 => ?_) (fun c1 => ?_)
  · have k := k.1 c1
    refine Ev_aload_n hq_139 (show decode prog_7_method_21_code 13 = .ok (.aload_n 0, 1) by decide +kernel) rfl ?_
    refine Ev_getI hq_139 (show decode prog_7_method_21_code 14 = .ok (.getfield 116, 3) by decide +kernel) rfl (SGn hS (by decide)) (SGk hS rfl) (by decide) rfl ?_
    refine Ev_iconst (v := 5) hq_139 (show decode prog_7_method_21_code 17 = .ok (.iconst 5, 1) by decide +kernel) (by decide) ?_
    refine Ev_icmp_ne (tgt := 26) hq_139 (show decode prog_7_method_21_code 18 = .ok (.if_icmp .ne 8, 3) by decide +kernel) (by decide) (fun c2 => ?_) (fun c2 => ?_)
    · have k := k.1 c2
      refine Ev_aload_n hq_139 (show decode prog_7_method_21_code 26 = .ok (.aload_n 0, 1) by decide +kernel) rfl ?_
      refine Ev_getI hq_139 (show decode prog_7_method_21_code 27 = .ok (.getfield 116, 3) by decide +kernel) rfl (SGn hS (by decide)) (SGk hS rfl) (by decide) rfl ?_
      refine Ev_bipush (v := 60) hq_139 (show decode prog_7_method_21_code 30 = .ok (.bipush 60, 2) by decide +kernel) (by decide) ?_
      refine Ev_icmp_ne (tgt := 40) hq_139 (show decode prog_7_method_21_code 32 = .ok (.if_icmp .ne 8, 3) by decide +kernel) (by decide) (fun c3 => ?_) (fun c3 => ?_)
      · have k := k.1 c3
        refine Ev_aload_n hq_139 (show decode prog_7_method_21_code 40 = .ok (.aload_n 0, 1) by decide +kernel) rfl ?_
        refine Ev_getI hq_139 (show decode prog_7_method_21_code 41 = .ok (.getfield 116, 3) by decide +kernel) rfl (SGn hS (by decide)) (SGk hS rfl) (by decide) rfl ?_
        refine Ev_bipush (v := 61) hq_139 (show decode prog_7_method_21_code 44 = .ok (.bipush 61, 2) by decide +kernel) (by decide) ?_
        refine Ev_icmp_ne (tgt := 54) hq_139 (show decode prog_7_method_21_code 46 = .ok (.if_icmp .ne 8, 3) by decide +kernel) (by decide) (fun c4 => ?_) (fun c4 => ?_)
        · have k := k.1 c4
          refine Ev_aload_n hq_139 (show decode prog_7_method_21_code 54 = .ok (.aload_n 0, 1) by decide +kernel) rfl ?_
          refine Ev_getI hq_139 (show decode prog_7_method_21_code 55 = .ok (.getfield 116, 3) by decide +kernel) rfl (SGn hS (by decide)) (SGk hS rfl) (by decide) rfl ?_
          refine Ev_bipush (v := 43) hq_139 (show decode prog_7_method_21_code 58 = .ok (.bipush 43, 2) by decide +kernel) (by decide) ?_
          refine Ev_icmp_ne (tgt := 68) hq_139 (show decode prog_7_method_21_code 60 = .ok (.if_icmp .ne 8, 3) by decide +kernel) (by decide) (fun c5 => ?_) (fun c5 => ?_)
          · have k := k.1 c5
            refine Ev_aload_n hq_139 (show decode prog_7_method_21_code 68 = .ok (.aload_n 0, 1) by decide +kernel) rfl ?_
            refine Ev_getI hq_139 (show decode prog_7_method_21_code 69 = .ok (.getfield 116, 3) by decide +kernel) rfl (SGn hS (by decide)) (SGk hS rfl) (by decide) rfl ?_
            refine Ev_bipush (v := 45) hq_139 (show decode prog_7_method_21_code 72 = .ok (.bipush 45, 2) by decide +kernel) (by decide) ?_
            refine Ev_icmp_ne (tgt := 82) hq_139 (show decode prog_7_method_21_code 74 = .ok (.if_icmp .ne 8, 3) by decide +kernel) (by decide) (fun c6 => ?_) (fun c6 => ?_)
            · have k := k.1 c6
              refine Ev_aload_n hq_139 (show decode prog_7_method_21_code 82 = .ok (.aload_n 0, 1) by decide +kernel) rfl ?_
              refine Ev_getI hq_139 (show decode prog_7_method_21_code 83 = .ok (.getfield 116, 3) by decide +kernel) rfl (SGn hS (by decide)) (SGk hS rfl) (by decide) rfl ?_
              refine Ev_bipush (v := 42) hq_139 (show decode prog_7_method_21_code 86 = .ok (.bipush 42, 2) by decide +kernel) (by decide) ?_
              refine Ev_icmp_ne (tgt := 96) hq_139 (show decode prog_7_method_21_code 88 = .ok (.if_icmp .ne 8, 3) by decide +kernel) (by decide) (fun c7 => ?_) (fun c7 => ?_)
              · have k := k.1 c7
                refine Ev_iconst (v := (-1)) hq_139 (show decode prog_7_method_21_code 96 = .ok (.iconst (-1), 1) by decide +kernel) (by decide) ?_
                exact Ev_iret hq_139 (show decode prog_7_method_21_code 97 = .ok (.ireturn, 1) by decide +kernel) rfl k
              · have k := k.2 (Classical.not_not.mp c7)
                refine Ev_bipush (v := 18) hq_139 (show decode prog_7_method_21_code 91 = .ok (.bipush 18, 2) by decide +kernel) (by decide) ?_
                refine Ev_goto (tgt := 97) hq_139 (show decode prog_7_method_21_code 93 = .ok (.goto 4, 3) by decide +kernel) (by decide) ?_
                exact Ev_iret hq_139 (show decode prog_7_method_21_code 97 = .ok (.ireturn, 1) by decide +kernel) rfl k
            · have k := k.2 (Classical.not_not.mp c6)
              refine Ev_bipush (v := 17) hq_139 (show decode prog_7_method_21_code 77 = .ok (.bipush 17, 2) by decide +kernel) (by decide) ?_
              refine Ev_goto (tgt := 97) hq_139 (show decode prog_7_method_21_code 79 = .ok (.goto 18, 3) by decide +kernel) (by decide) ?_
              exact Ev_iret hq_139 (show decode prog_7_method_21_code 97 = .ok (.ireturn, 1) by decide +kernel) rfl k
          · have k := k.2 (Classical.not_not.mp c5)
            refine Ev_bipush (v := 16) hq_139 (show decode prog_7_method_21_code 63 = .ok (.bipush 16, 2) by decide +kernel) (by decide) ?_
            refine Ev_goto (tgt := 97) hq_139 (show decode prog_7_method_21_code 65 = .ok (.goto 32, 3) by decide +kernel) (by decide) ?_
            exact Ev_iret hq_139 (show decode prog_7_method_21_code 97 = .ok (.ireturn, 1) by decide +kernel) rfl k
        · have k := k.2 (Classical.not_not.mp c4)
          refine Ev_bipush (v := 15) hq_139 (show decode prog_7_method_21_code 49 = .ok (.bipush 15, 2) by decide +kernel) (by decide) ?_
          refine Ev_goto (tgt := 97) hq_139 (show decode prog_7_method_21_code 51 = .ok (.goto 46, 3) by decide +kernel) (by decide) ?_
          exact Ev_iret hq_139 (show decode prog_7_method_21_code 97 = .ok (.ireturn, 1) by decide +kernel) rfl k
      · have k := k.2 (Classical.not_not.mp c3)
        refine Ev_bipush (v := 14) hq_139 (show decode prog_7_method_21_code 35 = .ok (.bipush 14, 2) by decide +kernel) (by decide) ?_
        refine Ev_goto (tgt := 97) hq_139 (show decode prog_7_method_21_code 37 = .ok (.goto 60, 3) by decide +kernel) (by decide) ?_
        exact Ev_iret hq_139 (show decode prog_7_method_21_code 97 = .ok (.ireturn, 1) by decide +kernel) rfl k
    · have k := k.2 (Classical.not_not.mp c2)
      refine Ev_bipush (v := 12) hq_139 (show decode prog_7_method_21_code 21 = .ok (.bipush 12, 2) by decide +kernel) (by decide) ?_
      refine Ev_goto (tgt := 97) hq_139 (show decode prog_7_method_21_code 23 = .ok (.goto 74, 3) by decide +kernel) (by decide) ?_
      exact Ev_iret hq_139 (show decode prog_7_method_21_code 97 = .ok (.ireturn, 1) by decide +kernel) rfl k
  · have k := k.2 (Classical.not_not.mp c1)
    refine Ev_bipush (v := 11) hq_139 (show decode prog_7_method_21_code 8 = .ok (.bipush 11, 2) by decide +kernel) (by decide) ?_
    refine Ev_goto (tgt := 97) hq_139 (show decode prog_7_method_21_code 10 = .ok (.goto 87, 3) by decide +kernel) (by decide) ?_
    exact Ev_iret hq_139 (show decode prog_7_method_21_code 97 = .ok (.ireturn, 1) by decide +kernel) rfl k
def f_Z_signOf (I : zI) : Int32 := (if (I 57 20) = 4 then 11 else (if (I 57 20) = 5 then 12 else (if (I 57 20) = 60 then 14 else (if (I 57 20) = 61 then 15 else (if (I 57 20) = 43 then 16 else (if (I 57 20) = 45 then 17 else (if (I 57 20) = 42 then 18 else (-1))))))))
theorem c_Z_signOf {X : Nat × (Nat → Int32)} {d : Nat} {G : zG} {I : zI} (hS : SG G)  : Cv X d 139 [.ref 57] G I (some (.int (f_Z_signOf I )), G, I) := by
  exact Cv.of hq_139 (z_le rfl) rfl (wp_Z_signOf  hS ⟨fun h0 => ⟨fun h1 => ⟨fun h2 => ⟨fun h3 => ⟨fun h4 => ⟨fun h5 => ⟨fun h6 => (by simp only [f_Z_signOf]; rw [if_neg h0]; rw [if_neg h1]; rw [if_neg h2]; rw [if_neg h3]; rw [if_neg h4]; rw [if_neg h5]; rw [if_neg h6]), fun h6 => (by simp only [f_Z_signOf]; rw [if_neg h0]; rw [if_neg h1]; rw [if_neg h2]; rw [if_neg h3]; rw [if_neg h4]; rw [if_neg h5]; rw [if_pos h6])⟩, fun h5 => (by simp only [f_Z_signOf]; rw [if_neg h0]; rw [if_neg h1]; rw [if_neg h2]; rw [if_neg h3]; rw [if_neg h4]; rw [if_pos h5])⟩, fun h4 => (by simp only [f_Z_signOf]; rw [if_neg h0]; rw [if_neg h1]; rw [if_neg h2]; rw [if_neg h3]; rw [if_pos h4])⟩, fun h3 => (by simp only [f_Z_signOf]; rw [if_neg h0]; rw [if_neg h1]; rw [if_neg h2]; rw [if_pos h3])⟩, fun h2 => (by simp only [f_Z_signOf]; rw [if_neg h0]; rw [if_neg h1]; rw [if_pos h2])⟩, fun h1 => (by simp only [f_Z_signOf]; rw [if_neg h0]; rw [if_pos h1])⟩, fun h0 => (by simp only [f_Z_signOf]; rw [if_pos h0])⟩)
set_option maxRecDepth 20000 in
theorem wp_Z_between {X : Nat × (Nat → Int32)} {d : Nat} {G : zG} {I : zI} {res : Option Value × zG × zI} (x1 : Int32) (hS : SG G) 
    (k : (¬ (f_Z_rank x1) = 4 → ∃ (I2 : zI), Cv X d 135 [.ref 57, .int (f_Z_rank x1)] G I (none, G, I2) ∧ ((¬ (f_Z_rank x1) = 4 → ∃ (I5 : zI), Cv X d 138 [.ref 57, .int x1] G I2 (none, G, I5) ∧ (res = (some (.int 1), G, I5))) ∧ ((f_Z_rank x1) = 4 → ((I2 57 24) ≤ 0 → ∃ (I8 : zI), Cv X d 138 [.ref 57, .int x1] G I2 (none, G, I8) ∧ (res = (some (.int 1), G, I8))) ∧ (¬ (I2 57 24) ≤ 0 → z_inr ((I2 57 24) - 1) 200 ∧ ((¬ (f_Z_rank (I2 70 ((I2 57 24) - 1).toNatClampNeg)) = 4 → ∃ (I12 : zI), Cv X d 138 [.ref 57, .int x1] G I2 (none, G, I12) ∧ (res = (some (.int 1), G, I12))) ∧ ((f_Z_rank (I2 70 ((I2 57 24) - 1).toNatClampNeg)) = 4 → res = (some (.int 0), G, I2))))))) ∧ ((f_Z_rank x1) = 4 → ∃ (I14 : zI), Cv X d 135 [.ref 57, .int 5] G I (none, G, I14) ∧ ((¬ (f_Z_rank x1) = 4 → ∃ (I17 : zI), Cv X d 138 [.ref 57, .int x1] G I14 (none, G, I17) ∧ (res = (some (.int 1), G, I17))) ∧ ((f_Z_rank x1) = 4 → ((I14 57 24) ≤ 0 → ∃ (I20 : zI), Cv X d 138 [.ref 57, .int x1] G I14 (none, G, I20) ∧ (res = (some (.int 1), G, I20))) ∧ (¬ (I14 57 24) ≤ 0 → z_inr ((I14 57 24) - 1) 200 ∧ ((¬ (f_Z_rank (I14 70 ((I14 57 24) - 1).toNatClampNeg)) = 4 → ∃ (I24 : zI), Cv X d 138 [.ref 57, .int x1] G I14 (none, G, I24) ∧ (res = (some (.int 1), G, I24))) ∧ ((f_Z_rank (I14 70 ((I14 57 24) - 1).toNatClampNeg)) = 4 → res = (some (.int 0), G, I14)))))))) :
    Ev X (d + 1) 140 0 [.ref 57, .int x1] [] G I res := by
  refine Ev_aload_n hq_140 (show decode prog_7_method_20_code 0 = .ok (.aload_n 0, 1) by decide +kernel) rfl ?_
  refine Ev_iload_n hq_140 (show decode prog_7_method_20_code 1 = .ok (.iload_n 1, 1) by decide +kernel) rfl ?_
  refine Ev_stat (as := [.int x1]) hq_140 (show decode prog_7_method_20_code 2 = .ok (.invokestatic 132, 3) by decide +kernel) rfl (Or.inl rfl) hq_136 rfl (z_le rfl) (c_Z_rank x1) ?_
  refine Ev_iconst (v := 4) hq_140 (show decode prog_7_method_20_code 5 = .ok (.iconst 4, 1) by decide +kernel) (by decide) ?_
  refine Ev_icmp_ne (tgt := 13) hq_140 (show decode prog_7_method_20_code 6 = .ok (.if_icmp .ne 7, 3) by decide +kernel) (by decide) (fun c1 => ?_) (fun c1 => ?_)
  · have k := k.1 c1
    refine Ev_iload_n hq_140 (show decode prog_7_method_20_code 13 = .ok (.iload_n 1, 1) by decide +kernel) rfl ?_
    refine Ev_stat (as := [.int x1]) hq_140 (show decode prog_7_method_20_code 14 = .ok (.invokestatic 132, 3) by decide +kernel) rfl (Or.inl rfl) hq_136 rfl (z_le rfl) (c_Z_rank x1) ?_
    obtain ⟨I2, h3, k⟩ := k
    refine Ev_virt (as := [.int (f_Z_rank x1)]) hq_140 (show decode prog_7_method_20_code 17 = .ok (.invokevirtual 146, 3) by decide +kernel) rfl hq_135 rfl (z_le rfl) ⟨(SGn hS (by decide)), (SGk hS rfl), by decide⟩ h3 ?_
    refine Ev_iload_n hq_140 (show decode prog_7_method_20_code 20 = .ok (.iload_n 1, 1) by decide +kernel) rfl ?_
    refine Ev_stat (as := [.int x1]) hq_140 (show decode prog_7_method_20_code 21 = .ok (.invokestatic 132, 3) by decide +kernel) rfl (Or.inl rfl) hq_136 rfl (z_le rfl) (c_Z_rank x1) ?_
    refine Ev_iconst (v := 4) hq_140 (show decode prog_7_method_20_code 24 = .ok (.iconst 4, 1) by decide +kernel) (by decide) ?_
    refine Ev_icmp_ne (tgt := 55) hq_140 (show decode prog_7_method_20_code 25 = .ok (.if_icmp .ne 30, 3) by decide +kernel) (by decide) (fun c4 => ?_) (fun c4 => ?_)
    · have k := k.1 c4
      refine Ev_aload_n hq_140 (show decode prog_7_method_20_code 55 = .ok (.aload_n 0, 1) by decide +kernel) rfl ?_
      refine Ev_iload_n hq_140 (show decode prog_7_method_20_code 56 = .ok (.iload_n 1, 1) by decide +kernel) rfl ?_
      obtain ⟨I5, h6, k⟩ := k
      refine Ev_virt (as := [.int x1]) hq_140 (show decode prog_7_method_20_code 57 = .ok (.invokevirtual 143, 3) by decide +kernel) rfl hq_138 rfl (z_le rfl) ⟨(SGn hS (by decide)), (SGk hS rfl), by decide⟩ h6 ?_
      refine Ev_iconst (v := 1) hq_140 (show decode prog_7_method_20_code 60 = .ok (.iconst 1, 1) by decide +kernel) (by decide) ?_
      exact Ev_iret hq_140 (show decode prog_7_method_20_code 61 = .ok (.ireturn, 1) by decide +kernel) rfl k
    · have k := k.2 (Classical.not_not.mp c4)
      refine Ev_aload_n hq_140 (show decode prog_7_method_20_code 28 = .ok (.aload_n 0, 1) by decide +kernel) rfl ?_
      refine Ev_getI hq_140 (show decode prog_7_method_20_code 29 = .ok (.getfield 129, 3) by decide +kernel) rfl (SGn hS (by decide)) (SGk hS rfl) (by decide) rfl ?_
      refine Ev_if_le (tgt := 55) hq_140 (show decode prog_7_method_20_code 32 = .ok (.ifCond .le 23, 3) by decide +kernel) (by decide) (fun c7 => ?_) (fun c7 => ?_)
      · have k := k.1 c7
        refine Ev_aload_n hq_140 (show decode prog_7_method_20_code 55 = .ok (.aload_n 0, 1) by decide +kernel) rfl ?_
        refine Ev_iload_n hq_140 (show decode prog_7_method_20_code 56 = .ok (.iload_n 1, 1) by decide +kernel) rfl ?_
        obtain ⟨I8, h9, k⟩ := k
        refine Ev_virt (as := [.int x1]) hq_140 (show decode prog_7_method_20_code 57 = .ok (.invokevirtual 143, 3) by decide +kernel) rfl hq_138 rfl (z_le rfl) ⟨(SGn hS (by decide)), (SGk hS rfl), by decide⟩ h9 ?_
        refine Ev_iconst (v := 1) hq_140 (show decode prog_7_method_20_code 60 = .ok (.iconst 1, 1) by decide +kernel) (by decide) ?_
        exact Ev_iret hq_140 (show decode prog_7_method_20_code 61 = .ok (.ireturn, 1) by decide +kernel) rfl k
      · have k := k.2 c7
        refine Ev_aload_n hq_140 (show decode prog_7_method_20_code 35 = .ok (.aload_n 0, 1) by decide +kernel) rfl ?_
        refine Ev_getR hq_140 (show decode prog_7_method_20_code 36 = .ok (.getfield 46, 3) by decide +kernel) rfl (SGn hS (by decide)) (SGk hS rfl) (by decide) rfl (SGr hS rfl) ?_
        refine Ev_aload_n hq_140 (show decode prog_7_method_20_code 39 = .ok (.aload_n 0, 1) by decide +kernel) rfl ?_
        refine Ev_getI hq_140 (show decode prog_7_method_20_code 40 = .ok (.getfield 129, 3) by decide +kernel) rfl (SGn hS (by decide)) (SGk hS rfl) (by decide) rfl ?_
        refine Ev_iconst (v := 1) hq_140 (show decode prog_7_method_20_code 43 = .ok (.iconst 1, 1) by decide +kernel) (by decide) ?_
        refine Ev_isub hq_140 (show decode prog_7_method_20_code 44 = .ok (.isub, 1) by decide +kernel) ?_
        obtain ⟨h10, k⟩ := k
        refine Ev_iald hq_140 (show decode prog_7_method_20_code 45 = .ok (.iaload, 1) by decide +kernel) (SGn hS (by decide)) (SGk hS rfl) (SGi hS rfl h10) ?_
        refine Ev_stat (as := [.int (I2 70 ((I2 57 24) - 1).toNatClampNeg)]) hq_140 (show decode prog_7_method_20_code 46 = .ok (.invokestatic 132, 3) by decide +kernel) rfl (Or.inl rfl) hq_136 rfl (z_le rfl) (c_Z_rank (I2 70 ((I2 57 24) - 1).toNatClampNeg)) ?_
        refine Ev_iconst (v := 4) hq_140 (show decode prog_7_method_20_code 49 = .ok (.iconst 4, 1) by decide +kernel) (by decide) ?_
        refine Ev_icmp_ne (tgt := 55) hq_140 (show decode prog_7_method_20_code 50 = .ok (.if_icmp .ne 5, 3) by decide +kernel) (by decide) (fun c11 => ?_) (fun c11 => ?_)
        · have k := k.1 c11
          refine Ev_aload_n hq_140 (show decode prog_7_method_20_code 55 = .ok (.aload_n 0, 1) by decide +kernel) rfl ?_
          refine Ev_iload_n hq_140 (show decode prog_7_method_20_code 56 = .ok (.iload_n 1, 1) by decide +kernel) rfl ?_
          obtain ⟨I12, h13, k⟩ := k
          refine Ev_virt (as := [.int x1]) hq_140 (show decode prog_7_method_20_code 57 = .ok (.invokevirtual 143, 3) by decide +kernel) rfl hq_138 rfl (z_le rfl) ⟨(SGn hS (by decide)), (SGk hS rfl), by decide⟩ h13 ?_
          refine Ev_iconst (v := 1) hq_140 (show decode prog_7_method_20_code 60 = .ok (.iconst 1, 1) by decide +kernel) (by decide) ?_
          exact Ev_iret hq_140 (show decode prog_7_method_20_code 61 = .ok (.ireturn, 1) by decide +kernel) rfl k
        · have k := k.2 (Classical.not_not.mp c11)
          refine Ev_iconst (v := 0) hq_140 (show decode prog_7_method_20_code 53 = .ok (.iconst 0, 1) by decide +kernel) (by decide) ?_
          exact Ev_iret hq_140 (show decode prog_7_method_20_code 54 = .ok (.ireturn, 1) by decide +kernel) rfl k
  · have k := k.2 (Classical.not_not.mp c1)
    refine Ev_iconst (v := 5) hq_140 (show decode prog_7_method_20_code 9 = .ok (.iconst 5, 1) by decide +kernel) (by decide) ?_
    refine Ev_goto (tgt := 17) hq_140 (show decode prog_7_method_20_code 10 = .ok (.goto 7, 3) by decide +kernel) (by decide) ?_
    obtain ⟨I14, h15, k⟩ := k
    refine Ev_virt (as := [.int 5]) hq_140 (show decode prog_7_method_20_code 17 = .ok (.invokevirtual 146, 3) by decide +kernel) rfl hq_135 rfl (z_le rfl) ⟨(SGn hS (by decide)), (SGk hS rfl), by decide⟩ h15 ?_
    refine Ev_iload_n hq_140 (show decode prog_7_method_20_code 20 = .ok (.iload_n 1, 1) by decide +kernel) rfl ?_
    refine Ev_stat (as := [.int x1]) hq_140 (show decode prog_7_method_20_code 21 = .ok (.invokestatic 132, 3) by decide +kernel) rfl (Or.inl rfl) hq_136 rfl (z_le rfl) (c_Z_rank x1) ?_
    refine Ev_iconst (v := 4) hq_140 (show decode prog_7_method_20_code 24 = .ok (.iconst 4, 1) by decide +kernel) (by decide) ?_
    refine Ev_icmp_ne (tgt := 55) hq_140 (show decode prog_7_method_20_code 25 = .ok (.if_icmp .ne 30, 3) by decide +kernel) (by decide) (fun c16 => ?_) (fun c16 => ?_)
    · have k := k.1 c16
      refine Ev_aload_n hq_140 (show decode prog_7_method_20_code 55 = .ok (.aload_n 0, 1) by decide +kernel) rfl ?_
      refine Ev_iload_n hq_140 (show decode prog_7_method_20_code 56 = .ok (.iload_n 1, 1) by decide +kernel) rfl ?_
      obtain ⟨I17, h18, k⟩ := k
      refine Ev_virt (as := [.int x1]) hq_140 (show decode prog_7_method_20_code 57 = .ok (.invokevirtual 143, 3) by decide +kernel) rfl hq_138 rfl (z_le rfl) ⟨(SGn hS (by decide)), (SGk hS rfl), by decide⟩ h18 ?_
      refine Ev_iconst (v := 1) hq_140 (show decode prog_7_method_20_code 60 = .ok (.iconst 1, 1) by decide +kernel) (by decide) ?_
      exact Ev_iret hq_140 (show decode prog_7_method_20_code 61 = .ok (.ireturn, 1) by decide +kernel) rfl k
    · have k := k.2 (Classical.not_not.mp c16)
      refine Ev_aload_n hq_140 (show decode prog_7_method_20_code 28 = .ok (.aload_n 0, 1) by decide +kernel) rfl ?_
      refine Ev_getI hq_140 (show decode prog_7_method_20_code 29 = .ok (.getfield 129, 3) by decide +kernel) rfl (SGn hS (by decide)) (SGk hS rfl) (by decide) rfl ?_
      refine Ev_if_le (tgt := 55) hq_140 (show decode prog_7_method_20_code 32 = .ok (.ifCond .le 23, 3) by decide +kernel) (by decide) (fun c19 => ?_) (fun c19 => ?_)
      · have k := k.1 c19
        refine Ev_aload_n hq_140 (show decode prog_7_method_20_code 55 = .ok (.aload_n 0, 1) by decide +kernel) rfl ?_
        refine Ev_iload_n hq_140 (show decode prog_7_method_20_code 56 = .ok (.iload_n 1, 1) by decide +kernel) rfl ?_
        obtain ⟨I20, h21, k⟩ := k
        refine Ev_virt (as := [.int x1]) hq_140 (show decode prog_7_method_20_code 57 = .ok (.invokevirtual 143, 3) by decide +kernel) rfl hq_138 rfl (z_le rfl) ⟨(SGn hS (by decide)), (SGk hS rfl), by decide⟩ h21 ?_
        refine Ev_iconst (v := 1) hq_140 (show decode prog_7_method_20_code 60 = .ok (.iconst 1, 1) by decide +kernel) (by decide) ?_
        exact Ev_iret hq_140 (show decode prog_7_method_20_code 61 = .ok (.ireturn, 1) by decide +kernel) rfl k
      · have k := k.2 c19
        refine Ev_aload_n hq_140 (show decode prog_7_method_20_code 35 = .ok (.aload_n 0, 1) by decide +kernel) rfl ?_
        refine Ev_getR hq_140 (show decode prog_7_method_20_code 36 = .ok (.getfield 46, 3) by decide +kernel) rfl (SGn hS (by decide)) (SGk hS rfl) (by decide) rfl (SGr hS rfl) ?_
        refine Ev_aload_n hq_140 (show decode prog_7_method_20_code 39 = .ok (.aload_n 0, 1) by decide +kernel) rfl ?_
        refine Ev_getI hq_140 (show decode prog_7_method_20_code 40 = .ok (.getfield 129, 3) by decide +kernel) rfl (SGn hS (by decide)) (SGk hS rfl) (by decide) rfl ?_
        refine Ev_iconst (v := 1) hq_140 (show decode prog_7_method_20_code 43 = .ok (.iconst 1, 1) by decide +kernel) (by decide) ?_
        refine Ev_isub hq_140 (show decode prog_7_method_20_code 44 = .ok (.isub, 1) by decide +kernel) ?_
        obtain ⟨h22, k⟩ := k
        refine Ev_iald hq_140 (show decode prog_7_method_20_code 45 = .ok (.iaload, 1) by decide +kernel) (SGn hS (by decide)) (SGk hS rfl) (SGi hS rfl h22) ?_
        refine Ev_stat (as := [.int (I14 70 ((I14 57 24) - 1).toNatClampNeg)]) hq_140 (show decode prog_7_method_20_code 46 = .ok (.invokestatic 132, 3) by decide +kernel) rfl (Or.inl rfl) hq_136 rfl (z_le rfl) (c_Z_rank (I14 70 ((I14 57 24) - 1).toNatClampNeg)) ?_
        refine Ev_iconst (v := 4) hq_140 (show decode prog_7_method_20_code 49 = .ok (.iconst 4, 1) by decide +kernel) (by decide) ?_
        refine Ev_icmp_ne (tgt := 55) hq_140 (show decode prog_7_method_20_code 50 = .ok (.if_icmp .ne 5, 3) by decide +kernel) (by decide) (fun c23 => ?_) (fun c23 => ?_)
        · have k := k.1 c23
          refine Ev_aload_n hq_140 (show decode prog_7_method_20_code 55 = .ok (.aload_n 0, 1) by decide +kernel) rfl ?_
          refine Ev_iload_n hq_140 (show decode prog_7_method_20_code 56 = .ok (.iload_n 1, 1) by decide +kernel) rfl ?_
          obtain ⟨I24, h25, k⟩ := k
          refine Ev_virt (as := [.int x1]) hq_140 (show decode prog_7_method_20_code 57 = .ok (.invokevirtual 143, 3) by decide +kernel) rfl hq_138 rfl (z_le rfl) ⟨(SGn hS (by decide)), (SGk hS rfl), by decide⟩ h25 ?_
          refine Ev_iconst (v := 1) hq_140 (show decode prog_7_method_20_code 60 = .ok (.iconst 1, 1) by decide +kernel) (by decide) ?_
          exact Ev_iret hq_140 (show decode prog_7_method_20_code 61 = .ok (.ireturn, 1) by decide +kernel) rfl k
        · have k := k.2 (Classical.not_not.mp c23)
          refine Ev_iconst (v := 0) hq_140 (show decode prog_7_method_20_code 53 = .ok (.iconst 0, 1) by decide +kernel) (by decide) ?_
          exact Ev_iret hq_140 (show decode prog_7_method_20_code 54 = .ok (.ireturn, 1) by decide +kernel) rfl k
set_option maxRecDepth 20000 in
theorem wp_Z_eRead {X : Nat × (Nat → Int32)} {d : Nat} {G : zG} {I : zI} {res : Option Value × zG × zI}  (hS : SG G) 
    (k : (∀ I1 : zI, I1 = z_up I 57 24 0 → (∀ I2 : zI, I2 = z_up I1 57 25 0 → Ev X d 133 14 [.ref 57, .int 1, .int 1, zU] [] G I2 res))) :
    Ev X d 133 0 [.ref 57, zU, zU, zU] [] G I res := by
  refine Ev_aload_n hq_133 (show decode prog_7_method_22_code 0 = .ok (.aload_n 0, 1) by decide +kernel) rfl ?_
  refine Ev_iconst (v := 0) hq_133 (show decode prog_7_method_22_code 1 = .ok (.iconst 0, 1) by decide +kernel) (by decide) ?_
  refine Ev_putI hq_133 (show decode prog_7_method_22_code 2 = .ok (.putfield 129, 3) by decide +kernel) rfl (SGn hS (by decide)) (SGk hS rfl) (by decide) (by decide) rfl (fun hz => by cases hz) ?_
  obtain ⟨I1, eI1⟩ : ∃ I1 : zI, I1 = z_up I 57 24 0 := ⟨_, rfl⟩
  have k := k I1 eI1
  rw [← eI1]
  refine Ev_aload_n hq_133 (show decode prog_7_method_22_code 5 = .ok (.aload_n 0, 1) by decide +kernel) rfl ?_
  refine Ev_iconst (v := 0) hq_133 (show decode prog_7_method_22_code 6 = .ok (.iconst 0, 1) by decide +kernel) (by decide) ?_
  refine Ev_putI hq_133 (show decode prog_7_method_22_code 7 = .ok (.putfield 136, 3) by decide +kernel) rfl (SGn hS (by decide)) (SGk hS rfl) (by decide) (by decide) rfl (fun hz => by cases hz) ?_
  obtain ⟨I2, eI2⟩ : ∃ I2 : zI, I2 = z_up I1 57 25 0 := ⟨_, rfl⟩
  have k := k I2 eI2
  rw [← eI2]
  refine Ev_iconst (v := 1) hq_133 (show decode prog_7_method_22_code 10 = .ok (.iconst 1, 1) by decide +kernel) (by decide) ?_
  refine Ev_istore_n (lo2 := [.ref 57, .int 1, zU, zU]) hq_133 (show decode prog_7_method_22_code 11 = .ok (.istore_n 1, 1) by decide +kernel) (z_le rfl) rfl ?_
  refine Ev_iconst (v := 1) hq_133 (show decode prog_7_method_22_code 12 = .ok (.iconst 1, 1) by decide +kernel) (by decide) ?_
  refine Ev_istore_n (lo2 := [.ref 57, .int 1, .int 1, zU]) hq_133 (show decode prog_7_method_22_code 13 = .ok (.istore_n 2, 1) by decide +kernel) (z_le rfl) rfl ?_
  exact k
set_option maxRecDepth 20000 in
theorem wp_Z_eRead_14 {X : Nat × (Nat → Int32)} {d : Nat} {G : zG} {I : zI} {res : Option Value × zG × zI} (x1 : Int32) (x2 : Int32) (v3 : Value) (cv3 : v3.category = 1) (hS : SG G) 
    (k : ∃ (I1 : zI), Cv X d 130 [.ref 57] G I (none, G, I1) ∧ ((x1 = 0 → (¬ (I1 57 20) = 59 → (¬ (I1 57 20) = 41 → ∀ y6 : Int32, y6 = (f_Z_signOf I1 ) → (y6 = (-1) → res = (some (.int 0), G, I1)) ∧ (¬ y6 = (-1) → ∃ (r10 : Int32) (I8 : zI), Cv X d 140 [.ref 57, .int y6] G I1 (some (.int r10), G, I8) ∧ ((¬ r10 = 0 → (12 < y6 → Ev X (d + 1) 133 14 [.ref 57, .int 1, .int 0, .int y6] [] G I8 res) ∧ (¬ 12 < y6 → Ev X (d + 1) 133 14 [.ref 57, .int 1, .int 1, .int y6] [] G I8 res)) ∧ (r10 = 0 → res = (some (.int 0), G, I8))))) ∧ ((I1 57 20) = 41 → ∃ (I13 : zI), Cv X d 135 [.ref 57, .int 1] G I1 (none, G, I13) ∧ ((¬ (I13 57 24) = 0 → (∀ I16 : zI, I16 = z_up I13 57 24 ((I13 57 24) - 1) → (∀ I17 : zI, I17 = z_up I16 57 25 ((I16 57 25) - 1) → ∃ (I18 : zI), Cv X d 135 [.ref 57, .int 7] G I17 (none, G, I18) ∧ (Ev X (d + 1) 133 14 [.ref 57, .int x1, .int x2, v3] [] G I18 res)))) ∧ ((I13 57 24) = 0 → res = (some (.int 0), G, I13))))) ∧ ((I1 57 20) = 59 → ∃ (I20 : zI), Cv X d 135 [.ref 57, .int 1] G I1 (none, G, I20) ∧ ((¬ (I20 57 24) = 0 → res = (some (.int 0), G, I20)) ∧ ((I20 57 24) = 0 → res = (some (.int 1), G, I20))))) ∧ (¬ x1 = 0 → ((I1 57 20) = 1 → (¬ (I1 57 20) = 1 → ∃ (I25 : zI), Cv X d 134 [.ref 57, .int (I1 57 21)] G I1 (none, G, I25) ∧ (∃ (I27 : zI), Cv X d 135 [.ref 57, .int 7] G I25 (none, G, I27) ∧ (Ev X (d + 1) 133 14 [.ref 57, .int 0, .int x2, v3] [] G I27 res))) ∧ ((I1 57 20) = 1 → ∃ (I29 : zI), Cv X d 134 [.ref 57, .int (100000 + (I1 57 21))] G I1 (none, G, I29) ∧ (∃ (I31 : zI), Cv X d 135 [.ref 57, .int 7] G I29 (none, G, I31) ∧ (Ev X (d + 1) 133 14 [.ref 57, .int 0, .int x2, v3] [] G I31 res)))) ∧ (¬ (I1 57 20) = 1 → (¬ (I1 57 20) = 2 → (¬ (I1 57 20) = 6 → (¬ (I1 57 20) = 45 → (¬ (I1 57 20) = 40 → res = (some (.int 0), G, I1)) ∧ ((I1 57 20) = 40 → ∃ (r39 : Int32) (I37 : zI), Cv X d 137 [.ref 57, .int 0] G I1 (some (.int r39), G, I37) ∧ ((¬ r39 = 0 → Ev X (d + 1) 133 14 [.ref 57, .int x1, .int 1, v3] [] G I37 res) ∧ (r39 = 0 → res = (some (.int 0), G, I37))))) ∧ ((I1 57 20) = 45 → ∃ (r43 : Int32) (I41 : zI), Cv X d 137 [.ref 57, .int 19] G I1 (some (.int r43), G, I41) ∧ ((¬ r43 = 0 → Ev X (d + 1) 133 14 [.ref 57, .int x1, .int 0, v3] [] G I41 res) ∧ (r43 = 0 → res = (some (.int 0), G, I41))))) ∧ ((I1 57 20) = 6 → (x2 = 0 → (¬ (I1 57 20) = 45 → (¬ (I1 57 20) = 40 → res = (some (.int 0), G, I1)) ∧ ((I1 57 20) = 40 → ∃ (r50 : Int32) (I48 : zI), Cv X d 137 [.ref 57, .int 0] G I1 (some (.int r50), G, I48) ∧ ((¬ r50 = 0 → Ev X (d + 1) 133 14 [.ref 57, .int x1, .int 1, v3] [] G I48 res) ∧ (r50 = 0 → res = (some (.int 0), G, I48))))) ∧ ((I1 57 20) = 45 → ∃ (r54 : Int32) (I52 : zI), Cv X d 137 [.ref 57, .int 19] G I1 (some (.int r54), G, I52) ∧ ((¬ r54 = 0 → Ev X (d + 1) 133 14 [.ref 57, .int x1, .int 0, v3] [] G I52 res) ∧ (r54 = 0 → res = (some (.int 0), G, I52))))) ∧ (¬ x2 = 0 → ∃ (r58 : Int32) (I56 : zI), Cv X d 137 [.ref 57, .int 13] G I1 (some (.int r58), G, I56) ∧ ((¬ r58 = 0 → Ev X (d + 1) 133 14 [.ref 57, .int x1, .int x2, v3] [] G I56 res) ∧ (r58 = 0 → res = (some (.int 0), G, I56)))))) ∧ ((I1 57 20) = 2 → (¬ (I1 57 20) = 1 → ∃ (I61 : zI), Cv X d 134 [.ref 57, .int (I1 57 21)] G I1 (none, G, I61) ∧ (∃ (I63 : zI), Cv X d 135 [.ref 57, .int 7] G I61 (none, G, I63) ∧ (Ev X (d + 1) 133 14 [.ref 57, .int 0, .int x2, v3] [] G I63 res))) ∧ ((I1 57 20) = 1 → ∃ (I65 : zI), Cv X d 134 [.ref 57, .int (100000 + (I1 57 21))] G I1 (none, G, I65) ∧ (∃ (I67 : zI), Cv X d 135 [.ref 57, .int 7] G I65 (none, G, I67) ∧ (Ev X (d + 1) 133 14 [.ref 57, .int 0, .int x2, v3] [] G I67 res)))))))) :
    Ev X (d + 1) 133 14 [.ref 57, .int x1, .int x2, v3] [] G I res := by
  refine Ev_aload_n hq_133 (show decode prog_7_method_22_code 14 = .ok (.aload_n 0, 1) by decide +kernel) rfl ?_
  obtain ⟨I1, h2, k⟩ := k
  refine Ev_virt (as := []) hq_133 (show decode prog_7_method_22_code 15 = .ok (.invokevirtual 149, 3) by decide +kernel) rfl hq_130 rfl (z_le rfl) ⟨(SGn hS (by decide)), (SGk hS rfl), by decide⟩ h2 ?_
  refine Ev_iload_n hq_133 (show decode prog_7_method_22_code 18 = .ok (.iload_n 1, 1) by decide +kernel) rfl ?_
  refine Ev_if_eq (tgt := 150) hq_133 (show decode prog_7_method_22_code 19 = .ok (.ifCond .eq 131, 3) by decide +kernel) (by decide) (fun c3 => ?_) (fun c3 => ?_)
  · have k := k.1 c3
    refine Ev_aload_n hq_133 (show decode prog_7_method_22_code 150 = .ok (.aload_n 0, 1) by decide +kernel) rfl ?_
    refine Ev_getI hq_133 (show decode prog_7_method_22_code 151 = .ok (.getfield 116, 3) by decide +kernel) rfl (SGn hS (by decide)) (SGk hS rfl) (by decide) rfl ?_
    refine Ev_bipush (v := 59) hq_133 (show decode prog_7_method_22_code 154 = .ok (.bipush 59, 2) by decide +kernel) (by decide) ?_
    refine Ev_icmp_ne (tgt := 177) hq_133 (show decode prog_7_method_22_code 156 = .ok (.if_icmp .ne 21, 3) by decide +kernel) (by decide) (fun c4 => ?_) (fun c4 => ?_)
    · have k := k.1 c4
      refine Ev_aload_n hq_133 (show decode prog_7_method_22_code 177 = .ok (.aload_n 0, 1) by decide +kernel) rfl ?_
      refine Ev_getI hq_133 (show decode prog_7_method_22_code 178 = .ok (.getfield 116, 3) by decide +kernel) rfl (SGn hS (by decide)) (SGk hS rfl) (by decide) rfl ?_
      refine Ev_bipush (v := 41) hq_133 (show decode prog_7_method_22_code 181 = .ok (.bipush 41, 2) by decide +kernel) (by decide) ?_
      refine Ev_icmp_ne (tgt := 229) hq_133 (show decode prog_7_method_22_code 183 = .ok (.if_icmp .ne 46, 3) by decide +kernel) (by decide) (fun c5 => ?_) (fun c5 => ?_)
      · have k := k.1 c5
        refine Ev_aload_n hq_133 (show decode prog_7_method_22_code 229 = .ok (.aload_n 0, 1) by decide +kernel) rfl ?_
        refine Ev_virt (as := []) hq_133 (show decode prog_7_method_22_code 230 = .ok (.invokevirtual 156, 3) by decide +kernel) rfl hq_139 rfl (z_le rfl) ⟨(SGn hS (by decide)), (SGk hS rfl), by decide⟩ (c_Z_signOf hS ) ?_
        obtain ⟨y6, ey6⟩ : ∃ y6 : Int32, y6 = (f_Z_signOf I1 ) := ⟨_, rfl⟩
        have k := k y6 ey6
        rw [← ey6]
        refine Ev_istore_n (lo2 := [.ref 57, .int x1, .int x2, .int y6]) hq_133 (show decode prog_7_method_22_code 233 = .ok (.istore_n 3, 1) by decide +kernel) (z_le rfl) rfl ?_
        refine Ev_iload_n hq_133 (show decode prog_7_method_22_code 234 = .ok (.iload_n 3, 1) by decide +kernel) rfl ?_
        refine Ev_iconst (v := (-1)) hq_133 (show decode prog_7_method_22_code 235 = .ok (.iconst (-1), 1) by decide +kernel) (by decide) ?_
        refine Ev_icmp_eq (tgt := 247) hq_133 (show decode prog_7_method_22_code 236 = .ok (.if_icmp .eq 11, 3) by decide +kernel) (by decide) (fun c7 => ?_) (fun c7 => ?_)
        · have k := k.1 c7
          refine Ev_iconst (v := 0) hq_133 (show decode prog_7_method_22_code 247 = .ok (.iconst 0, 1) by decide +kernel) (by decide) ?_
          exact Ev_iret hq_133 (show decode prog_7_method_22_code 248 = .ok (.ireturn, 1) by decide +kernel) rfl k
        · have k := k.2 c7
          refine Ev_aload_n hq_133 (show decode prog_7_method_22_code 239 = .ok (.aload_n 0, 1) by decide +kernel) rfl ?_
          refine Ev_iload_n hq_133 (show decode prog_7_method_22_code 240 = .ok (.iload_n 3, 1) by decide +kernel) rfl ?_
          obtain ⟨r10, I8, h9, k⟩ := k
          refine Ev_virt (as := [.int y6]) hq_133 (show decode prog_7_method_22_code 241 = .ok (.invokevirtual 159, 3) by decide +kernel) rfl hq_140 rfl (z_le rfl) ⟨(SGn hS (by decide)), (SGk hS rfl), by decide⟩ h9 ?_
          refine Ev_if_ne (tgt := 249) hq_133 (show decode prog_7_method_22_code 244 = .ok (.ifCond .ne 5, 3) by decide +kernel) (by decide) (fun c11 => ?_) (fun c11 => ?_)
          · have k := k.1 c11
            refine Ev_iconst (v := 1) hq_133 (show decode prog_7_method_22_code 249 = .ok (.iconst 1, 1) by decide +kernel) (by decide) ?_
            refine Ev_istore_n (lo2 := [.ref 57, .int 1, .int x2, .int y6]) hq_133 (show decode prog_7_method_22_code 250 = .ok (.istore_n 1, 1) by decide +kernel) (z_le rfl) rfl ?_
            refine Ev_iload_n hq_133 (show decode prog_7_method_22_code 251 = .ok (.iload_n 3, 1) by decide +kernel) rfl ?_
            refine Ev_bipush (v := 12) hq_133 (show decode prog_7_method_22_code 252 = .ok (.bipush 12, 2) by decide +kernel) (by decide) ?_
            refine Ev_icmp_gt (tgt := 261) hq_133 (show decode prog_7_method_22_code 254 = .ok (.if_icmp .gt 7, 3) by decide +kernel) (by decide) (fun c12 => ?_) (fun c12 => ?_)
            · have k := k.1 c12
              refine Ev_iconst (v := 0) hq_133 (show decode prog_7_method_22_code 261 = .ok (.iconst 0, 1) by decide +kernel) (by decide) ?_
              refine Ev_istore_n (lo2 := [.ref 57, .int 1, .int 0, .int y6]) hq_133 (show decode prog_7_method_22_code 262 = .ok (.istore_n 2, 1) by decide +kernel) (z_le rfl) rfl ?_
              refine Ev_goto (tgt := 14) hq_133 (show decode prog_7_method_22_code 263 = .ok (.goto (-249), 3) by decide +kernel) (by decide) ?_
              exact k
            · have k := k.2 c12
              refine Ev_iconst (v := 1) hq_133 (show decode prog_7_method_22_code 257 = .ok (.iconst 1, 1) by decide +kernel) (by decide) ?_
              refine Ev_goto (tgt := 262) hq_133 (show decode prog_7_method_22_code 258 = .ok (.goto 4, 3) by decide +kernel) (by decide) ?_
              refine Ev_istore_n (lo2 := [.ref 57, .int 1, .int 1, .int y6]) hq_133 (show decode prog_7_method_22_code 262 = .ok (.istore_n 2, 1) by decide +kernel) (z_le rfl) rfl ?_
              refine Ev_goto (tgt := 14) hq_133 (show decode prog_7_method_22_code 263 = .ok (.goto (-249), 3) by decide +kernel) (by decide) ?_
              exact k
          · have k := k.2 (Classical.not_not.mp c11)
            refine Ev_iconst (v := 0) hq_133 (show decode prog_7_method_22_code 247 = .ok (.iconst 0, 1) by decide +kernel) (by decide) ?_
            exact Ev_iret hq_133 (show decode prog_7_method_22_code 248 = .ok (.ireturn, 1) by decide +kernel) rfl k
      · have k := k.2 (Classical.not_not.mp c5)
        refine Ev_aload_n hq_133 (show decode prog_7_method_22_code 186 = .ok (.aload_n 0, 1) by decide +kernel) rfl ?_
        refine Ev_iconst (v := 1) hq_133 (show decode prog_7_method_22_code 187 = .ok (.iconst 1, 1) by decide +kernel) (by decide) ?_
        obtain ⟨I13, h14, k⟩ := k
        refine Ev_virt (as := [.int 1]) hq_133 (show decode prog_7_method_22_code 188 = .ok (.invokevirtual 146, 3) by decide +kernel) rfl hq_135 rfl (z_le rfl) ⟨(SGn hS (by decide)), (SGk hS rfl), by decide⟩ h14 ?_
        refine Ev_aload_n hq_133 (show decode prog_7_method_22_code 191 = .ok (.aload_n 0, 1) by decide +kernel) rfl ?_
        refine Ev_getI hq_133 (show decode prog_7_method_22_code 192 = .ok (.getfield 129, 3) by decide +kernel) rfl (SGn hS (by decide)) (SGk hS rfl) (by decide) rfl ?_
        refine Ev_if_ne (tgt := 200) hq_133 (show decode prog_7_method_22_code 195 = .ok (.ifCond .ne 5, 3) by decide +kernel) (by decide) (fun c15 => ?_) (fun c15 => ?_)
        · have k := k.1 c15
          refine Ev_aload_n hq_133 (show decode prog_7_method_22_code 200 = .ok (.aload_n 0, 1) by decide +kernel) rfl ?_
          refine Ev_dup hq_133 (show decode prog_7_method_22_code 201 = .ok (.dup, 1) by decide +kernel) rfl ?_
          refine Ev_getI hq_133 (show decode prog_7_method_22_code 202 = .ok (.getfield 129, 3) by decide +kernel) rfl (SGn hS (by decide)) (SGk hS rfl) (by decide) rfl ?_
          refine Ev_iconst (v := 1) hq_133 (show decode prog_7_method_22_code 205 = .ok (.iconst 1, 1) by decide +kernel) (by decide) ?_
          refine Ev_isub hq_133 (show decode prog_7_method_22_code 206 = .ok (.isub, 1) by decide +kernel) ?_
          refine Ev_putI hq_133 (show decode prog_7_method_22_code 207 = .ok (.putfield 129, 3) by decide +kernel) rfl (SGn hS (by decide)) (SGk hS rfl) (by decide) (by decide) rfl (fun hz => by cases hz) ?_
          obtain ⟨I16, eI16⟩ : ∃ I16 : zI, I16 = z_up I13 57 24 ((I13 57 24) - 1) := ⟨_, rfl⟩
          have k := k I16 eI16
          rw [← eI16]
          refine Ev_aload_n hq_133 (show decode prog_7_method_22_code 210 = .ok (.aload_n 0, 1) by decide +kernel) rfl ?_
          refine Ev_dup hq_133 (show decode prog_7_method_22_code 211 = .ok (.dup, 1) by decide +kernel) rfl ?_
          refine Ev_getI hq_133 (show decode prog_7_method_22_code 212 = .ok (.getfield 136, 3) by decide +kernel) rfl (SGn hS (by decide)) (SGk hS rfl) (by decide) rfl ?_
          refine Ev_iconst (v := 1) hq_133 (show decode prog_7_method_22_code 215 = .ok (.iconst 1, 1) by decide +kernel) (by decide) ?_
          refine Ev_isub hq_133 (show decode prog_7_method_22_code 216 = .ok (.isub, 1) by decide +kernel) ?_
          refine Ev_putI hq_133 (show decode prog_7_method_22_code 217 = .ok (.putfield 136, 3) by decide +kernel) rfl (SGn hS (by decide)) (SGk hS rfl) (by decide) (by decide) rfl (fun hz => by cases hz) ?_
          obtain ⟨I17, eI17⟩ : ∃ I17 : zI, I17 = z_up I16 57 25 ((I16 57 25) - 1) := ⟨_, rfl⟩
          have k := k I17 eI17
          rw [← eI17]
          refine Ev_aload_n hq_133 (show decode prog_7_method_22_code 220 = .ok (.aload_n 0, 1) by decide +kernel) rfl ?_
          refine Ev_bipush (v := 7) hq_133 (show decode prog_7_method_22_code 221 = .ok (.bipush 7, 2) by decide +kernel) (by decide) ?_
          obtain ⟨I18, h19, k⟩ := k
          refine Ev_virt (as := [.int 7]) hq_133 (show decode prog_7_method_22_code 223 = .ok (.invokevirtual 146, 3) by decide +kernel) rfl hq_135 rfl (z_le rfl) ⟨(SGn hS (by decide)), (SGk hS rfl), by decide⟩ h19 ?_
          refine Ev_goto (tgt := 14) hq_133 (show decode prog_7_method_22_code 226 = .ok (.goto (-212), 3) by decide +kernel) (by decide) ?_
          exact k
        · have k := k.2 (Classical.not_not.mp c15)
          refine Ev_iconst (v := 0) hq_133 (show decode prog_7_method_22_code 198 = .ok (.iconst 0, 1) by decide +kernel) (by decide) ?_
          exact Ev_iret hq_133 (show decode prog_7_method_22_code 199 = .ok (.ireturn, 1) by decide +kernel) rfl k
    · have k := k.2 (Classical.not_not.mp c4)
      refine Ev_aload_n hq_133 (show decode prog_7_method_22_code 159 = .ok (.aload_n 0, 1) by decide +kernel) rfl ?_
      refine Ev_iconst (v := 1) hq_133 (show decode prog_7_method_22_code 160 = .ok (.iconst 1, 1) by decide +kernel) (by decide) ?_
      obtain ⟨I20, h21, k⟩ := k
      refine Ev_virt (as := [.int 1]) hq_133 (show decode prog_7_method_22_code 161 = .ok (.invokevirtual 146, 3) by decide +kernel) rfl hq_135 rfl (z_le rfl) ⟨(SGn hS (by decide)), (SGk hS rfl), by decide⟩ h21 ?_
      refine Ev_aload_n hq_133 (show decode prog_7_method_22_code 164 = .ok (.aload_n 0, 1) by decide +kernel) rfl ?_
      refine Ev_getI hq_133 (show decode prog_7_method_22_code 165 = .ok (.getfield 129, 3) by decide +kernel) rfl (SGn hS (by decide)) (SGk hS rfl) (by decide) rfl ?_
      refine Ev_if_ne (tgt := 175) hq_133 (show decode prog_7_method_22_code 168 = .ok (.ifCond .ne 7, 3) by decide +kernel) (by decide) (fun c22 => ?_) (fun c22 => ?_)
      · have k := k.1 c22
        refine Ev_iconst (v := 0) hq_133 (show decode prog_7_method_22_code 175 = .ok (.iconst 0, 1) by decide +kernel) (by decide) ?_
        exact Ev_iret hq_133 (show decode prog_7_method_22_code 176 = .ok (.ireturn, 1) by decide +kernel) rfl k
      · have k := k.2 (Classical.not_not.mp c22)
        refine Ev_iconst (v := 1) hq_133 (show decode prog_7_method_22_code 171 = .ok (.iconst 1, 1) by decide +kernel) (by decide) ?_
        refine Ev_goto (tgt := 176) hq_133 (show decode prog_7_method_22_code 172 = .ok (.goto 4, 3) by decide +kernel) (by decide) ?_
        exact Ev_iret hq_133 (show decode prog_7_method_22_code 176 = .ok (.ireturn, 1) by decide +kernel) rfl k
  · have k := k.2 c3
    refine Ev_aload_n hq_133 (show decode prog_7_method_22_code 22 = .ok (.aload_n 0, 1) by decide +kernel) rfl ?_
    refine Ev_getI hq_133 (show decode prog_7_method_22_code 23 = .ok (.getfield 116, 3) by decide +kernel) rfl (SGn hS (by decide)) (SGk hS rfl) (by decide) rfl ?_
    refine Ev_iconst (v := 1) hq_133 (show decode prog_7_method_22_code 26 = .ok (.iconst 1, 1) by decide +kernel) (by decide) ?_
    refine Ev_icmp_eq (tgt := 38) hq_133 (show decode prog_7_method_22_code 27 = .ok (.if_icmp .eq 11, 3) by decide +kernel) (by decide) (fun c23 => ?_) (fun c23 => ?_)
    · have k := k.1 c23
      refine Ev_aload_n hq_133 (show decode prog_7_method_22_code 38 = .ok (.aload_n 0, 1) by decide +kernel) rfl ?_
      refine Ev_aload_n hq_133 (show decode prog_7_method_22_code 39 = .ok (.aload_n 0, 1) by decide +kernel) rfl ?_
      refine Ev_getI hq_133 (show decode prog_7_method_22_code 40 = .ok (.getfield 116, 3) by decide +kernel) rfl (SGn hS (by decide)) (SGk hS rfl) (by decide) rfl ?_
      refine Ev_iconst (v := 1) hq_133 (show decode prog_7_method_22_code 43 = .ok (.iconst 1, 1) by decide +kernel) (by decide) ?_
      refine Ev_icmp_ne (tgt := 57) hq_133 (show decode prog_7_method_22_code 44 = .ok (.if_icmp .ne 13, 3) by decide +kernel) (by decide) (fun c24 => ?_) (fun c24 => ?_)
      · have k := k.1 c24
        refine Ev_aload_n hq_133 (show decode prog_7_method_22_code 57 = .ok (.aload_n 0, 1) by decide +kernel) rfl ?_
        refine Ev_getI hq_133 (show decode prog_7_method_22_code 58 = .ok (.getfield 119, 3) by decide +kernel) rfl (SGn hS (by decide)) (SGk hS rfl) (by decide) rfl ?_
        obtain ⟨I25, h26, k⟩ := k
        refine Ev_virt (as := [.int (I1 57 21)]) hq_133 (show decode prog_7_method_22_code 61 = .ok (.invokevirtual 139, 3) by decide +kernel) rfl hq_134 rfl (z_le rfl) ⟨(SGn hS (by decide)), (SGk hS rfl), by decide⟩ h26 ?_
        refine Ev_aload_n hq_133 (show decode prog_7_method_22_code 64 = .ok (.aload_n 0, 1) by decide +kernel) rfl ?_
        refine Ev_bipush (v := 7) hq_133 (show decode prog_7_method_22_code 65 = .ok (.bipush 7, 2) by decide +kernel) (by decide) ?_
        obtain ⟨I27, h28, k⟩ := k
        refine Ev_virt (as := [.int 7]) hq_133 (show decode prog_7_method_22_code 67 = .ok (.invokevirtual 146, 3) by decide +kernel) rfl hq_135 rfl (z_le rfl) ⟨(SGn hS (by decide)), (SGk hS rfl), by decide⟩ h28 ?_
        refine Ev_iconst (v := 0) hq_133 (show decode prog_7_method_22_code 70 = .ok (.iconst 0, 1) by decide +kernel) (by decide) ?_
        refine Ev_istore_n (lo2 := [.ref 57, .int 0, .int x2, v3]) hq_133 (show decode prog_7_method_22_code 71 = .ok (.istore_n 1, 1) by decide +kernel) (z_le rfl) rfl ?_
        refine Ev_goto (tgt := 14) hq_133 (show decode prog_7_method_22_code 72 = .ok (.goto (-58), 3) by decide +kernel) (by decide) ?_
        exact k
      · have k := k.2 (Classical.not_not.mp c24)
        refine Ev_ldc (v := 100000) hq_133 (show decode prog_7_method_22_code 47 = .ok (.ldc 152, 2) by decide +kernel) rfl ?_
        refine Ev_aload_n hq_133 (show decode prog_7_method_22_code 49 = .ok (.aload_n 0, 1) by decide +kernel) rfl ?_
        refine Ev_getI hq_133 (show decode prog_7_method_22_code 50 = .ok (.getfield 119, 3) by decide +kernel) rfl (SGn hS (by decide)) (SGk hS rfl) (by decide) rfl ?_
        refine Ev_iadd hq_133 (show decode prog_7_method_22_code 53 = .ok (.iadd, 1) by decide +kernel) ?_
        refine Ev_goto (tgt := 61) hq_133 (show decode prog_7_method_22_code 54 = .ok (.goto 7, 3) by decide +kernel) (by decide) ?_
        obtain ⟨I29, h30, k⟩ := k
        refine Ev_virt (as := [.int (100000 + (I1 57 21))]) hq_133 (show decode prog_7_method_22_code 61 = .ok (.invokevirtual 139, 3) by decide +kernel) rfl hq_134 rfl (z_le rfl) ⟨(SGn hS (by decide)), (SGk hS rfl), by decide⟩ h30 ?_
        refine Ev_aload_n hq_133 (show decode prog_7_method_22_code 64 = .ok (.aload_n 0, 1) by decide +kernel) rfl ?_
        refine Ev_bipush (v := 7) hq_133 (show decode prog_7_method_22_code 65 = .ok (.bipush 7, 2) by decide +kernel) (by decide) ?_
        obtain ⟨I31, h32, k⟩ := k
        refine Ev_virt (as := [.int 7]) hq_133 (show decode prog_7_method_22_code 67 = .ok (.invokevirtual 146, 3) by decide +kernel) rfl hq_135 rfl (z_le rfl) ⟨(SGn hS (by decide)), (SGk hS rfl), by decide⟩ h32 ?_
        refine Ev_iconst (v := 0) hq_133 (show decode prog_7_method_22_code 70 = .ok (.iconst 0, 1) by decide +kernel) (by decide) ?_
        refine Ev_istore_n (lo2 := [.ref 57, .int 0, .int x2, v3]) hq_133 (show decode prog_7_method_22_code 71 = .ok (.istore_n 1, 1) by decide +kernel) (z_le rfl) rfl ?_
        refine Ev_goto (tgt := 14) hq_133 (show decode prog_7_method_22_code 72 = .ok (.goto (-58), 3) by decide +kernel) (by decide) ?_
        exact k
    · have k := k.2 c23
      refine Ev_aload_n hq_133 (show decode prog_7_method_22_code 30 = .ok (.aload_n 0, 1) by decide +kernel) rfl ?_
      refine Ev_getI hq_133 (show decode prog_7_method_22_code 31 = .ok (.getfield 116, 3) by decide +kernel) rfl (SGn hS (by decide)) (SGk hS rfl) (by decide) rfl ?_
      refine Ev_iconst (v := 2) hq_133 (show decode prog_7_method_22_code 34 = .ok (.iconst 2, 1) by decide +kernel) (by decide) ?_
      refine Ev_icmp_ne (tgt := 75) hq_133 (show decode prog_7_method_22_code 35 = .ok (.if_icmp .ne 40, 3) by decide +kernel) (by decide) (fun c33 => ?_) (fun c33 => ?_)
      · have k := k.1 c33
        refine Ev_aload_n hq_133 (show decode prog_7_method_22_code 75 = .ok (.aload_n 0, 1) by decide +kernel) rfl ?_
        refine Ev_getI hq_133 (show decode prog_7_method_22_code 76 = .ok (.getfield 116, 3) by decide +kernel) rfl (SGn hS (by decide)) (SGk hS rfl) (by decide) rfl ?_
        refine Ev_bipush (v := 6) hq_133 (show decode prog_7_method_22_code 79 = .ok (.bipush 6, 2) by decide +kernel) (by decide) ?_
        refine Ev_icmp_ne (tgt := 99) hq_133 (show decode prog_7_method_22_code 81 = .ok (.if_icmp .ne 18, 3) by decide +kernel) (by decide) (fun c34 => ?_) (fun c34 => ?_)
        · have k := k.1 c34
          refine Ev_aload_n hq_133 (show decode prog_7_method_22_code 99 = .ok (.aload_n 0, 1) by decide +kernel) rfl ?_
          refine Ev_getI hq_133 (show decode prog_7_method_22_code 100 = .ok (.getfield 116, 3) by decide +kernel) rfl (SGn hS (by decide)) (SGk hS rfl) (by decide) rfl ?_
          refine Ev_bipush (v := 45) hq_133 (show decode prog_7_method_22_code 103 = .ok (.bipush 45, 2) by decide +kernel) (by decide) ?_
          refine Ev_icmp_ne (tgt := 124) hq_133 (show decode prog_7_method_22_code 105 = .ok (.if_icmp .ne 19, 3) by decide +kernel) (by decide) (fun c35 => ?_) (fun c35 => ?_)
          · have k := k.1 c35
            refine Ev_aload_n hq_133 (show decode prog_7_method_22_code 124 = .ok (.aload_n 0, 1) by decide +kernel) rfl ?_
            refine Ev_getI hq_133 (show decode prog_7_method_22_code 125 = .ok (.getfield 116, 3) by decide +kernel) rfl (SGn hS (by decide)) (SGk hS rfl) (by decide) rfl ?_
            refine Ev_bipush (v := 40) hq_133 (show decode prog_7_method_22_code 128 = .ok (.bipush 40, 2) by decide +kernel) (by decide) ?_
            refine Ev_icmp_ne (tgt := 148) hq_133 (show decode prog_7_method_22_code 130 = .ok (.if_icmp .ne 18, 3) by decide +kernel) (by decide) (fun c36 => ?_) (fun c36 => ?_)
            · have k := k.1 c36
              refine Ev_iconst (v := 0) hq_133 (show decode prog_7_method_22_code 148 = .ok (.iconst 0, 1) by decide +kernel) (by decide) ?_
              exact Ev_iret hq_133 (show decode prog_7_method_22_code 149 = .ok (.ireturn, 1) by decide +kernel) rfl k
            · have k := k.2 (Classical.not_not.mp c36)
              refine Ev_aload_n hq_133 (show decode prog_7_method_22_code 133 = .ok (.aload_n 0, 1) by decide +kernel) rfl ?_
              refine Ev_iconst (v := 0) hq_133 (show decode prog_7_method_22_code 134 = .ok (.iconst 0, 1) by decide +kernel) (by decide) ?_
              obtain ⟨r39, I37, h38, k⟩ := k
              refine Ev_virt (as := [.int 0]) hq_133 (show decode prog_7_method_22_code 135 = .ok (.invokevirtual 153, 3) by decide +kernel) rfl hq_137 rfl (z_le rfl) ⟨(SGn hS (by decide)), (SGk hS rfl), by decide⟩ h38 ?_
              refine Ev_if_ne (tgt := 143) hq_133 (show decode prog_7_method_22_code 138 = .ok (.ifCond .ne 5, 3) by decide +kernel) (by decide) (fun c40 => ?_) (fun c40 => ?_)
              · have k := k.1 c40
                refine Ev_iconst (v := 1) hq_133 (show decode prog_7_method_22_code 143 = .ok (.iconst 1, 1) by decide +kernel) (by decide) ?_
                refine Ev_istore_n (lo2 := [.ref 57, .int x1, .int 1, v3]) hq_133 (show decode prog_7_method_22_code 144 = .ok (.istore_n 2, 1) by decide +kernel) (z_le rfl) rfl ?_
                refine Ev_goto (tgt := 14) hq_133 (show decode prog_7_method_22_code 145 = .ok (.goto (-131), 3) by decide +kernel) (by decide) ?_
                exact k
              · have k := k.2 (Classical.not_not.mp c40)
                refine Ev_iconst (v := 0) hq_133 (show decode prog_7_method_22_code 141 = .ok (.iconst 0, 1) by decide +kernel) (by decide) ?_
                exact Ev_iret hq_133 (show decode prog_7_method_22_code 142 = .ok (.ireturn, 1) by decide +kernel) rfl k
          · have k := k.2 (Classical.not_not.mp c35)
            refine Ev_aload_n hq_133 (show decode prog_7_method_22_code 108 = .ok (.aload_n 0, 1) by decide +kernel) rfl ?_
            refine Ev_bipush (v := 19) hq_133 (show decode prog_7_method_22_code 109 = .ok (.bipush 19, 2) by decide +kernel) (by decide) ?_
            obtain ⟨r43, I41, h42, k⟩ := k
            refine Ev_virt (as := [.int 19]) hq_133 (show decode prog_7_method_22_code 111 = .ok (.invokevirtual 153, 3) by decide +kernel) rfl hq_137 rfl (z_le rfl) ⟨(SGn hS (by decide)), (SGk hS rfl), by decide⟩ h42 ?_
            refine Ev_if_ne (tgt := 119) hq_133 (show decode prog_7_method_22_code 114 = .ok (.ifCond .ne 5, 3) by decide +kernel) (by decide) (fun c44 => ?_) (fun c44 => ?_)
            · have k := k.1 c44
              refine Ev_iconst (v := 0) hq_133 (show decode prog_7_method_22_code 119 = .ok (.iconst 0, 1) by decide +kernel) (by decide) ?_
              refine Ev_istore_n (lo2 := [.ref 57, .int x1, .int 0, v3]) hq_133 (show decode prog_7_method_22_code 120 = .ok (.istore_n 2, 1) by decide +kernel) (z_le rfl) rfl ?_
              refine Ev_goto (tgt := 14) hq_133 (show decode prog_7_method_22_code 121 = .ok (.goto (-107), 3) by decide +kernel) (by decide) ?_
              exact k
            · have k := k.2 (Classical.not_not.mp c44)
              refine Ev_iconst (v := 0) hq_133 (show decode prog_7_method_22_code 117 = .ok (.iconst 0, 1) by decide +kernel) (by decide) ?_
              exact Ev_iret hq_133 (show decode prog_7_method_22_code 118 = .ok (.ireturn, 1) by decide +kernel) rfl k
        · have k := k.2 (Classical.not_not.mp c34)
          refine Ev_iload_n hq_133 (show decode prog_7_method_22_code 84 = .ok (.iload_n 2, 1) by decide +kernel) rfl ?_
          refine Ev_if_eq (tgt := 99) hq_133 (show decode prog_7_method_22_code 85 = .ok (.ifCond .eq 14, 3) by decide +kernel) (by decide) (fun c45 => ?_) (fun c45 => ?_)
          · have k := k.1 c45
            refine Ev_aload_n hq_133 (show decode prog_7_method_22_code 99 = .ok (.aload_n 0, 1) by decide +kernel) rfl ?_
            refine Ev_getI hq_133 (show decode prog_7_method_22_code 100 = .ok (.getfield 116, 3) by decide +kernel) rfl (SGn hS (by decide)) (SGk hS rfl) (by decide) rfl ?_
            refine Ev_bipush (v := 45) hq_133 (show decode prog_7_method_22_code 103 = .ok (.bipush 45, 2) by decide +kernel) (by decide) ?_
            refine Ev_icmp_ne (tgt := 124) hq_133 (show decode prog_7_method_22_code 105 = .ok (.if_icmp .ne 19, 3) by decide +kernel) (by decide) (fun c46 => ?_) (fun c46 => ?_)
            · have k := k.1 c46
              refine Ev_aload_n hq_133 (show decode prog_7_method_22_code 124 = .ok (.aload_n 0, 1) by decide +kernel) rfl ?_
              refine Ev_getI hq_133 (show decode prog_7_method_22_code 125 = .ok (.getfield 116, 3) by decide +kernel) rfl (SGn hS (by decide)) (SGk hS rfl) (by decide) rfl ?_
              refine Ev_bipush (v := 40) hq_133 (show decode prog_7_method_22_code 128 = .ok (.bipush 40, 2) by decide +kernel) (by decide) ?_
              refine Ev_icmp_ne (tgt := 148) hq_133 (show decode prog_7_method_22_code 130 = .ok (.if_icmp .ne 18, 3) by decide +kernel) (by decide) (fun c47 => ?_) (fun c47 => ?_)
              · have k := k.1 c47
                refine Ev_iconst (v := 0) hq_133 (show decode prog_7_method_22_code 148 = .ok (.iconst 0, 1) by decide +kernel) (by decide) ?_
                exact Ev_iret hq_133 (show decode prog_7_method_22_code 149 = .ok (.ireturn, 1) by decide +kernel) rfl k
              · have k := k.2 (Classical.not_not.mp c47)
                refine Ev_aload_n hq_133 (show decode prog_7_method_22_code 133 = .ok (.aload_n 0, 1) by decide +kernel) rfl ?_
                refine Ev_iconst (v := 0) hq_133 (show decode prog_7_method_22_code 134 = .ok (.iconst 0, 1) by decide +kernel) (by decide) ?_
                obtain ⟨r50, I48, h49, k⟩ := k
                refine Ev_virt (as := [.int 0]) hq_133 (show decode prog_7_method_22_code 135 = .ok (.invokevirtual 153, 3) by decide +kernel) rfl hq_137 rfl (z_le rfl) ⟨(SGn hS (by decide)), (SGk hS rfl), by decide⟩ h49 ?_
                refine Ev_if_ne (tgt := 143) hq_133 (show decode prog_7_method_22_code 138 = .ok (.ifCond .ne 5, 3) by decide +kernel) (by decide) (fun c51 => ?_) (fun c51 => ?_)
                · have k := k.1 c51
                  refine Ev_iconst (v := 1) hq_133 (show decode prog_7_method_22_code 143 = .ok (.iconst 1, 1) by decide +kernel) (by decide) ?_
                  refine Ev_istore_n (lo2 := [.ref 57, .int x1, .int 1, v3]) hq_133 (show decode prog_7_method_22_code 144 = .ok (.istore_n 2, 1) by decide +kernel) (z_le rfl) rfl ?_
                  refine Ev_goto (tgt := 14) hq_133 (show decode prog_7_method_22_code 145 = .ok (.goto (-131), 3) by decide +kernel) (by decide) ?_
                  exact k
                · have k := k.2 (Classical.not_not.mp c51)
                  refine Ev_iconst (v := 0) hq_133 (show decode prog_7_method_22_code 141 = .ok (.iconst 0, 1) by decide +kernel) (by decide) ?_
                  exact Ev_iret hq_133 (show decode prog_7_method_22_code 142 = .ok (.ireturn, 1) by decide +kernel) rfl k
            · have k := k.2 (Classical.not_not.mp c46)
              refine Ev_aload_n hq_133 (show decode prog_7_method_22_code 108 = .ok (.aload_n 0, 1) by decide +kernel) rfl ?_
              refine Ev_bipush (v := 19) hq_133 (show decode prog_7_method_22_code 109 = .ok (.bipush 19, 2) by decide +kernel) (by decide) ?_
              obtain ⟨r54, I52, h53, k⟩ := k
              refine Ev_virt (as := [.int 19]) hq_133 (show decode prog_7_method_22_code 111 = .ok (.invokevirtual 153, 3) by decide +kernel) rfl hq_137 rfl (z_le rfl) ⟨(SGn hS (by decide)), (SGk hS rfl), by decide⟩ h53 ?_
              refine Ev_if_ne (tgt := 119) hq_133 (show decode prog_7_method_22_code 114 = .ok (.ifCond .ne 5, 3) by decide +kernel) (by decide) (fun c55 => ?_) (fun c55 => ?_)
              · have k := k.1 c55
                refine Ev_iconst (v := 0) hq_133 (show decode prog_7_method_22_code 119 = .ok (.iconst 0, 1) by decide +kernel) (by decide) ?_
                refine Ev_istore_n (lo2 := [.ref 57, .int x1, .int 0, v3]) hq_133 (show decode prog_7_method_22_code 120 = .ok (.istore_n 2, 1) by decide +kernel) (z_le rfl) rfl ?_
                refine Ev_goto (tgt := 14) hq_133 (show decode prog_7_method_22_code 121 = .ok (.goto (-107), 3) by decide +kernel) (by decide) ?_
                exact k
              · have k := k.2 (Classical.not_not.mp c55)
                refine Ev_iconst (v := 0) hq_133 (show decode prog_7_method_22_code 117 = .ok (.iconst 0, 1) by decide +kernel) (by decide) ?_
                exact Ev_iret hq_133 (show decode prog_7_method_22_code 118 = .ok (.ireturn, 1) by decide +kernel) rfl k
          · have k := k.2 c45
            refine Ev_aload_n hq_133 (show decode prog_7_method_22_code 88 = .ok (.aload_n 0, 1) by decide +kernel) rfl ?_
            refine Ev_bipush (v := 13) hq_133 (show decode prog_7_method_22_code 89 = .ok (.bipush 13, 2) by decide +kernel) (by decide) ?_
            obtain ⟨r58, I56, h57, k⟩ := k
            refine Ev_virt (as := [.int 13]) hq_133 (show decode prog_7_method_22_code 91 = .ok (.invokevirtual 153, 3) by decide +kernel) rfl hq_137 rfl (z_le rfl) ⟨(SGn hS (by decide)), (SGk hS rfl), by decide⟩ h57 ?_
            refine Ev_if_ne (tgt := 14) hq_133 (show decode prog_7_method_22_code 94 = .ok (.ifCond .ne (-80), 3) by decide +kernel) (by decide) (fun c59 => ?_) (fun c59 => ?_)
            · have k := k.1 c59
              exact k
            · have k := k.2 (Classical.not_not.mp c59)
              refine Ev_iconst (v := 0) hq_133 (show decode prog_7_method_22_code 97 = .ok (.iconst 0, 1) by decide +kernel) (by decide) ?_
              exact Ev_iret hq_133 (show decode prog_7_method_22_code 98 = .ok (.ireturn, 1) by decide +kernel) rfl k
      · have k := k.2 (Classical.not_not.mp c33)
        refine Ev_aload_n hq_133 (show decode prog_7_method_22_code 38 = .ok (.aload_n 0, 1) by decide +kernel) rfl ?_
        refine Ev_aload_n hq_133 (show decode prog_7_method_22_code 39 = .ok (.aload_n 0, 1) by decide +kernel) rfl ?_
        refine Ev_getI hq_133 (show decode prog_7_method_22_code 40 = .ok (.getfield 116, 3) by decide +kernel) rfl (SGn hS (by decide)) (SGk hS rfl) (by decide) rfl ?_
        refine Ev_iconst (v := 1) hq_133 (show decode prog_7_method_22_code 43 = .ok (.iconst 1, 1) by decide +kernel) (by decide) ?_
        refine Ev_icmp_ne (tgt := 57) hq_133 (show decode prog_7_method_22_code 44 = .ok (.if_icmp .ne 13, 3) by decide +kernel) (by decide) (fun c60 => ?_) (fun c60 => ?_)
        · have k := k.1 c60
          refine Ev_aload_n hq_133 (show decode prog_7_method_22_code 57 = .ok (.aload_n 0, 1) by decide +kernel) rfl ?_
          refine Ev_getI hq_133 (show decode prog_7_method_22_code 58 = .ok (.getfield 119, 3) by decide +kernel) rfl (SGn hS (by decide)) (SGk hS rfl) (by decide) rfl ?_
          obtain ⟨I61, h62, k⟩ := k
          refine Ev_virt (as := [.int (I1 57 21)]) hq_133 (show decode prog_7_method_22_code 61 = .ok (.invokevirtual 139, 3) by decide +kernel) rfl hq_134 rfl (z_le rfl) ⟨(SGn hS (by decide)), (SGk hS rfl), by decide⟩ h62 ?_
          refine Ev_aload_n hq_133 (show decode prog_7_method_22_code 64 = .ok (.aload_n 0, 1) by decide +kernel) rfl ?_
          refine Ev_bipush (v := 7) hq_133 (show decode prog_7_method_22_code 65 = .ok (.bipush 7, 2) by decide +kernel) (by decide) ?_
          obtain ⟨I63, h64, k⟩ := k
          refine Ev_virt (as := [.int 7]) hq_133 (show decode prog_7_method_22_code 67 = .ok (.invokevirtual 146, 3) by decide +kernel) rfl hq_135 rfl (z_le rfl) ⟨(SGn hS (by decide)), (SGk hS rfl), by decide⟩ h64 ?_
          refine Ev_iconst (v := 0) hq_133 (show decode prog_7_method_22_code 70 = .ok (.iconst 0, 1) by decide +kernel) (by decide) ?_
          refine Ev_istore_n (lo2 := [.ref 57, .int 0, .int x2, v3]) hq_133 (show decode prog_7_method_22_code 71 = .ok (.istore_n 1, 1) by decide +kernel) (z_le rfl) rfl ?_
          refine Ev_goto (tgt := 14) hq_133 (show decode prog_7_method_22_code 72 = .ok (.goto (-58), 3) by decide +kernel) (by decide) ?_
          exact k
        · have k := k.2 (Classical.not_not.mp c60)
          refine Ev_ldc (v := 100000) hq_133 (show decode prog_7_method_22_code 47 = .ok (.ldc 152, 2) by decide +kernel) rfl ?_
          refine Ev_aload_n hq_133 (show decode prog_7_method_22_code 49 = .ok (.aload_n 0, 1) by decide +kernel) rfl ?_
          refine Ev_getI hq_133 (show decode prog_7_method_22_code 50 = .ok (.getfield 119, 3) by decide +kernel) rfl (SGn hS (by decide)) (SGk hS rfl) (by decide) rfl ?_
          refine Ev_iadd hq_133 (show decode prog_7_method_22_code 53 = .ok (.iadd, 1) by decide +kernel) ?_
          refine Ev_goto (tgt := 61) hq_133 (show decode prog_7_method_22_code 54 = .ok (.goto 7, 3) by decide +kernel) (by decide) ?_
          obtain ⟨I65, h66, k⟩ := k
          refine Ev_virt (as := [.int (100000 + (I1 57 21))]) hq_133 (show decode prog_7_method_22_code 61 = .ok (.invokevirtual 139, 3) by decide +kernel) rfl hq_134 rfl (z_le rfl) ⟨(SGn hS (by decide)), (SGk hS rfl), by decide⟩ h66 ?_
          refine Ev_aload_n hq_133 (show decode prog_7_method_22_code 64 = .ok (.aload_n 0, 1) by decide +kernel) rfl ?_
          refine Ev_bipush (v := 7) hq_133 (show decode prog_7_method_22_code 65 = .ok (.bipush 7, 2) by decide +kernel) (by decide) ?_
          obtain ⟨I67, h68, k⟩ := k
          refine Ev_virt (as := [.int 7]) hq_133 (show decode prog_7_method_22_code 67 = .ok (.invokevirtual 146, 3) by decide +kernel) rfl hq_135 rfl (z_le rfl) ⟨(SGn hS (by decide)), (SGk hS rfl), by decide⟩ h68 ?_
          refine Ev_iconst (v := 0) hq_133 (show decode prog_7_method_22_code 70 = .ok (.iconst 0, 1) by decide +kernel) (by decide) ?_
          refine Ev_istore_n (lo2 := [.ref 57, .int 0, .int x2, v3]) hq_133 (show decode prog_7_method_22_code 71 = .ok (.istore_n 1, 1) by decide +kernel) (z_le rfl) rfl ?_
          refine Ev_goto (tgt := 14) hq_133 (show decode prog_7_method_22_code 72 = .ok (.goto (-58), 3) by decide +kernel) (by decide) ?_
          exact k
set_option maxRecDepth 20000 in
theorem wp_Z_text {X : Nat × (Nat → Int32)} {d : Nat} {G : zG} {I : zI} {res : Option Value × zG × zI}  (hS : SG G) 
    (k : (¬ (I 57 8) = 6 → (∀ I2 : zI, I2 = z_up I 57 18 0 → (∀ I3 : zI, I3 = z_up I2 57 26 0 → Ev X d 129 26 [.ref 57, .int 1, .int 0] [] G I3 res))) ∧ ((I 57 8) = 6 → res = (some (.int (-4)), G, I))) :
    Ev X d 129 0 [.ref 57, zU, zU] [] G I res := by
  refine Ev_aload_n hq_129 (show decode prog_7_method_23_code 0 = .ok (.aload_n 0, 1) by decide +kernel) rfl ?_
  refine Ev_getI hq_129 (show decode prog_7_method_23_code 1 = .ok (.getfield 101, 3) by decide +kernel) rfl (SGn hS (by decide)) (SGk hS rfl) (by decide) rfl ?_
  refine Ev_bipush (v := 6) hq_129 (show decode prog_7_method_23_code 4 = .ok (.bipush 6, 2) by decide +kernel) (by decide) ?_
  refine Ev_icmp_ne (tgt := 12) hq_129 (show decode prog_7_method_23_code 6 = .ok (.if_icmp .ne 6, 3) by decide +kernel) (by decide) (fun c1 => ?_) (fun c1 => ?_)
  · have k := k.1 c1
    refine Ev_aload_n hq_129 (show decode prog_7_method_23_code 12 = .ok (.aload_n 0, 1) by decide +kernel) rfl ?_
    refine Ev_iconst (v := 0) hq_129 (show decode prog_7_method_23_code 13 = .ok (.iconst 0, 1) by decide +kernel) (by decide) ?_
    refine Ev_putI hq_129 (show decode prog_7_method_23_code 14 = .ok (.putfield 110, 3) by decide +kernel) rfl (SGn hS (by decide)) (SGk hS rfl) (by decide) (by decide) rfl (fun hz => by cases hz) ?_
    obtain ⟨I2, eI2⟩ : ∃ I2 : zI, I2 = z_up I 57 18 0 := ⟨_, rfl⟩
    have k := k I2 eI2
    rw [← eI2]
    refine Ev_aload_n hq_129 (show decode prog_7_method_23_code 17 = .ok (.aload_n 0, 1) by decide +kernel) rfl ?_
    refine Ev_iconst (v := 0) hq_129 (show decode prog_7_method_23_code 18 = .ok (.iconst 0, 1) by decide +kernel) (by decide) ?_
    refine Ev_putI hq_129 (show decode prog_7_method_23_code 19 = .ok (.putfield 126, 3) by decide +kernel) rfl (SGn hS (by decide)) (SGk hS rfl) (by decide) (by decide) rfl (fun hz => by cases hz) ?_
    obtain ⟨I3, eI3⟩ : ∃ I3 : zI, I3 = z_up I2 57 26 0 := ⟨_, rfl⟩
    have k := k I3 eI3
    rw [← eI3]
    refine Ev_iconst (v := 1) hq_129 (show decode prog_7_method_23_code 22 = .ok (.iconst 1, 1) by decide +kernel) (by decide) ?_
    refine Ev_istore_n (lo2 := [.ref 57, .int 1, zU]) hq_129 (show decode prog_7_method_23_code 23 = .ok (.istore_n 1, 1) by decide +kernel) (z_le rfl) rfl ?_
    refine Ev_iconst (v := 0) hq_129 (show decode prog_7_method_23_code 24 = .ok (.iconst 0, 1) by decide +kernel) (by decide) ?_
    refine Ev_istore_n (lo2 := [.ref 57, .int 1, .int 0]) hq_129 (show decode prog_7_method_23_code 25 = .ok (.istore_n 2, 1) by decide +kernel) (z_le rfl) rfl ?_
    exact k
  · have k := k.2 (Classical.not_not.mp c1)
    refine Ev_bipush (v := (-4)) hq_129 (show decode prog_7_method_23_code 9 = .ok (.bipush (-4), 2) by decide +kernel) (by decide) ?_
    exact Ev_iret hq_129 (show decode prog_7_method_23_code 11 = .ok (.ireturn, 1) by decide +kernel) rfl k
set_option maxRecDepth 20000 in
theorem wp_Z_text_26 {X : Nat × (Nat → Int32)} {d : Nat} {G : zG} {I : zI} {res : Option Value × zG × zI} (x1 : Int32) (x2 : Int32) (hS : SG G) 
    (k : (3 ≤ x2 → (x1 = 0 → z_inr ((4 * (I 57 8)) + 3) 24 ∧ (∀ I4 : zI, I4 = z_up I 63 ((4 * (I 57 8)) + 3).toNatClampNeg (I 57 26) → (∀ I5 : zI, I5 = z_up I4 57 5 0 → (¬ x1 = 0 → (∀ I7 : zI, I7 = z_up I5 57 8 ((I5 57 8) + 1) → res = (some (.int ((I7 57 8) - 1)), G, I7))) ∧ (x1 = 0 → res = (some (.int ((-100) - (I5 57 19))), G, I5))))) ∧ (¬ x1 = 0 → ∃ (I8 : zI), Cv X d 130 [.ref 57] G I (none, G, I8) ∧ ((¬ (I8 57 20) = 0 → z_inr ((4 * (I8 57 8)) + 3) 24 ∧ (∀ I12 : zI, I12 = z_up I8 63 ((4 * (I8 57 8)) + 3).toNatClampNeg (I8 57 26) → (∀ I13 : zI, I13 = z_up I12 57 5 0 → res = (some (.int ((-100) - (I13 57 19))), G, I13)))) ∧ ((I8 57 20) = 0 → z_inr ((4 * (I8 57 8)) + 3) 24 ∧ (∀ I15 : zI, I15 = z_up I8 63 ((4 * (I8 57 8)) + 3).toNatClampNeg (I8 57 26) → (∀ I16 : zI, I16 = z_up I15 57 5 0 → (∀ I17 : zI, I17 = z_up I16 57 8 ((I16 57 8) + 1) → res = (some (.int ((I17 57 8) - 1)), G, I17)))))))) ∧ (¬ 3 ≤ x2 → (x1 = 0 → (x1 = 0 → z_inr ((4 * (I 57 8)) + 3) 24 ∧ (∀ I21 : zI, I21 = z_up I 63 ((4 * (I 57 8)) + 3).toNatClampNeg (I 57 26) → (∀ I22 : zI, I22 = z_up I21 57 5 0 → (¬ x1 = 0 → (∀ I24 : zI, I24 = z_up I22 57 8 ((I22 57 8) + 1) → res = (some (.int ((I24 57 8) - 1)), G, I24))) ∧ (x1 = 0 → res = (some (.int ((-100) - (I22 57 19))), G, I22))))) ∧ (¬ x1 = 0 → ∃ (I25 : zI), Cv X d 130 [.ref 57] G I (none, G, I25) ∧ ((¬ (I25 57 20) = 0 → z_inr ((4 * (I25 57 8)) + 3) 24 ∧ (∀ I29 : zI, I29 = z_up I25 63 ((4 * (I25 57 8)) + 3).toNatClampNeg (I25 57 26) → (∀ I30 : zI, I30 = z_up I29 57 5 0 → res = (some (.int ((-100) - (I30 57 19))), G, I30)))) ∧ ((I25 57 20) = 0 → z_inr ((4 * (I25 57 8)) + 3) 24 ∧ (∀ I32 : zI, I32 = z_up I25 63 ((4 * (I25 57 8)) + 3).toNatClampNeg (I25 57 26) → (∀ I33 : zI, I33 = z_up I32 57 5 0 → (∀ I34 : zI, I34 = z_up I33 57 8 ((I33 57 8) + 1) → res = (some (.int ((I34 57 8) - 1)), G, I34)))))))) ∧ (¬ x1 = 0 → ∃ (I35 : zI), Cv X d 130 [.ref 57] G I (none, G, I35) ∧ ((¬ (I35 57 20) = 3 → z_inr ((4 * (I35 57 8)) + x2) 24 ∧ (∀ I39 : zI, I39 = z_up I35 63 ((4 * (I35 57 8)) + x2).toNatClampNeg (I35 57 26) → ∀ y40 : Int32, y40 = x2 + 1 → Ev X (d + 1) 129 26 [.ref 57, .int 0, .int y40] [] G I39 res)) ∧ ((I35 57 20) = 3 → (¬ (I35 57 21) = x2 → z_inr ((4 * (I35 57 8)) + x2) 24 ∧ (∀ I43 : zI, I43 = z_up I35 63 ((4 * (I35 57 8)) + x2).toNatClampNeg (I35 57 26) → ∀ y44 : Int32, y44 = x2 + 1 → Ev X (d + 1) 129 26 [.ref 57, .int 0, .int y44] [] G I43 res)) ∧ ((I35 57 21) = x2 → z_inr ((4 * (I35 57 8)) + x2) 24 ∧ (∀ I46 : zI, I46 = z_up I35 63 ((4 * (I35 57 8)) + x2).toNatClampNeg (I35 57 26) → ∃ (r49 : Int32) (I47 : zI), Cv X d 133 [.ref 57] G I46 (some (.int r49), G, I47) ∧ ((r49 = 0 → ∀ y51 : Int32, y51 = x2 + 1 → Ev X (d + 1) 129 26 [.ref 57, .int 0, .int y51] [] G I47 res) ∧ (¬ r49 = 0 → ∀ y52 : Int32, y52 = x2 + 1 → Ev X (d + 1) 129 26 [.ref 57, .int 1, .int y52] [] G I47 res))))))))) :
    Ev X (d + 1) 129 26 [.ref 57, .int x1, .int x2] [] G I res := by
  refine Ev_iload_n hq_129 (show decode prog_7_method_23_code 26 = .ok (.iload_n 2, 1) by decide +kernel) rfl ?_
  refine Ev_iconst (v := 3) hq_129 (show decode prog_7_method_23_code 27 = .ok (.iconst 3, 1) by decide +kernel) (by decide) ?_
  refine Ev_icmp_ge (tgt := 101) hq_129 (show decode prog_7_method_23_code 28 = .ok (.if_icmp .ge 73, 3) by decide +kernel) (by decide) (fun c1 => ?_) (fun c1 => ?_)
  · have k := k.1 c1
    refine Ev_iload_n hq_129 (show decode prog_7_method_23_code 101 = .ok (.iload_n 1, 1) by decide +kernel) rfl ?_
    refine Ev_if_eq (tgt := 122) hq_129 (show decode prog_7_method_23_code 102 = .ok (.ifCond .eq 20, 3) by decide +kernel) (by decide) (fun c2 => ?_) (fun c2 => ?_)
    · have k := k.1 c2
      refine Ev_aload_n hq_129 (show decode prog_7_method_23_code 122 = .ok (.aload_n 0, 1) by decide +kernel) rfl ?_
      refine Ev_getR hq_129 (show decode prog_7_method_23_code 123 = .ok (.getfield 25, 3) by decide +kernel) rfl (SGn hS (by decide)) (SGk hS rfl) (by decide) rfl (SGr hS rfl) ?_
      refine Ev_iconst (v := 4) hq_129 (show decode prog_7_method_23_code 126 = .ok (.iconst 4, 1) by decide +kernel) (by decide) ?_
      refine Ev_aload_n hq_129 (show decode prog_7_method_23_code 127 = .ok (.aload_n 0, 1) by decide +kernel) rfl ?_
      refine Ev_getI hq_129 (show decode prog_7_method_23_code 128 = .ok (.getfield 101, 3) by decide +kernel) rfl (SGn hS (by decide)) (SGk hS rfl) (by decide) rfl ?_
      refine Ev_imul hq_129 (show decode prog_7_method_23_code 131 = .ok (.imul, 1) by decide +kernel) ?_
      refine Ev_iconst (v := 3) hq_129 (show decode prog_7_method_23_code 132 = .ok (.iconst 3, 1) by decide +kernel) (by decide) ?_
      refine Ev_iadd hq_129 (show decode prog_7_method_23_code 133 = .ok (.iadd, 1) by decide +kernel) ?_
      refine Ev_aload_n hq_129 (show decode prog_7_method_23_code 134 = .ok (.aload_n 0, 1) by decide +kernel) rfl ?_
      refine Ev_getI hq_129 (show decode prog_7_method_23_code 135 = .ok (.getfield 126, 3) by decide +kernel) rfl (SGn hS (by decide)) (SGk hS rfl) (by decide) rfl ?_
      obtain ⟨h3, k⟩ := k
      refine Ev_iast hq_129 (show decode prog_7_method_23_code 138 = .ok (.iastore, 1) by decide +kernel) (SGn hS (by decide)) (SGk hS rfl) (SGi hS rfl h3) ?_
      obtain ⟨I4, eI4⟩ : ∃ I4 : zI, I4 = z_up I 63 ((4 * (I 57 8)) + 3).toNatClampNeg (I 57 26) := ⟨_, rfl⟩
      have k := k I4 eI4
      rw [← eI4]
      refine Ev_aload_n hq_129 (show decode prog_7_method_23_code 139 = .ok (.aload_n 0, 1) by decide +kernel) rfl ?_
      refine Ev_iconst (v := 0) hq_129 (show decode prog_7_method_23_code 140 = .ok (.iconst 0, 1) by decide +kernel) (by decide) ?_
      refine Ev_putI hq_129 (show decode prog_7_method_23_code 141 = .ok (.putfield 80, 3) by decide +kernel) rfl (SGn hS (by decide)) (SGk hS rfl) (by decide) (by decide) rfl (fun hz => by cases hz) ?_
      obtain ⟨I5, eI5⟩ : ∃ I5 : zI, I5 = z_up I4 57 5 0 := ⟨_, rfl⟩
      have k := k I5 eI5
      rw [← eI5]
      refine Ev_iload_n hq_129 (show decode prog_7_method_23_code 144 = .ok (.iload_n 1, 1) by decide +kernel) rfl ?_
      refine Ev_if_ne (tgt := 156) hq_129 (show decode prog_7_method_23_code 145 = .ok (.ifCond .ne 11, 3) by decide +kernel) (by decide) (fun c6 => ?_) (fun c6 => ?_)
      · have k := k.1 c6
        refine Ev_aload_n hq_129 (show decode prog_7_method_23_code 156 = .ok (.aload_n 0, 1) by decide +kernel) rfl ?_
        refine Ev_dup hq_129 (show decode prog_7_method_23_code 157 = .ok (.dup, 1) by decide +kernel) rfl ?_
        refine Ev_getI hq_129 (show decode prog_7_method_23_code 158 = .ok (.getfield 101, 3) by decide +kernel) rfl (SGn hS (by decide)) (SGk hS rfl) (by decide) rfl ?_
        refine Ev_iconst (v := 1) hq_129 (show decode prog_7_method_23_code 161 = .ok (.iconst 1, 1) by decide +kernel) (by decide) ?_
        refine Ev_iadd hq_129 (show decode prog_7_method_23_code 162 = .ok (.iadd, 1) by decide +kernel) ?_
        refine Ev_putI hq_129 (show decode prog_7_method_23_code 163 = .ok (.putfield 101, 3) by decide +kernel) rfl (SGn hS (by decide)) (SGk hS rfl) (by decide) (by decide) rfl (fun hz => by cases hz) ?_
        obtain ⟨I7, eI7⟩ : ∃ I7 : zI, I7 = z_up I5 57 8 ((I5 57 8) + 1) := ⟨_, rfl⟩
        have k := k I7 eI7
        rw [← eI7]
        refine Ev_aload_n hq_129 (show decode prog_7_method_23_code 166 = .ok (.aload_n 0, 1) by decide +kernel) rfl ?_
        refine Ev_getI hq_129 (show decode prog_7_method_23_code 167 = .ok (.getfield 101, 3) by decide +kernel) rfl (SGn hS (by decide)) (SGk hS rfl) (by decide) rfl ?_
        refine Ev_iconst (v := 1) hq_129 (show decode prog_7_method_23_code 170 = .ok (.iconst 1, 1) by decide +kernel) (by decide) ?_
        refine Ev_isub hq_129 (show decode prog_7_method_23_code 171 = .ok (.isub, 1) by decide +kernel) ?_
        exact Ev_iret hq_129 (show decode prog_7_method_23_code 172 = .ok (.ireturn, 1) by decide +kernel) rfl k
      · have k := k.2 (Classical.not_not.mp c6)
        refine Ev_bipush (v := (-100)) hq_129 (show decode prog_7_method_23_code 148 = .ok (.bipush (-100), 2) by decide +kernel) (by decide) ?_
        refine Ev_aload_n hq_129 (show decode prog_7_method_23_code 150 = .ok (.aload_n 0, 1) by decide +kernel) rfl ?_
        refine Ev_getI hq_129 (show decode prog_7_method_23_code 151 = .ok (.getfield 113, 3) by decide +kernel) rfl (SGn hS (by decide)) (SGk hS rfl) (by decide) rfl ?_
        refine Ev_isub hq_129 (show decode prog_7_method_23_code 154 = .ok (.isub, 1) by decide +kernel) ?_
        exact Ev_iret hq_129 (show decode prog_7_method_23_code 155 = .ok (.ireturn, 1) by decide +kernel) rfl k
    · have k := k.2 c2
      refine Ev_aload_n hq_129 (show decode prog_7_method_23_code 105 = .ok (.aload_n 0, 1) by decide +kernel) rfl ?_
      obtain ⟨I8, h9, k⟩ := k
      refine Ev_virt (as := []) hq_129 (show decode prog_7_method_23_code 106 = .ok (.invokevirtual 149, 3) by decide +kernel) rfl hq_130 rfl (z_le rfl) ⟨(SGn hS (by decide)), (SGk hS rfl), by decide⟩ h9 ?_
      refine Ev_aload_n hq_129 (show decode prog_7_method_23_code 109 = .ok (.aload_n 0, 1) by decide +kernel) rfl ?_
      refine Ev_getI hq_129 (show decode prog_7_method_23_code 110 = .ok (.getfield 116, 3) by decide +kernel) rfl (SGn hS (by decide)) (SGk hS rfl) (by decide) rfl ?_
      refine Ev_if_ne (tgt := 120) hq_129 (show decode prog_7_method_23_code 113 = .ok (.ifCond .ne 7, 3) by decide +kernel) (by decide) (fun c10 => ?_) (fun c10 => ?_)
      · have k := k.1 c10
        refine Ev_iconst (v := 0) hq_129 (show decode prog_7_method_23_code 120 = .ok (.iconst 0, 1) by decide +kernel) (by decide) ?_
        refine Ev_istore_n (lo2 := [.ref 57, .int 0, .int x2]) hq_129 (show decode prog_7_method_23_code 121 = .ok (.istore_n 1, 1) by decide +kernel) (z_le rfl) rfl ?_
        refine Ev_aload_n hq_129 (show decode prog_7_method_23_code 122 = .ok (.aload_n 0, 1) by decide +kernel) rfl ?_
        refine Ev_getR hq_129 (show decode prog_7_method_23_code 123 = .ok (.getfield 25, 3) by decide +kernel) rfl (SGn hS (by decide)) (SGk hS rfl) (by decide) rfl (SGr hS rfl) ?_
        refine Ev_iconst (v := 4) hq_129 (show decode prog_7_method_23_code 126 = .ok (.iconst 4, 1) by decide +kernel) (by decide) ?_
        refine Ev_aload_n hq_129 (show decode prog_7_method_23_code 127 = .ok (.aload_n 0, 1) by decide +kernel) rfl ?_
        refine Ev_getI hq_129 (show decode prog_7_method_23_code 128 = .ok (.getfield 101, 3) by decide +kernel) rfl (SGn hS (by decide)) (SGk hS rfl) (by decide) rfl ?_
        refine Ev_imul hq_129 (show decode prog_7_method_23_code 131 = .ok (.imul, 1) by decide +kernel) ?_
        refine Ev_iconst (v := 3) hq_129 (show decode prog_7_method_23_code 132 = .ok (.iconst 3, 1) by decide +kernel) (by decide) ?_
        refine Ev_iadd hq_129 (show decode prog_7_method_23_code 133 = .ok (.iadd, 1) by decide +kernel) ?_
        refine Ev_aload_n hq_129 (show decode prog_7_method_23_code 134 = .ok (.aload_n 0, 1) by decide +kernel) rfl ?_
        refine Ev_getI hq_129 (show decode prog_7_method_23_code 135 = .ok (.getfield 126, 3) by decide +kernel) rfl (SGn hS (by decide)) (SGk hS rfl) (by decide) rfl ?_
        obtain ⟨h11, k⟩ := k
        refine Ev_iast hq_129 (show decode prog_7_method_23_code 138 = .ok (.iastore, 1) by decide +kernel) (SGn hS (by decide)) (SGk hS rfl) (SGi hS rfl h11) ?_
        obtain ⟨I12, eI12⟩ : ∃ I12 : zI, I12 = z_up I8 63 ((4 * (I8 57 8)) + 3).toNatClampNeg (I8 57 26) := ⟨_, rfl⟩
        have k := k I12 eI12
        rw [← eI12]
        refine Ev_aload_n hq_129 (show decode prog_7_method_23_code 139 = .ok (.aload_n 0, 1) by decide +kernel) rfl ?_
        refine Ev_iconst (v := 0) hq_129 (show decode prog_7_method_23_code 140 = .ok (.iconst 0, 1) by decide +kernel) (by decide) ?_
        refine Ev_putI hq_129 (show decode prog_7_method_23_code 141 = .ok (.putfield 80, 3) by decide +kernel) rfl (SGn hS (by decide)) (SGk hS rfl) (by decide) (by decide) rfl (fun hz => by cases hz) ?_
        obtain ⟨I13, eI13⟩ : ∃ I13 : zI, I13 = z_up I12 57 5 0 := ⟨_, rfl⟩
        have k := k I13 eI13
        rw [← eI13]
        refine Ev_iload_n hq_129 (show decode prog_7_method_23_code 144 = .ok (.iload_n 1, 1) by decide +kernel) rfl ?_
        refine Ev_if_ne (tgt := 156) hq_129 (show decode prog_7_method_23_code 145 = .ok (.ifCond .ne 11, 3) by decide +kernel) (by decide) (fun hz => absurd hz (by decide)) (fun _ => ?_)
        refine Ev_bipush (v := (-100)) hq_129 (show decode prog_7_method_23_code 148 = .ok (.bipush (-100), 2) by decide +kernel) (by decide) ?_
        refine Ev_aload_n hq_129 (show decode prog_7_method_23_code 150 = .ok (.aload_n 0, 1) by decide +kernel) rfl ?_
        refine Ev_getI hq_129 (show decode prog_7_method_23_code 151 = .ok (.getfield 113, 3) by decide +kernel) rfl (SGn hS (by decide)) (SGk hS rfl) (by decide) rfl ?_
        refine Ev_isub hq_129 (show decode prog_7_method_23_code 154 = .ok (.isub, 1) by decide +kernel) ?_
        exact Ev_iret hq_129 (show decode prog_7_method_23_code 155 = .ok (.ireturn, 1) by decide +kernel) rfl k
      · have k := k.2 (Classical.not_not.mp c10)
        refine Ev_iconst (v := 1) hq_129 (show decode prog_7_method_23_code 116 = .ok (.iconst 1, 1) by decide +kernel) (by decide) ?_
        refine Ev_goto (tgt := 121) hq_129 (show decode prog_7_method_23_code 117 = .ok (.goto 4, 3) by decide +kernel) (by decide) ?_
        refine Ev_istore_n (lo2 := [.ref 57, .int 1, .int x2]) hq_129 (show decode prog_7_method_23_code 121 = .ok (.istore_n 1, 1) by decide +kernel) (z_le rfl) rfl ?_
        refine Ev_aload_n hq_129 (show decode prog_7_method_23_code 122 = .ok (.aload_n 0, 1) by decide +kernel) rfl ?_
        refine Ev_getR hq_129 (show decode prog_7_method_23_code 123 = .ok (.getfield 25, 3) by decide +kernel) rfl (SGn hS (by decide)) (SGk hS rfl) (by decide) rfl (SGr hS rfl) ?_
        refine Ev_iconst (v := 4) hq_129 (show decode prog_7_method_23_code 126 = .ok (.iconst 4, 1) by decide +kernel) (by decide) ?_
        refine Ev_aload_n hq_129 (show decode prog_7_method_23_code 127 = .ok (.aload_n 0, 1) by decide +kernel) rfl ?_
        refine Ev_getI hq_129 (show decode prog_7_method_23_code 128 = .ok (.getfield 101, 3) by decide +kernel) rfl (SGn hS (by decide)) (SGk hS rfl) (by decide) rfl ?_
        refine Ev_imul hq_129 (show decode prog_7_method_23_code 131 = .ok (.imul, 1) by decide +kernel) ?_
        refine Ev_iconst (v := 3) hq_129 (show decode prog_7_method_23_code 132 = .ok (.iconst 3, 1) by decide +kernel) (by decide) ?_
        refine Ev_iadd hq_129 (show decode prog_7_method_23_code 133 = .ok (.iadd, 1) by decide +kernel) ?_
        refine Ev_aload_n hq_129 (show decode prog_7_method_23_code 134 = .ok (.aload_n 0, 1) by decide +kernel) rfl ?_
        refine Ev_getI hq_129 (show decode prog_7_method_23_code 135 = .ok (.getfield 126, 3) by decide +kernel) rfl (SGn hS (by decide)) (SGk hS rfl) (by decide) rfl ?_
        obtain ⟨h14, k⟩ := k
        refine Ev_iast hq_129 (show decode prog_7_method_23_code 138 = .ok (.iastore, 1) by decide +kernel) (SGn hS (by decide)) (SGk hS rfl) (SGi hS rfl h14) ?_
        obtain ⟨I15, eI15⟩ : ∃ I15 : zI, I15 = z_up I8 63 ((4 * (I8 57 8)) + 3).toNatClampNeg (I8 57 26) := ⟨_, rfl⟩
        have k := k I15 eI15
        rw [← eI15]
        refine Ev_aload_n hq_129 (show decode prog_7_method_23_code 139 = .ok (.aload_n 0, 1) by decide +kernel) rfl ?_
        refine Ev_iconst (v := 0) hq_129 (show decode prog_7_method_23_code 140 = .ok (.iconst 0, 1) by decide +kernel) (by decide) ?_
        refine Ev_putI hq_129 (show decode prog_7_method_23_code 141 = .ok (.putfield 80, 3) by decide +kernel) rfl (SGn hS (by decide)) (SGk hS rfl) (by decide) (by decide) rfl (fun hz => by cases hz) ?_
        obtain ⟨I16, eI16⟩ : ∃ I16 : zI, I16 = z_up I15 57 5 0 := ⟨_, rfl⟩
        have k := k I16 eI16
        rw [← eI16]
        refine Ev_iload_n hq_129 (show decode prog_7_method_23_code 144 = .ok (.iload_n 1, 1) by decide +kernel) rfl ?_
        refine Ev_if_ne (tgt := 156) hq_129 (show decode prog_7_method_23_code 145 = .ok (.ifCond .ne 11, 3) by decide +kernel) (by decide) (fun _ => ?_) (fun hz => absurd (by decide) hz)
        refine Ev_aload_n hq_129 (show decode prog_7_method_23_code 156 = .ok (.aload_n 0, 1) by decide +kernel) rfl ?_
        refine Ev_dup hq_129 (show decode prog_7_method_23_code 157 = .ok (.dup, 1) by decide +kernel) rfl ?_
        refine Ev_getI hq_129 (show decode prog_7_method_23_code 158 = .ok (.getfield 101, 3) by decide +kernel) rfl (SGn hS (by decide)) (SGk hS rfl) (by decide) rfl ?_
        refine Ev_iconst (v := 1) hq_129 (show decode prog_7_method_23_code 161 = .ok (.iconst 1, 1) by decide +kernel) (by decide) ?_
        refine Ev_iadd hq_129 (show decode prog_7_method_23_code 162 = .ok (.iadd, 1) by decide +kernel) ?_
        refine Ev_putI hq_129 (show decode prog_7_method_23_code 163 = .ok (.putfield 101, 3) by decide +kernel) rfl (SGn hS (by decide)) (SGk hS rfl) (by decide) (by decide) rfl (fun hz => by cases hz) ?_
        obtain ⟨I17, eI17⟩ : ∃ I17 : zI, I17 = z_up I16 57 8 ((I16 57 8) + 1) := ⟨_, rfl⟩
        have k := k I17 eI17
        rw [← eI17]
        refine Ev_aload_n hq_129 (show decode prog_7_method_23_code 166 = .ok (.aload_n 0, 1) by decide +kernel) rfl ?_
        refine Ev_getI hq_129 (show decode prog_7_method_23_code 167 = .ok (.getfield 101, 3) by decide +kernel) rfl (SGn hS (by decide)) (SGk hS rfl) (by decide) rfl ?_
        refine Ev_iconst (v := 1) hq_129 (show decode prog_7_method_23_code 170 = .ok (.iconst 1, 1) by decide +kernel) (by decide) ?_
        refine Ev_isub hq_129 (show decode prog_7_method_23_code 171 = .ok (.isub, 1) by decide +kernel) ?_
        exact Ev_iret hq_129 (show decode prog_7_method_23_code 172 = .ok (.ireturn, 1) by decide +kernel) rfl k
  · have k := k.2 c1
    refine Ev_iload_n hq_129 (show decode prog_7_method_23_code 31 = .ok (.iload_n 1, 1) by decide +kernel) rfl ?_
    refine Ev_if_eq (tgt := 101) hq_129 (show decode prog_7_method_23_code 32 = .ok (.ifCond .eq 69, 3) by decide +kernel) (by decide) (fun c18 => ?_) (fun c18 => ?_)
    · have k := k.1 c18
      refine Ev_iload_n hq_129 (show decode prog_7_method_23_code 101 = .ok (.iload_n 1, 1) by decide +kernel) rfl ?_
      refine Ev_if_eq (tgt := 122) hq_129 (show decode prog_7_method_23_code 102 = .ok (.ifCond .eq 20, 3) by decide +kernel) (by decide) (fun c19 => ?_) (fun c19 => ?_)
      · have k := k.1 c19
        refine Ev_aload_n hq_129 (show decode prog_7_method_23_code 122 = .ok (.aload_n 0, 1) by decide +kernel) rfl ?_
        refine Ev_getR hq_129 (show decode prog_7_method_23_code 123 = .ok (.getfield 25, 3) by decide +kernel) rfl (SGn hS (by decide)) (SGk hS rfl) (by decide) rfl (SGr hS rfl) ?_
        refine Ev_iconst (v := 4) hq_129 (show decode prog_7_method_23_code 126 = .ok (.iconst 4, 1) by decide +kernel) (by decide) ?_
        refine Ev_aload_n hq_129 (show decode prog_7_method_23_code 127 = .ok (.aload_n 0, 1) by decide +kernel) rfl ?_
        refine Ev_getI hq_129 (show decode prog_7_method_23_code 128 = .ok (.getfield 101, 3) by decide +kernel) rfl (SGn hS (by decide)) (SGk hS rfl) (by decide) rfl ?_
        refine Ev_imul hq_129 (show decode prog_7_method_23_code 131 = .ok (.imul, 1) by decide +kernel) ?_
        refine Ev_iconst (v := 3) hq_129 (show decode prog_7_method_23_code 132 = .ok (.iconst 3, 1) by decide +kernel) (by decide) ?_
        refine Ev_iadd hq_129 (show decode prog_7_method_23_code 133 = .ok (.iadd, 1) by decide +kernel) ?_
        refine Ev_aload_n hq_129 (show decode prog_7_method_23_code 134 = .ok (.aload_n 0, 1) by decide +kernel) rfl ?_
        refine Ev_getI hq_129 (show decode prog_7_method_23_code 135 = .ok (.getfield 126, 3) by decide +kernel) rfl (SGn hS (by decide)) (SGk hS rfl) (by decide) rfl ?_
        obtain ⟨h20, k⟩ := k
        refine Ev_iast hq_129 (show decode prog_7_method_23_code 138 = .ok (.iastore, 1) by decide +kernel) (SGn hS (by decide)) (SGk hS rfl) (SGi hS rfl h20) ?_
        obtain ⟨I21, eI21⟩ : ∃ I21 : zI, I21 = z_up I 63 ((4 * (I 57 8)) + 3).toNatClampNeg (I 57 26) := ⟨_, rfl⟩
        have k := k I21 eI21
        rw [← eI21]
        refine Ev_aload_n hq_129 (show decode prog_7_method_23_code 139 = .ok (.aload_n 0, 1) by decide +kernel) rfl ?_
        refine Ev_iconst (v := 0) hq_129 (show decode prog_7_method_23_code 140 = .ok (.iconst 0, 1) by decide +kernel) (by decide) ?_
        refine Ev_putI hq_129 (show decode prog_7_method_23_code 141 = .ok (.putfield 80, 3) by decide +kernel) rfl (SGn hS (by decide)) (SGk hS rfl) (by decide) (by decide) rfl (fun hz => by cases hz) ?_
        obtain ⟨I22, eI22⟩ : ∃ I22 : zI, I22 = z_up I21 57 5 0 := ⟨_, rfl⟩
        have k := k I22 eI22
        rw [← eI22]
        refine Ev_iload_n hq_129 (show decode prog_7_method_23_code 144 = .ok (.iload_n 1, 1) by decide +kernel) rfl ?_
        refine Ev_if_ne (tgt := 156) hq_129 (show decode prog_7_method_23_code 145 = .ok (.ifCond .ne 11, 3) by decide +kernel) (by decide) (fun c23 => ?_) (fun c23 => ?_)
        · have k := k.1 c23
          refine Ev_aload_n hq_129 (show decode prog_7_method_23_code 156 = .ok (.aload_n 0, 1) by decide +kernel) rfl ?_
          refine Ev_dup hq_129 (show decode prog_7_method_23_code 157 = .ok (.dup, 1) by decide +kernel) rfl ?_
          refine Ev_getI hq_129 (show decode prog_7_method_23_code 158 = .ok (.getfield 101, 3) by decide +kernel) rfl (SGn hS (by decide)) (SGk hS rfl) (by decide) rfl ?_
          refine Ev_iconst (v := 1) hq_129 (show decode prog_7_method_23_code 161 = .ok (.iconst 1, 1) by decide +kernel) (by decide) ?_
          refine Ev_iadd hq_129 (show decode prog_7_method_23_code 162 = .ok (.iadd, 1) by decide +kernel) ?_
          refine Ev_putI hq_129 (show decode prog_7_method_23_code 163 = .ok (.putfield 101, 3) by decide +kernel) rfl (SGn hS (by decide)) (SGk hS rfl) (by decide) (by decide) rfl (fun hz => by cases hz) ?_
          obtain ⟨I24, eI24⟩ : ∃ I24 : zI, I24 = z_up I22 57 8 ((I22 57 8) + 1) := ⟨_, rfl⟩
          have k := k I24 eI24
          rw [← eI24]
          refine Ev_aload_n hq_129 (show decode prog_7_method_23_code 166 = .ok (.aload_n 0, 1) by decide +kernel) rfl ?_
          refine Ev_getI hq_129 (show decode prog_7_method_23_code 167 = .ok (.getfield 101, 3) by decide +kernel) rfl (SGn hS (by decide)) (SGk hS rfl) (by decide) rfl ?_
          refine Ev_iconst (v := 1) hq_129 (show decode prog_7_method_23_code 170 = .ok (.iconst 1, 1) by decide +kernel) (by decide) ?_
          refine Ev_isub hq_129 (show decode prog_7_method_23_code 171 = .ok (.isub, 1) by decide +kernel) ?_
          exact Ev_iret hq_129 (show decode prog_7_method_23_code 172 = .ok (.ireturn, 1) by decide +kernel) rfl k
        · have k := k.2 (Classical.not_not.mp c23)
          refine Ev_bipush (v := (-100)) hq_129 (show decode prog_7_method_23_code 148 = .ok (.bipush (-100), 2) by decide +kernel) (by decide) ?_
          refine Ev_aload_n hq_129 (show decode prog_7_method_23_code 150 = .ok (.aload_n 0, 1) by decide +kernel) rfl ?_
          refine Ev_getI hq_129 (show decode prog_7_method_23_code 151 = .ok (.getfield 113, 3) by decide +kernel) rfl (SGn hS (by decide)) (SGk hS rfl) (by decide) rfl ?_
          refine Ev_isub hq_129 (show decode prog_7_method_23_code 154 = .ok (.isub, 1) by decide +kernel) ?_
          exact Ev_iret hq_129 (show decode prog_7_method_23_code 155 = .ok (.ireturn, 1) by decide +kernel) rfl k
      · have k := k.2 c19
        refine Ev_aload_n hq_129 (show decode prog_7_method_23_code 105 = .ok (.aload_n 0, 1) by decide +kernel) rfl ?_
        obtain ⟨I25, h26, k⟩ := k
        refine Ev_virt (as := []) hq_129 (show decode prog_7_method_23_code 106 = .ok (.invokevirtual 149, 3) by decide +kernel) rfl hq_130 rfl (z_le rfl) ⟨(SGn hS (by decide)), (SGk hS rfl), by decide⟩ h26 ?_
        refine Ev_aload_n hq_129 (show decode prog_7_method_23_code 109 = .ok (.aload_n 0, 1) by decide +kernel) rfl ?_
        refine Ev_getI hq_129 (show decode prog_7_method_23_code 110 = .ok (.getfield 116, 3) by decide +kernel) rfl (SGn hS (by decide)) (SGk hS rfl) (by decide) rfl ?_
        refine Ev_if_ne (tgt := 120) hq_129 (show decode prog_7_method_23_code 113 = .ok (.ifCond .ne 7, 3) by decide +kernel) (by decide) (fun c27 => ?_) (fun c27 => ?_)
        · have k := k.1 c27
          refine Ev_iconst (v := 0) hq_129 (show decode prog_7_method_23_code 120 = .ok (.iconst 0, 1) by decide +kernel) (by decide) ?_
          refine Ev_istore_n (lo2 := [.ref 57, .int 0, .int x2]) hq_129 (show decode prog_7_method_23_code 121 = .ok (.istore_n 1, 1) by decide +kernel) (z_le rfl) rfl ?_
          refine Ev_aload_n hq_129 (show decode prog_7_method_23_code 122 = .ok (.aload_n 0, 1) by decide +kernel) rfl ?_
          refine Ev_getR hq_129 (show decode prog_7_method_23_code 123 = .ok (.getfield 25, 3) by decide +kernel) rfl (SGn hS (by decide)) (SGk hS rfl) (by decide) rfl (SGr hS rfl) ?_
          refine Ev_iconst (v := 4) hq_129 (show decode prog_7_method_23_code 126 = .ok (.iconst 4, 1) by decide +kernel) (by decide) ?_
          refine Ev_aload_n hq_129 (show decode prog_7_method_23_code 127 = .ok (.aload_n 0, 1) by decide +kernel) rfl ?_
          refine Ev_getI hq_129 (show decode prog_7_method_23_code 128 = .ok (.getfield 101, 3) by decide +kernel) rfl (SGn hS (by decide)) (SGk hS rfl) (by decide) rfl ?_
          refine Ev_imul hq_129 (show decode prog_7_method_23_code 131 = .ok (.imul, 1) by decide +kernel) ?_
          refine Ev_iconst (v := 3) hq_129 (show decode prog_7_method_23_code 132 = .ok (.iconst 3, 1) by decide +kernel) (by decide) ?_
          refine Ev_iadd hq_129 (show decode prog_7_method_23_code 133 = .ok (.iadd, 1) by decide +kernel) ?_
          refine Ev_aload_n hq_129 (show decode prog_7_method_23_code 134 = .ok (.aload_n 0, 1) by decide +kernel) rfl ?_
          refine Ev_getI hq_129 (show decode prog_7_method_23_code 135 = .ok (.getfield 126, 3) by decide +kernel) rfl (SGn hS (by decide)) (SGk hS rfl) (by decide) rfl ?_
          obtain ⟨h28, k⟩ := k
          refine Ev_iast hq_129 (show decode prog_7_method_23_code 138 = .ok (.iastore, 1) by decide +kernel) (SGn hS (by decide)) (SGk hS rfl) (SGi hS rfl h28) ?_
          obtain ⟨I29, eI29⟩ : ∃ I29 : zI, I29 = z_up I25 63 ((4 * (I25 57 8)) + 3).toNatClampNeg (I25 57 26) := ⟨_, rfl⟩
          have k := k I29 eI29
          rw [← eI29]
          refine Ev_aload_n hq_129 (show decode prog_7_method_23_code 139 = .ok (.aload_n 0, 1) by decide +kernel) rfl ?_
          refine Ev_iconst (v := 0) hq_129 (show decode prog_7_method_23_code 140 = .ok (.iconst 0, 1) by decide +kernel) (by decide) ?_
          refine Ev_putI hq_129 (show decode prog_7_method_23_code 141 = .ok (.putfield 80, 3) by decide +kernel) rfl (SGn hS (by decide)) (SGk hS rfl) (by decide) (by decide) rfl (fun hz => by cases hz) ?_
          obtain ⟨I30, eI30⟩ : ∃ I30 : zI, I30 = z_up I29 57 5 0 := ⟨_, rfl⟩
          have k := k I30 eI30
          rw [← eI30]
          refine Ev_iload_n hq_129 (show decode prog_7_method_23_code 144 = .ok (.iload_n 1, 1) by decide +kernel) rfl ?_
          refine Ev_if_ne (tgt := 156) hq_129 (show decode prog_7_method_23_code 145 = .ok (.ifCond .ne 11, 3) by decide +kernel) (by decide) (fun hz => absurd hz (by decide)) (fun _ => ?_)
          refine Ev_bipush (v := (-100)) hq_129 (show decode prog_7_method_23_code 148 = .ok (.bipush (-100), 2) by decide +kernel) (by decide) ?_
          refine Ev_aload_n hq_129 (show decode prog_7_method_23_code 150 = .ok (.aload_n 0, 1) by decide +kernel) rfl ?_
          refine Ev_getI hq_129 (show decode prog_7_method_23_code 151 = .ok (.getfield 113, 3) by decide +kernel) rfl (SGn hS (by decide)) (SGk hS rfl) (by decide) rfl ?_
          refine Ev_isub hq_129 (show decode prog_7_method_23_code 154 = .ok (.isub, 1) by decide +kernel) ?_
          exact Ev_iret hq_129 (show decode prog_7_method_23_code 155 = .ok (.ireturn, 1) by decide +kernel) rfl k
        · have k := k.2 (Classical.not_not.mp c27)
          refine Ev_iconst (v := 1) hq_129 (show decode prog_7_method_23_code 116 = .ok (.iconst 1, 1) by decide +kernel) (by decide) ?_
          refine Ev_goto (tgt := 121) hq_129 (show decode prog_7_method_23_code 117 = .ok (.goto 4, 3) by decide +kernel) (by decide) ?_
          refine Ev_istore_n (lo2 := [.ref 57, .int 1, .int x2]) hq_129 (show decode prog_7_method_23_code 121 = .ok (.istore_n 1, 1) by decide +kernel) (z_le rfl) rfl ?_
          refine Ev_aload_n hq_129 (show decode prog_7_method_23_code 122 = .ok (.aload_n 0, 1) by decide +kernel) rfl ?_
          refine Ev_getR hq_129 (show decode prog_7_method_23_code 123 = .ok (.getfield 25, 3) by decide +kernel) rfl (SGn hS (by decide)) (SGk hS rfl) (by decide) rfl (SGr hS rfl) ?_
          refine Ev_iconst (v := 4) hq_129 (show decode prog_7_method_23_code 126 = .ok (.iconst 4, 1) by decide +kernel) (by decide) ?_
          refine Ev_aload_n hq_129 (show decode prog_7_method_23_code 127 = .ok (.aload_n 0, 1) by decide +kernel) rfl ?_
          refine Ev_getI hq_129 (show decode prog_7_method_23_code 128 = .ok (.getfield 101, 3) by decide +kernel) rfl (SGn hS (by decide)) (SGk hS rfl) (by decide) rfl ?_
          refine Ev_imul hq_129 (show decode prog_7_method_23_code 131 = .ok (.imul, 1) by decide +kernel) ?_
          refine Ev_iconst (v := 3) hq_129 (show decode prog_7_method_23_code 132 = .ok (.iconst 3, 1) by decide +kernel) (by decide) ?_
          refine Ev_iadd hq_129 (show decode prog_7_method_23_code 133 = .ok (.iadd, 1) by decide +kernel) ?_
          refine Ev_aload_n hq_129 (show decode prog_7_method_23_code 134 = .ok (.aload_n 0, 1) by decide +kernel) rfl ?_
          refine Ev_getI hq_129 (show decode prog_7_method_23_code 135 = .ok (.getfield 126, 3) by decide +kernel) rfl (SGn hS (by decide)) (SGk hS rfl) (by decide) rfl ?_
          obtain ⟨h31, k⟩ := k
          refine Ev_iast hq_129 (show decode prog_7_method_23_code 138 = .ok (.iastore, 1) by decide +kernel) (SGn hS (by decide)) (SGk hS rfl) (SGi hS rfl h31) ?_
          obtain ⟨I32, eI32⟩ : ∃ I32 : zI, I32 = z_up I25 63 ((4 * (I25 57 8)) + 3).toNatClampNeg (I25 57 26) := ⟨_, rfl⟩
          have k := k I32 eI32
          rw [← eI32]
          refine Ev_aload_n hq_129 (show decode prog_7_method_23_code 139 = .ok (.aload_n 0, 1) by decide +kernel) rfl ?_
          refine Ev_iconst (v := 0) hq_129 (show decode prog_7_method_23_code 140 = .ok (.iconst 0, 1) by decide +kernel) (by decide) ?_
          refine Ev_putI hq_129 (show decode prog_7_method_23_code 141 = .ok (.putfield 80, 3) by decide +kernel) rfl (SGn hS (by decide)) (SGk hS rfl) (by decide) (by decide) rfl (fun hz => by cases hz) ?_
          obtain ⟨I33, eI33⟩ : ∃ I33 : zI, I33 = z_up I32 57 5 0 := ⟨_, rfl⟩
          have k := k I33 eI33
          rw [← eI33]
          refine Ev_iload_n hq_129 (show decode prog_7_method_23_code 144 = .ok (.iload_n 1, 1) by decide +kernel) rfl ?_
          refine Ev_if_ne (tgt := 156) hq_129 (show decode prog_7_method_23_code 145 = .ok (.ifCond .ne 11, 3) by decide +kernel) (by decide) (fun _ => ?_) (fun hz => absurd (by decide) hz)
          refine Ev_aload_n hq_129 (show decode prog_7_method_23_code 156 = .ok (.aload_n 0, 1) by decide +kernel) rfl ?_
          refine Ev_dup hq_129 (show decode prog_7_method_23_code 157 = .ok (.dup, 1) by decide +kernel) rfl ?_
          refine Ev_getI hq_129 (show decode prog_7_method_23_code 158 = .ok (.getfield 101, 3) by decide +kernel) rfl (SGn hS (by decide)) (SGk hS rfl) (by decide) rfl ?_
          refine Ev_iconst (v := 1) hq_129 (show decode prog_7_method_23_code 161 = .ok (.iconst 1, 1) by decide +kernel) (by decide) ?_
          refine Ev_iadd hq_129 (show decode prog_7_method_23_code 162 = .ok (.iadd, 1) by decide +kernel) ?_
          refine Ev_putI hq_129 (show decode prog_7_method_23_code 163 = .ok (.putfield 101, 3) by decide +kernel) rfl (SGn hS (by decide)) (SGk hS rfl) (by decide) (by decide) rfl (fun hz => by cases hz) ?_
          obtain ⟨I34, eI34⟩ : ∃ I34 : zI, I34 = z_up I33 57 8 ((I33 57 8) + 1) := ⟨_, rfl⟩
          have k := k I34 eI34
          rw [← eI34]
          refine Ev_aload_n hq_129 (show decode prog_7_method_23_code 166 = .ok (.aload_n 0, 1) by decide +kernel) rfl ?_
          refine Ev_getI hq_129 (show decode prog_7_method_23_code 167 = .ok (.getfield 101, 3) by decide +kernel) rfl (SGn hS (by decide)) (SGk hS rfl) (by decide) rfl ?_
          refine Ev_iconst (v := 1) hq_129 (show decode prog_7_method_23_code 170 = .ok (.iconst 1, 1) by decide +kernel) (by decide) ?_
          refine Ev_isub hq_129 (show decode prog_7_method_23_code 171 = .ok (.isub, 1) by decide +kernel) ?_
          exact Ev_iret hq_129 (show decode prog_7_method_23_code 172 = .ok (.ireturn, 1) by decide +kernel) rfl k
    · have k := k.2 c18
      refine Ev_aload_n hq_129 (show decode prog_7_method_23_code 35 = .ok (.aload_n 0, 1) by decide +kernel) rfl ?_
      obtain ⟨I35, h36, k⟩ := k
      refine Ev_virt (as := []) hq_129 (show decode prog_7_method_23_code 36 = .ok (.invokevirtual 149, 3) by decide +kernel) rfl hq_130 rfl (z_le rfl) ⟨(SGn hS (by decide)), (SGk hS rfl), by decide⟩ h36 ?_
      refine Ev_aload_n hq_129 (show decode prog_7_method_23_code 39 = .ok (.aload_n 0, 1) by decide +kernel) rfl ?_
      refine Ev_getI hq_129 (show decode prog_7_method_23_code 40 = .ok (.getfield 116, 3) by decide +kernel) rfl (SGn hS (by decide)) (SGk hS rfl) (by decide) rfl ?_
      refine Ev_iconst (v := 3) hq_129 (show decode prog_7_method_23_code 43 = .ok (.iconst 3, 1) by decide +kernel) (by decide) ?_
      refine Ev_icmp_ne (tgt := 59) hq_129 (show decode prog_7_method_23_code 44 = .ok (.if_icmp .ne 15, 3) by decide +kernel) (by decide) (fun c37 => ?_) (fun c37 => ?_)
      · have k := k.1 c37
        refine Ev_iconst (v := 0) hq_129 (show decode prog_7_method_23_code 59 = .ok (.iconst 0, 1) by decide +kernel) (by decide) ?_
        refine Ev_istore_n (lo2 := [.ref 57, .int 0, .int x2]) hq_129 (show decode prog_7_method_23_code 60 = .ok (.istore_n 1, 1) by decide +kernel) (z_le rfl) rfl ?_
        refine Ev_aload_n hq_129 (show decode prog_7_method_23_code 61 = .ok (.aload_n 0, 1) by decide +kernel) rfl ?_
        refine Ev_getR hq_129 (show decode prog_7_method_23_code 62 = .ok (.getfield 25, 3) by decide +kernel) rfl (SGn hS (by decide)) (SGk hS rfl) (by decide) rfl (SGr hS rfl) ?_
        refine Ev_iconst (v := 4) hq_129 (show decode prog_7_method_23_code 65 = .ok (.iconst 4, 1) by decide +kernel) (by decide) ?_
        refine Ev_aload_n hq_129 (show decode prog_7_method_23_code 66 = .ok (.aload_n 0, 1) by decide +kernel) rfl ?_
        refine Ev_getI hq_129 (show decode prog_7_method_23_code 67 = .ok (.getfield 101, 3) by decide +kernel) rfl (SGn hS (by decide)) (SGk hS rfl) (by decide) rfl ?_
        refine Ev_imul hq_129 (show decode prog_7_method_23_code 70 = .ok (.imul, 1) by decide +kernel) ?_
        refine Ev_iload_n hq_129 (show decode prog_7_method_23_code 71 = .ok (.iload_n 2, 1) by decide +kernel) rfl ?_
        refine Ev_iadd hq_129 (show decode prog_7_method_23_code 72 = .ok (.iadd, 1) by decide +kernel) ?_
        refine Ev_aload_n hq_129 (show decode prog_7_method_23_code 73 = .ok (.aload_n 0, 1) by decide +kernel) rfl ?_
        refine Ev_getI hq_129 (show decode prog_7_method_23_code 74 = .ok (.getfield 126, 3) by decide +kernel) rfl (SGn hS (by decide)) (SGk hS rfl) (by decide) rfl ?_
        obtain ⟨h38, k⟩ := k
        refine Ev_iast hq_129 (show decode prog_7_method_23_code 77 = .ok (.iastore, 1) by decide +kernel) (SGn hS (by decide)) (SGk hS rfl) (SGi hS rfl h38) ?_
        obtain ⟨I39, eI39⟩ : ∃ I39 : zI, I39 = z_up I35 63 ((4 * (I35 57 8)) + x2).toNatClampNeg (I35 57 26) := ⟨_, rfl⟩
        have k := k I39 eI39
        rw [← eI39]
        refine Ev_iload_n hq_129 (show decode prog_7_method_23_code 78 = .ok (.iload_n 1, 1) by decide +kernel) rfl ?_
        refine Ev_if_eq (tgt := 93) hq_129 (show decode prog_7_method_23_code 79 = .ok (.ifCond .eq 14, 3) by decide +kernel) (by decide) (fun _ => ?_) (fun hz => absurd (by decide) hz)
        refine Ev_iconst (v := 0) hq_129 (show decode prog_7_method_23_code 93 = .ok (.iconst 0, 1) by decide +kernel) (by decide) ?_
        refine Ev_istore_n (lo2 := [.ref 57, .int 0, .int x2]) hq_129 (show decode prog_7_method_23_code 94 = .ok (.istore_n 1, 1) by decide +kernel) (z_le rfl) rfl ?_
        obtain ⟨y40, ey40⟩ : ∃ y40 : Int32, y40 = x2 + 1 := ⟨_, rfl⟩
        have k := k y40 ey40
        refine Ev_iinc (v := y40) (lo2 := [.ref 57, .int 0, .int y40]) hq_129 (show decode prog_7_method_23_code 95 = .ok (.iinc 2 1, 3) by decide +kernel) rfl (by rw [ey40]; rfl) rfl ?_
        refine Ev_goto (tgt := 26) hq_129 (show decode prog_7_method_23_code 98 = .ok (.goto (-72), 3) by decide +kernel) (by decide) ?_
        exact k
      · have k := k.2 (Classical.not_not.mp c37)
        refine Ev_aload_n hq_129 (show decode prog_7_method_23_code 47 = .ok (.aload_n 0, 1) by decide +kernel) rfl ?_
        refine Ev_getI hq_129 (show decode prog_7_method_23_code 48 = .ok (.getfield 119, 3) by decide +kernel) rfl (SGn hS (by decide)) (SGk hS rfl) (by decide) rfl ?_
        refine Ev_iload_n hq_129 (show decode prog_7_method_23_code 51 = .ok (.iload_n 2, 1) by decide +kernel) rfl ?_
        refine Ev_icmp_ne (tgt := 59) hq_129 (show decode prog_7_method_23_code 52 = .ok (.if_icmp .ne 7, 3) by decide +kernel) (by decide) (fun c41 => ?_) (fun c41 => ?_)
        · have k := k.1 c41
          refine Ev_iconst (v := 0) hq_129 (show decode prog_7_method_23_code 59 = .ok (.iconst 0, 1) by decide +kernel) (by decide) ?_
          refine Ev_istore_n (lo2 := [.ref 57, .int 0, .int x2]) hq_129 (show decode prog_7_method_23_code 60 = .ok (.istore_n 1, 1) by decide +kernel) (z_le rfl) rfl ?_
          refine Ev_aload_n hq_129 (show decode prog_7_method_23_code 61 = .ok (.aload_n 0, 1) by decide +kernel) rfl ?_
          refine Ev_getR hq_129 (show decode prog_7_method_23_code 62 = .ok (.getfield 25, 3) by decide +kernel) rfl (SGn hS (by decide)) (SGk hS rfl) (by decide) rfl (SGr hS rfl) ?_
          refine Ev_iconst (v := 4) hq_129 (show decode prog_7_method_23_code 65 = .ok (.iconst 4, 1) by decide +kernel) (by decide) ?_
          refine Ev_aload_n hq_129 (show decode prog_7_method_23_code 66 = .ok (.aload_n 0, 1) by decide +kernel) rfl ?_
          refine Ev_getI hq_129 (show decode prog_7_method_23_code 67 = .ok (.getfield 101, 3) by decide +kernel) rfl (SGn hS (by decide)) (SGk hS rfl) (by decide) rfl ?_
          refine Ev_imul hq_129 (show decode prog_7_method_23_code 70 = .ok (.imul, 1) by decide +kernel) ?_
          refine Ev_iload_n hq_129 (show decode prog_7_method_23_code 71 = .ok (.iload_n 2, 1) by decide +kernel) rfl ?_
          refine Ev_iadd hq_129 (show decode prog_7_method_23_code 72 = .ok (.iadd, 1) by decide +kernel) ?_
          refine Ev_aload_n hq_129 (show decode prog_7_method_23_code 73 = .ok (.aload_n 0, 1) by decide +kernel) rfl ?_
          refine Ev_getI hq_129 (show decode prog_7_method_23_code 74 = .ok (.getfield 126, 3) by decide +kernel) rfl (SGn hS (by decide)) (SGk hS rfl) (by decide) rfl ?_
          obtain ⟨h42, k⟩ := k
          refine Ev_iast hq_129 (show decode prog_7_method_23_code 77 = .ok (.iastore, 1) by decide +kernel) (SGn hS (by decide)) (SGk hS rfl) (SGi hS rfl h42) ?_
          obtain ⟨I43, eI43⟩ : ∃ I43 : zI, I43 = z_up I35 63 ((4 * (I35 57 8)) + x2).toNatClampNeg (I35 57 26) := ⟨_, rfl⟩
          have k := k I43 eI43
          rw [← eI43]
          refine Ev_iload_n hq_129 (show decode prog_7_method_23_code 78 = .ok (.iload_n 1, 1) by decide +kernel) rfl ?_
          refine Ev_if_eq (tgt := 93) hq_129 (show decode prog_7_method_23_code 79 = .ok (.ifCond .eq 14, 3) by decide +kernel) (by decide) (fun _ => ?_) (fun hz => absurd (by decide) hz)
          refine Ev_iconst (v := 0) hq_129 (show decode prog_7_method_23_code 93 = .ok (.iconst 0, 1) by decide +kernel) (by decide) ?_
          refine Ev_istore_n (lo2 := [.ref 57, .int 0, .int x2]) hq_129 (show decode prog_7_method_23_code 94 = .ok (.istore_n 1, 1) by decide +kernel) (z_le rfl) rfl ?_
          obtain ⟨y44, ey44⟩ : ∃ y44 : Int32, y44 = x2 + 1 := ⟨_, rfl⟩
          have k := k y44 ey44
          refine Ev_iinc (v := y44) (lo2 := [.ref 57, .int 0, .int y44]) hq_129 (show decode prog_7_method_23_code 95 = .ok (.iinc 2 1, 3) by decide +kernel) rfl (by rw [ey44]; rfl) rfl ?_
          refine Ev_goto (tgt := 26) hq_129 (show decode prog_7_method_23_code 98 = .ok (.goto (-72), 3) by decide +kernel) (by decide) ?_
          exact k
        · have k := k.2 (Classical.not_not.mp c41)
          refine Ev_iconst (v := 1) hq_129 (show decode prog_7_method_23_code 55 = .ok (.iconst 1, 1) by decide +kernel) (by decide) ?_
          refine Ev_goto (tgt := 60) hq_129 (show decode prog_7_method_23_code 56 = .ok (.goto 4, 3) by decide +kernel) (by decide) ?_
          refine Ev_istore_n (lo2 := [.ref 57, .int 1, .int x2]) hq_129 (show decode prog_7_method_23_code 60 = .ok (.istore_n 1, 1) by decide +kernel) (z_le rfl) rfl ?_
          refine Ev_aload_n hq_129 (show decode prog_7_method_23_code 61 = .ok (.aload_n 0, 1) by decide +kernel) rfl ?_
          refine Ev_getR hq_129 (show decode prog_7_method_23_code 62 = .ok (.getfield 25, 3) by decide +kernel) rfl (SGn hS (by decide)) (SGk hS rfl) (by decide) rfl (SGr hS rfl) ?_
          refine Ev_iconst (v := 4) hq_129 (show decode prog_7_method_23_code 65 = .ok (.iconst 4, 1) by decide +kernel) (by decide) ?_
          refine Ev_aload_n hq_129 (show decode prog_7_method_23_code 66 = .ok (.aload_n 0, 1) by decide +kernel) rfl ?_
          refine Ev_getI hq_129 (show decode prog_7_method_23_code 67 = .ok (.getfield 101, 3) by decide +kernel) rfl (SGn hS (by decide)) (SGk hS rfl) (by decide) rfl ?_
          refine Ev_imul hq_129 (show decode prog_7_method_23_code 70 = .ok (.imul, 1) by decide +kernel) ?_
          refine Ev_iload_n hq_129 (show decode prog_7_method_23_code 71 = .ok (.iload_n 2, 1) by decide +kernel) rfl ?_
          refine Ev_iadd hq_129 (show decode prog_7_method_23_code 72 = .ok (.iadd, 1) by decide +kernel) ?_
          refine Ev_aload_n hq_129 (show decode prog_7_method_23_code 73 = .ok (.aload_n 0, 1) by decide +kernel) rfl ?_
          refine Ev_getI hq_129 (show decode prog_7_method_23_code 74 = .ok (.getfield 126, 3) by decide +kernel) rfl (SGn hS (by decide)) (SGk hS rfl) (by decide) rfl ?_
          obtain ⟨h45, k⟩ := k
          refine Ev_iast hq_129 (show decode prog_7_method_23_code 77 = .ok (.iastore, 1) by decide +kernel) (SGn hS (by decide)) (SGk hS rfl) (SGi hS rfl h45) ?_
          obtain ⟨I46, eI46⟩ : ∃ I46 : zI, I46 = z_up I35 63 ((4 * (I35 57 8)) + x2).toNatClampNeg (I35 57 26) := ⟨_, rfl⟩
          have k := k I46 eI46
          rw [← eI46]
          refine Ev_iload_n hq_129 (show decode prog_7_method_23_code 78 = .ok (.iload_n 1, 1) by decide +kernel) rfl ?_
          refine Ev_if_eq (tgt := 93) hq_129 (show decode prog_7_method_23_code 79 = .ok (.ifCond .eq 14, 3) by decide +kernel) (by decide) (fun hz => absurd hz (by decide)) (fun _ => ?_)
          refine Ev_aload_n hq_129 (show decode prog_7_method_23_code 82 = .ok (.aload_n 0, 1) by decide +kernel) rfl ?_
          obtain ⟨r49, I47, h48, k⟩ := k
          refine Ev_virt (as := []) hq_129 (show decode prog_7_method_23_code 83 = .ok (.invokevirtual 162, 3) by decide +kernel) rfl hq_133 rfl (z_le rfl) ⟨(SGn hS (by decide)), (SGk hS rfl), by decide⟩ h48 ?_
          refine Ev_if_eq (tgt := 93) hq_129 (show decode prog_7_method_23_code 86 = .ok (.ifCond .eq 7, 3) by decide +kernel) (by decide) (fun c50 => ?_) (fun c50 => ?_)
          · have k := k.1 c50
            refine Ev_iconst (v := 0) hq_129 (show decode prog_7_method_23_code 93 = .ok (.iconst 0, 1) by decide +kernel) (by decide) ?_
            refine Ev_istore_n (lo2 := [.ref 57, .int 0, .int x2]) hq_129 (show decode prog_7_method_23_code 94 = .ok (.istore_n 1, 1) by decide +kernel) (z_le rfl) rfl ?_
            obtain ⟨y51, ey51⟩ : ∃ y51 : Int32, y51 = x2 + 1 := ⟨_, rfl⟩
            have k := k y51 ey51
            refine Ev_iinc (v := y51) (lo2 := [.ref 57, .int 0, .int y51]) hq_129 (show decode prog_7_method_23_code 95 = .ok (.iinc 2 1, 3) by decide +kernel) rfl (by rw [ey51]; rfl) rfl ?_
            refine Ev_goto (tgt := 26) hq_129 (show decode prog_7_method_23_code 98 = .ok (.goto (-72), 3) by decide +kernel) (by decide) ?_
            exact k
          · have k := k.2 c50
            refine Ev_iconst (v := 1) hq_129 (show decode prog_7_method_23_code 89 = .ok (.iconst 1, 1) by decide +kernel) (by decide) ?_
            refine Ev_goto (tgt := 94) hq_129 (show decode prog_7_method_23_code 90 = .ok (.goto 4, 3) by decide +kernel) (by decide) ?_
            refine Ev_istore_n (lo2 := [.ref 57, .int 1, .int x2]) hq_129 (show decode prog_7_method_23_code 94 = .ok (.istore_n 1, 1) by decide +kernel) (z_le rfl) rfl ?_
            obtain ⟨y52, ey52⟩ : ∃ y52 : Int32, y52 = x2 + 1 := ⟨_, rfl⟩
            have k := k y52 ey52
            refine Ev_iinc (v := y52) (lo2 := [.ref 57, .int 1, .int y52]) hq_129 (show decode prog_7_method_23_code 95 = .ok (.iinc 2 1, 3) by decide +kernel) rfl (by rw [ey52]; rfl) rfl ?_
            refine Ev_goto (tgt := 26) hq_129 (show decode prog_7_method_23_code 98 = .ok (.goto (-72), 3) by decide +kernel) (by decide) ?_
            exact k
set_option maxRecDepth 20000 in
theorem wp_Z_isOn {X : Nat × (Nat → Int32)} {d : Nat} {G : zG} {I : zI} {res : Option Value × zG × zI} (x1 : Int32) (hS : SG G) 
    (k : z_inr ((5 * x1) + 4) 20 ∧ ((¬ (I 60 ((5 * x1) + 4).toNatClampNeg) = 1 → res = (some (.int 0), G, I)) ∧ ((I 60 ((5 * x1) + 4).toNatClampNeg) = 1 → res = (some (.int 1), G, I)))) :
    Ev X d 143 0 [.ref 57, .int x1] [] G I res := by
  refine Ev_aload_n hq_143 (show decode prog_7_method_8_code 0 = .ok (.aload_n 0, 1) by decide +kernel) rfl ?_
  refine Ev_getR hq_143 (show decode prog_7_method_8_code 1 = .ok (.getfield 16, 3) by decide +kernel) rfl (SGn hS (by decide)) (SGk hS rfl) (by decide) rfl (SGr hS rfl) ?_
  refine Ev_iconst (v := 5) hq_143 (show decode prog_7_method_8_code 4 = .ok (.iconst 5, 1) by decide +kernel) (by decide) ?_
  refine Ev_iload_n hq_143 (show decode prog_7_method_8_code 5 = .ok (.iload_n 1, 1) by decide +kernel) rfl ?_
  refine Ev_imul hq_143 (show decode prog_7_method_8_code 6 = .ok (.imul, 1) by decide +kernel) ?_
  refine Ev_iconst (v := 4) hq_143 (show decode prog_7_method_8_code 7 = .ok (.iconst 4, 1) by decide +kernel) (by decide) ?_
  refine Ev_iadd hq_143 (show decode prog_7_method_8_code 8 = .ok (.iadd, 1) by decide +kernel) ?_
  obtain ⟨h1, k⟩ := k
  refine Ev_iald hq_143 (show decode prog_7_method_8_code 9 = .ok (.iaload, 1) by decide +kernel) (SGn hS (by decide)) (SGk hS rfl) (SGi hS rfl h1) ?_
  refine Ev_iconst (v := 1) hq_143 (show decode prog_7_method_8_code 10 = .ok (.iconst 1, 1) by decide +kernel) (by decide) ?_
  refine Ev_icmp_ne (tgt := 18) hq_143 (show decode prog_7_method_8_code 11 = .ok (.if_icmp .ne 7, 3) by decide +kernel) (by decide) (fun c2 => ?_) (fun c2 => ?_)
  · have k := k.1 c2
    refine Ev_iconst (v := 0) hq_143 (show decode prog_7_method_8_code 18 = .ok (.iconst 0, 1) by decide +kernel) (by decide) ?_
    exact Ev_iret hq_143 (show decode prog_7_method_8_code 19 = .ok (.ireturn, 1) by decide +kernel) rfl k
  · have k := k.2 (Classical.not_not.mp c2)
    refine Ev_iconst (v := 1) hq_143 (show decode prog_7_method_8_code 14 = .ok (.iconst 1, 1) by decide +kernel) (by decide) ?_
    refine Ev_goto (tgt := 19) hq_143 (show decode prog_7_method_8_code 15 = .ok (.goto 4, 3) by decide +kernel) (by decide) ?_
    exact Ev_iret hq_143 (show decode prog_7_method_8_code 19 = .ok (.ireturn, 1) by decide +kernel) rfl k
set_option maxRecDepth 20000 in
theorem wp_Z_onSet {X : Nat × (Nat → Int32)} {d : Nat} {G : zG} {I : zI} {res : Option Value × zG × zI}  
    (k : Ev X d 142 4 [.ref 57, .int 0, .int 0] [] G I res) :
    Ev X d 142 0 [.ref 57, zU, zU] [] G I res := by
  refine Ev_iconst (v := 0) hq_142 (show decode prog_7_method_9_code 0 = .ok (.iconst 0, 1) by decide +kernel) (by decide) ?_
  refine Ev_istore_n (lo2 := [.ref 57, .int 0, zU]) hq_142 (show decode prog_7_method_9_code 1 = .ok (.istore_n 1, 1) by decide +kernel) (z_le rfl) rfl ?_
  refine Ev_iconst (v := 0) hq_142 (show decode prog_7_method_9_code 2 = .ok (.iconst 0, 1) by decide +kernel) (by decide) ?_
  refine Ev_istore_n (lo2 := [.ref 57, .int 0, .int 0]) hq_142 (show decode prog_7_method_9_code 3 = .ok (.istore_n 2, 1) by decide +kernel) (z_le rfl) rfl ?_
  exact k
set_option maxRecDepth 20000 in
theorem wp_Z_onSet_4 {X : Nat × (Nat → Int32)} {d : Nat} {G : zG} {I : zI} {res : Option Value × zG × zI} (x1 : Int32) (x2 : Int32) (hS : SG G) 
    (k : ((I 57 0) ≤ x2 → res = (some (.int x1), G, I)) ∧ (¬ (I 57 0) ≤ x2 → ∃ (r4 : Int32) (I2 : zI), Cv X d 143 [.ref 57, .int x2] G I (some (.int r4), G, I2) ∧ ((r4 = 0 → ∀ y6 : Int32, y6 = (x1 ||| 0) → ∀ y7 : Int32, y7 = x2 + 1 → Ev X (d + 1) 142 4 [.ref 57, .int y6, .int y7] [] G I2 res) ∧ (¬ r4 = 0 → ∀ y8 : Int32, y8 = (x1 ||| (1 <<< (x2 &&& 31))) → ∀ y9 : Int32, y9 = x2 + 1 → Ev X (d + 1) 142 4 [.ref 57, .int y8, .int y9] [] G I2 res)))) :
    Ev X (d + 1) 142 4 [.ref 57, .int x1, .int x2] [] G I res := by
  refine Ev_iload_n hq_142 (show decode prog_7_method_9_code 4 = .ok (.iload_n 2, 1) by decide +kernel) rfl ?_
  refine Ev_aload_n hq_142 (show decode prog_7_method_9_code 5 = .ok (.aload_n 0, 1) by decide +kernel) rfl ?_
  refine Ev_getI hq_142 (show decode prog_7_method_9_code 6 = .ok (.getfield 87, 3) by decide +kernel) rfl (SGn hS (by decide)) (SGk hS rfl) (by decide) rfl ?_
  refine Ev_icmp_ge (tgt := 36) hq_142 (show decode prog_7_method_9_code 9 = .ok (.if_icmp .ge 27, 3) by decide +kernel) (by decide) (fun c1 => ?_) (fun c1 => ?_)
  · have k := k.1 c1
    refine Ev_iload_n hq_142 (show decode prog_7_method_9_code 36 = .ok (.iload_n 1, 1) by decide +kernel) rfl ?_
    exact Ev_iret hq_142 (show decode prog_7_method_9_code 37 = .ok (.ireturn, 1) by decide +kernel) rfl k
  · have k := k.2 c1
    refine Ev_iload_n hq_142 (show decode prog_7_method_9_code 12 = .ok (.iload_n 1, 1) by decide +kernel) rfl ?_
    refine Ev_aload_n hq_142 (show decode prog_7_method_9_code 13 = .ok (.aload_n 0, 1) by decide +kernel) rfl ?_
    refine Ev_iload_n hq_142 (show decode prog_7_method_9_code 14 = .ok (.iload_n 2, 1) by decide +kernel) rfl ?_
    obtain ⟨r4, I2, h3, k⟩ := k
    refine Ev_virt (as := [.int x2]) hq_142 (show decode prog_7_method_9_code 15 = .ok (.invokevirtual 94, 3) by decide +kernel) rfl hq_143 rfl (z_le rfl) ⟨(SGn hS (by decide)), (SGk hS rfl), by decide⟩ h3 ?_
    refine Ev_if_eq (tgt := 27) hq_142 (show decode prog_7_method_9_code 18 = .ok (.ifCond .eq 9, 3) by decide +kernel) (by decide) (fun c5 => ?_) (fun c5 => ?_)
    · have k := k.1 c5
      refine Ev_iconst (v := 0) hq_142 (show decode prog_7_method_9_code 27 = .ok (.iconst 0, 1) by decide +kernel) (by decide) ?_
      refine Ev_ior hq_142 (show decode prog_7_method_9_code 28 = .ok (.ior, 1) by decide +kernel) ?_
      obtain ⟨y6, ey6⟩ : ∃ y6 : Int32, y6 = (x1 ||| 0) := ⟨_, rfl⟩
      have k := k y6 ey6
      rw [← ey6]
      refine Ev_istore_n (lo2 := [.ref 57, .int y6, .int x2]) hq_142 (show decode prog_7_method_9_code 29 = .ok (.istore_n 1, 1) by decide +kernel) (z_le rfl) rfl ?_
      obtain ⟨y7, ey7⟩ : ∃ y7 : Int32, y7 = x2 + 1 := ⟨_, rfl⟩
      have k := k y7 ey7
      refine Ev_iinc (v := y7) (lo2 := [.ref 57, .int y6, .int y7]) hq_142 (show decode prog_7_method_9_code 30 = .ok (.iinc 2 1, 3) by decide +kernel) rfl (by rw [ey7]; rfl) rfl ?_
      refine Ev_goto (tgt := 4) hq_142 (show decode prog_7_method_9_code 33 = .ok (.goto (-29), 3) by decide +kernel) (by decide) ?_
      exact k
    · have k := k.2 c5
      refine Ev_iconst (v := 1) hq_142 (show decode prog_7_method_9_code 21 = .ok (.iconst 1, 1) by decide +kernel) (by decide) ?_
      refine Ev_iload_n hq_142 (show decode prog_7_method_9_code 22 = .ok (.iload_n 2, 1) by decide +kernel) rfl ?_
      refine Ev_ishl hq_142 (show decode prog_7_method_9_code 23 = .ok (.ishl, 1) by decide +kernel) ?_
      refine Ev_goto (tgt := 28) hq_142 (show decode prog_7_method_9_code 24 = .ok (.goto 4, 3) by decide +kernel) (by decide) ?_
      refine Ev_ior hq_142 (show decode prog_7_method_9_code 28 = .ok (.ior, 1) by decide +kernel) ?_
      obtain ⟨y8, ey8⟩ : ∃ y8 : Int32, y8 = (x1 ||| (1 <<< (x2 &&& 31))) := ⟨_, rfl⟩
      have k := k y8 ey8
      rw [← ey8]
      refine Ev_istore_n (lo2 := [.ref 57, .int y8, .int x2]) hq_142 (show decode prog_7_method_9_code 29 = .ok (.istore_n 1, 1) by decide +kernel) (z_le rfl) rfl ?_
      obtain ⟨y9, ey9⟩ : ∃ y9 : Int32, y9 = x2 + 1 := ⟨_, rfl⟩
      have k := k y9 ey9
      refine Ev_iinc (v := y9) (lo2 := [.ref 57, .int y8, .int y9]) hq_142 (show decode prog_7_method_9_code 30 = .ok (.iinc 2 1, 3) by decide +kernel) rfl (by rw [ey9]; rfl) rfl ?_
      refine Ev_goto (tgt := 4) hq_142 (show decode prog_7_method_9_code 33 = .ok (.goto (-29), 3) by decide +kernel) (by decide) ?_
      exact k
set_option maxRecDepth 20000 in
theorem wp_Z_count {X : Nat × (Nat → Int32)} {d : Nat} {G : zG} {I : zI} {res : Option Value × zG × zI} (x1 : Int32) (hS : SG G) 
    (k : (x1 = 0 → res = (some (.int (I 57 0)), G, I)) ∧ (¬ x1 = 0 → (x1 = 1 → ∃ (r5 : Int32) (I3 : zI), Cv X d 142 [.ref 57] G I (some (.int r5), G, I3) ∧ (res = (some (.int r5), G, I3))) ∧ (¬ x1 = 1 → (x1 = 2 → res = (some (.int (I 57 8)), G, I)) ∧ (¬ x1 = 2 → (x1 = 3 → res = (some (.int (I 57 9)), G, I)) ∧ (¬ x1 = 3 → (x1 = 4 → res = (some (.int (I 57 5)), G, I)) ∧ (¬ x1 = 4 → res = (some (.int (-2)), G, I))))))) :
    Ev X (d + 1) 141 0 [.ref 57, .int x1] [] G I res := by
  refine Ev_iload_n hq_141 (show decode prog_7_method_10_code 0 = .ok (.iload_n 1, 1) by decide +kernel) rfl ?_
  by_cases c1 : x1 = 0
  · have k := k.1 c1
    refine Ev_tableIn (off := 35) (tgt := 36) hq_141 (show decode prog_7_method_10_code 1 = .ok (.tableswitch 60 0 4 #[35, 40, 45, 50, 55], 35) by decide +kernel) (by rw [c1]; decide) (by rw [c1]; decide) (by rw [c1]; decide) (by decide) ?_
    refine Ev_aload_n hq_141 (show decode prog_7_method_10_code 36 = .ok (.aload_n 0, 1) by decide +kernel) rfl ?_
    refine Ev_getI hq_141 (show decode prog_7_method_10_code 37 = .ok (.getfield 87, 3) by decide +kernel) rfl (SGn hS (by decide)) (SGk hS rfl) (by decide) rfl ?_
    exact Ev_iret hq_141 (show decode prog_7_method_10_code 40 = .ok (.ireturn, 1) by decide +kernel) rfl k
  have k := k.2 c1
  by_cases c2 : x1 = 1
  · have k := k.1 c2
    refine Ev_tableIn (off := 40) (tgt := 41) hq_141 (show decode prog_7_method_10_code 1 = .ok (.tableswitch 60 0 4 #[35, 40, 45, 50, 55], 35) by decide +kernel) (by rw [c2]; decide) (by rw [c2]; decide) (by rw [c2]; decide) (by decide) ?_
    refine Ev_aload_n hq_141 (show decode prog_7_method_10_code 41 = .ok (.aload_n 0, 1) by decide +kernel) rfl ?_
    obtain ⟨r5, I3, h4, k⟩ := k
    refine Ev_virt (as := []) hq_141 (show decode prog_7_method_10_code 42 = .ok (.invokevirtual 98, 3) by decide +kernel) rfl hq_142 rfl (z_le rfl) ⟨(SGn hS (by decide)), (SGk hS rfl), by decide⟩ h4 ?_
    exact Ev_iret hq_141 (show decode prog_7_method_10_code 45 = .ok (.ireturn, 1) by decide +kernel) rfl k
  have k := k.2 c2
  by_cases c6 : x1 = 2
  · have k := k.1 c6
    refine Ev_tableIn (off := 45) (tgt := 46) hq_141 (show decode prog_7_method_10_code 1 = .ok (.tableswitch 60 0 4 #[35, 40, 45, 50, 55], 35) by decide +kernel) (by rw [c6]; decide) (by rw [c6]; decide) (by rw [c6]; decide) (by decide) ?_
    refine Ev_aload_n hq_141 (show decode prog_7_method_10_code 46 = .ok (.aload_n 0, 1) by decide +kernel) rfl ?_
    refine Ev_getI hq_141 (show decode prog_7_method_10_code 47 = .ok (.getfield 101, 3) by decide +kernel) rfl (SGn hS (by decide)) (SGk hS rfl) (by decide) rfl ?_
    exact Ev_iret hq_141 (show decode prog_7_method_10_code 50 = .ok (.ireturn, 1) by decide +kernel) rfl k
  have k := k.2 c6
  by_cases c7 : x1 = 3
  · have k := k.1 c7
    refine Ev_tableIn (off := 50) (tgt := 51) hq_141 (show decode prog_7_method_10_code 1 = .ok (.tableswitch 60 0 4 #[35, 40, 45, 50, 55], 35) by decide +kernel) (by rw [c7]; decide) (by rw [c7]; decide) (by rw [c7]; decide) (by decide) ?_
    refine Ev_aload_n hq_141 (show decode prog_7_method_10_code 51 = .ok (.aload_n 0, 1) by decide +kernel) rfl ?_
    refine Ev_getI hq_141 (show decode prog_7_method_10_code 52 = .ok (.getfield 104, 3) by decide +kernel) rfl (SGn hS (by decide)) (SGk hS rfl) (by decide) rfl ?_
    exact Ev_iret hq_141 (show decode prog_7_method_10_code 55 = .ok (.ireturn, 1) by decide +kernel) rfl k
  have k := k.2 c7
  by_cases c8 : x1 = 4
  · have k := k.1 c8
    refine Ev_tableIn (off := 55) (tgt := 56) hq_141 (show decode prog_7_method_10_code 1 = .ok (.tableswitch 60 0 4 #[35, 40, 45, 50, 55], 35) by decide +kernel) (by rw [c8]; decide) (by rw [c8]; decide) (by rw [c8]; decide) (by decide) ?_
    refine Ev_aload_n hq_141 (show decode prog_7_method_10_code 56 = .ok (.aload_n 0, 1) by decide +kernel) rfl ?_
    refine Ev_getI hq_141 (show decode prog_7_method_10_code 57 = .ok (.getfield 80, 3) by decide +kernel) rfl (SGn hS (by decide)) (SGk hS rfl) (by decide) rfl ?_
    exact Ev_iret hq_141 (show decode prog_7_method_10_code 60 = .ok (.ireturn, 1) by decide +kernel) rfl k
  have k := k.2 c8
  have ec1 : (x1).toInt ≠ 0 := z_ne (k := 0) c1
  have ec2 : (x1).toInt ≠ 1 := z_ne (k := 1) c2
  have ec6 : (x1).toInt ≠ 2 := z_ne (k := 2) c6
  have ec7 : (x1).toInt ≠ 3 := z_ne (k := 3) c7
  have ec8 : (x1).toInt ≠ 4 := z_ne (k := 4) c8
  refine Ev_tableOut (tgt := 61) hq_141 (show decode prog_7_method_10_code 1 = .ok (.tableswitch 60 0 4 #[35, 40, 45, 50, 55], 35) by decide +kernel) (by omega) (by decide) ?_
  refine Ev_bipush (v := (-2)) hq_141 (show decode prog_7_method_10_code 61 = .ok (.bipush (-2), 2) by decide +kernel) (by decide) ?_
  exact Ev_iret hq_141 (show decode prog_7_method_10_code 63 = .ok (.ireturn, 1) by decide +kernel) rfl k
set_option maxRecDepth 20000 in
theorem wp_Z_isByte {X : Nat × (Nat → Int32)} {d : Nat} {G : zG} {I : zI} {res : Option Value × zG × zI} (x0 : Int32) 
    (k : res = (some (.int (f_Z_in x0 0 255)), G, I)) :
    Ev X (d + 1) 145 0 [.int x0] [] G I res := by
  refine Ev_iload_n hq_145 (show decode prog_7_method_11_code 0 = .ok (.iload_n 0, 1) by decide +kernel) rfl ?_
  refine Ev_iconst (v := 0) hq_145 (show decode prog_7_method_11_code 1 = .ok (.iconst 0, 1) by decide +kernel) (by decide) ?_
  refine Ev_sipush (v := 255) hq_145 (show decode prog_7_method_11_code 2 = .ok (.sipush 255, 3) by decide +kernel) (by decide) ?_
  refine Ev_stat (as := [.int x0, .int 0, .int 255]) hq_145 (show decode prog_7_method_11_code 5 = .ok (.invokestatic 90, 3) by decide +kernel) rfl (Or.inl rfl) hq_131 rfl (z_le rfl) (c_Z_in x0 0 255) ?_
  exact Ev_iret hq_145 (show decode prog_7_method_11_code 8 = .ok (.ireturn, 1) by decide +kernel) (z_nb (b_Z_in x0 0 255)) k
def f_Z_isByte (x0 : Int32) : Int32 := (f_Z_in x0 0 255)
theorem c_Z_isByte {X : Nat × (Nat → Int32)} {d : Nat} {G : zG} {I : zI} (hd : 1 ≤ d) (x0 : Int32) : Cv X d 145 [.int x0] G I (some (.int (f_Z_isByte x0)), G, I) := by
  obtain ⟨d, rfl⟩ : ∃ e, d = e + 1 := ⟨d - 1, by omega⟩
  exact Cv.of hq_145 (z_le rfl) rfl (wp_Z_isByte x0 (by rfl))
theorem b_Z_isByte (x0 : Int32) : f_Z_isByte x0 = 0 ∨ f_Z_isByte x0 = 1 := by
  unfold f_Z_isByte
  repeat (any_goals split)
  all_goals first | exact Or.inl rfl | exact Or.inr rfl | exact b_Z_in ..
set_option maxRecDepth 20000 in
theorem wp_Z_feed {X : Nat × (Nat → Int32)} {d : Nat} {G : zG} {I : zI} {res : Option Value × zG × zI} (x1 : Int32) (x2 : Int32) (x3 : Int32) (x4 : Int32) (x5 : Int32) (x6 : Int32) (hd : 1 ≤ d) (hS : SG G) 
    (k : ((f_Z_in x1 1 5) = 0 → res = (some (.int (-2)), G, I)) ∧ (¬ (f_Z_in x1 1 5) = 0 → ((f_Z_isByte x2) = 0 → res = (some (.int (-2)), G, I)) ∧ (¬ (f_Z_isByte x2) = 0 → ((f_Z_isByte x3) = 0 → res = (some (.int (-2)), G, I)) ∧ (¬ (f_Z_isByte x3) = 0 → ((f_Z_isByte x4) = 0 → res = (some (.int (-2)), G, I)) ∧ (¬ (f_Z_isByte x4) = 0 → ((f_Z_isByte x5) = 0 → res = (some (.int (-2)), G, I)) ∧ (¬ (f_Z_isByte x5) = 0 → (¬ (f_Z_isByte x6) = 0 → (((I 57 5) + x1) ≤ 160 → Ev X (d + 1) 144 68 [.ref 57, .int x1, .int x2, .int x3, .int x4, .int x5, .int x6, .int 0] [] G I res) ∧ (¬ ((I 57 5) + x1) ≤ 160 → res = (some (.int (-4)), G, I))) ∧ ((f_Z_isByte x6) = 0 → res = (some (.int (-2)), G, I)))))))) :
    Ev X (d + 1) 144 0 [.ref 57, .int x1, .int x2, .int x3, .int x4, .int x5, .int x6, zU] [] G I res := by
  refine Ev_iload_n hq_144 (show decode prog_7_method_12_code 0 = .ok (.iload_n 1, 1) by decide +kernel) rfl ?_
  refine Ev_iconst (v := 1) hq_144 (show decode prog_7_method_12_code 1 = .ok (.iconst 1, 1) by decide +kernel) (by decide) ?_
  refine Ev_iconst (v := 5) hq_144 (show decode prog_7_method_12_code 2 = .ok (.iconst 5, 1) by decide +kernel) (by decide) ?_
  refine Ev_stat (as := [.int x1, .int 1, .int 5]) hq_144 (show decode prog_7_method_12_code 3 = .ok (.invokestatic 90, 3) by decide +kernel) rfl (Or.inl rfl) hq_131 rfl (z_le rfl) (c_Z_in x1 1 5) ?_
  refine Ev_if_eq (tgt := 47) hq_144 (show decode prog_7_method_12_code 6 = .ok (.ifCond .eq 41, 3) by decide +kernel) (by decide) (fun c1 => ?_) (fun c1 => ?_)
  · have k := k.1 c1
    refine Ev_bipush (v := (-2)) hq_144 (show decode prog_7_method_12_code 47 = .ok (.bipush (-2), 2) by decide +kernel) (by decide) ?_
    exact Ev_iret hq_144 (show decode prog_7_method_12_code 49 = .ok (.ireturn, 1) by decide +kernel) rfl k
  · have k := k.2 c1
    refine Ev_iload_n hq_144 (show decode prog_7_method_12_code 9 = .ok (.iload_n 2, 1) by decide +kernel) rfl ?_
    refine Ev_stat (as := [.int x2]) hq_144 (show decode prog_7_method_12_code 10 = .ok (.invokestatic 107, 3) by decide +kernel) rfl (Or.inl rfl) hq_145 rfl (z_le rfl) (c_Z_isByte (by omega) x2) ?_
    refine Ev_if_eq (tgt := 47) hq_144 (show decode prog_7_method_12_code 13 = .ok (.ifCond .eq 34, 3) by decide +kernel) (by decide) (fun c2 => ?_) (fun c2 => ?_)
    · have k := k.1 c2
      refine Ev_bipush (v := (-2)) hq_144 (show decode prog_7_method_12_code 47 = .ok (.bipush (-2), 2) by decide +kernel) (by decide) ?_
      exact Ev_iret hq_144 (show decode prog_7_method_12_code 49 = .ok (.ireturn, 1) by decide +kernel) rfl k
    · have k := k.2 c2
      refine Ev_iload_n hq_144 (show decode prog_7_method_12_code 16 = .ok (.iload_n 3, 1) by decide +kernel) rfl ?_
      refine Ev_stat (as := [.int x3]) hq_144 (show decode prog_7_method_12_code 17 = .ok (.invokestatic 107, 3) by decide +kernel) rfl (Or.inl rfl) hq_145 rfl (z_le rfl) (c_Z_isByte (by omega) x3) ?_
      refine Ev_if_eq (tgt := 47) hq_144 (show decode prog_7_method_12_code 20 = .ok (.ifCond .eq 27, 3) by decide +kernel) (by decide) (fun c3 => ?_) (fun c3 => ?_)
      · have k := k.1 c3
        refine Ev_bipush (v := (-2)) hq_144 (show decode prog_7_method_12_code 47 = .ok (.bipush (-2), 2) by decide +kernel) (by decide) ?_
        exact Ev_iret hq_144 (show decode prog_7_method_12_code 49 = .ok (.ireturn, 1) by decide +kernel) rfl k
      · have k := k.2 c3
        refine Ev_iload hq_144 (show decode prog_7_method_12_code 23 = .ok (.iload 4, 2) by decide +kernel) rfl ?_
        refine Ev_stat (as := [.int x4]) hq_144 (show decode prog_7_method_12_code 25 = .ok (.invokestatic 107, 3) by decide +kernel) rfl (Or.inl rfl) hq_145 rfl (z_le rfl) (c_Z_isByte (by omega) x4) ?_
        refine Ev_if_eq (tgt := 47) hq_144 (show decode prog_7_method_12_code 28 = .ok (.ifCond .eq 19, 3) by decide +kernel) (by decide) (fun c4 => ?_) (fun c4 => ?_)
        · have k := k.1 c4
          refine Ev_bipush (v := (-2)) hq_144 (show decode prog_7_method_12_code 47 = .ok (.bipush (-2), 2) by decide +kernel) (by decide) ?_
          exact Ev_iret hq_144 (show decode prog_7_method_12_code 49 = .ok (.ireturn, 1) by decide +kernel) rfl k
        · have k := k.2 c4
          refine Ev_iload hq_144 (show decode prog_7_method_12_code 31 = .ok (.iload 5, 2) by decide +kernel) rfl ?_
          refine Ev_stat (as := [.int x5]) hq_144 (show decode prog_7_method_12_code 33 = .ok (.invokestatic 107, 3) by decide +kernel) rfl (Or.inl rfl) hq_145 rfl (z_le rfl) (c_Z_isByte (by omega) x5) ?_
          refine Ev_if_eq (tgt := 47) hq_144 (show decode prog_7_method_12_code 36 = .ok (.ifCond .eq 11, 3) by decide +kernel) (by decide) (fun c5 => ?_) (fun c5 => ?_)
          · have k := k.1 c5
            refine Ev_bipush (v := (-2)) hq_144 (show decode prog_7_method_12_code 47 = .ok (.bipush (-2), 2) by decide +kernel) (by decide) ?_
            exact Ev_iret hq_144 (show decode prog_7_method_12_code 49 = .ok (.ireturn, 1) by decide +kernel) rfl k
          · have k := k.2 c5
            refine Ev_iload hq_144 (show decode prog_7_method_12_code 39 = .ok (.iload 6, 2) by decide +kernel) rfl ?_
            refine Ev_stat (as := [.int x6]) hq_144 (show decode prog_7_method_12_code 41 = .ok (.invokestatic 107, 3) by decide +kernel) rfl (Or.inl rfl) hq_145 rfl (z_le rfl) (c_Z_isByte (by omega) x6) ?_
            refine Ev_if_ne (tgt := 50) hq_144 (show decode prog_7_method_12_code 44 = .ok (.ifCond .ne 6, 3) by decide +kernel) (by decide) (fun c6 => ?_) (fun c6 => ?_)
            · have k := k.1 c6
              refine Ev_aload_n hq_144 (show decode prog_7_method_12_code 50 = .ok (.aload_n 0, 1) by decide +kernel) rfl ?_
              refine Ev_getI hq_144 (show decode prog_7_method_12_code 51 = .ok (.getfield 80, 3) by decide +kernel) rfl (SGn hS (by decide)) (SGk hS rfl) (by decide) rfl ?_
              refine Ev_iload_n hq_144 (show decode prog_7_method_12_code 54 = .ok (.iload_n 1, 1) by decide +kernel) rfl ?_
              refine Ev_iadd hq_144 (show decode prog_7_method_12_code 55 = .ok (.iadd, 1) by decide +kernel) ?_
              refine Ev_sipush (v := 160) hq_144 (show decode prog_7_method_12_code 56 = .ok (.sipush 160, 3) by decide +kernel) (by decide) ?_
              refine Ev_icmp_le (tgt := 65) hq_144 (show decode prog_7_method_12_code 59 = .ok (.if_icmp .le 6, 3) by decide +kernel) (by decide) (fun c7 => ?_) (fun c7 => ?_)
              · have k := k.1 c7
                refine Ev_iconst (v := 0) hq_144 (show decode prog_7_method_12_code 65 = .ok (.iconst 0, 1) by decide +kernel) (by decide) ?_
                refine Ev_istore (lo2 := [.ref 57, .int x1, .int x2, .int x3, .int x4, .int x5, .int x6, .int 0]) hq_144 (show decode prog_7_method_12_code 66 = .ok (.istore 7, 2) by decide +kernel) (z_le rfl) rfl ?_
                exact k
              · have k := k.2 c7
                refine Ev_bipush (v := (-4)) hq_144 (show decode prog_7_method_12_code 62 = .ok (.bipush (-4), 2) by decide +kernel) (by decide) ?_
                exact Ev_iret hq_144 (show decode prog_7_method_12_code 64 = .ok (.ireturn, 1) by decide +kernel) rfl k
            · have k := k.2 (Classical.not_not.mp c6)
              refine Ev_bipush (v := (-2)) hq_144 (show decode prog_7_method_12_code 47 = .ok (.bipush (-2), 2) by decide +kernel) (by decide) ?_
              exact Ev_iret hq_144 (show decode prog_7_method_12_code 49 = .ok (.ireturn, 1) by decide +kernel) rfl k
set_option maxRecDepth 20000 in
theorem wp_Z_feed_68 {X : Nat × (Nat → Int32)} {d : Nat} {G : zG} {I : zI} {res : Option Value × zG × zI} (x1 : Int32) (x2 : Int32) (x3 : Int32) (x4 : Int32) (x5 : Int32) (x6 : Int32) (x7 : Int32) (hS : SG G) 
    (k : (x1 ≤ x7 → res = (some (.int (I 57 5)), G, I)) ∧ (¬ x1 ≤ x7 → (¬ x7 = 0 → (¬ x7 = 1 → (¬ x7 = 2 → (¬ x7 = 3 → z_inr (I 57 5) 160 ∧ (∀ I7 : zI, I7 = z_up I 61 (I 57 5).toNatClampNeg x6 → (∀ I8 : zI, I8 = z_up I7 57 5 ((I7 57 5) + 1) → ∀ y9 : Int32, y9 = x7 + 1 → Ev X d 144 68 [.ref 57, .int x1, .int x2, .int x3, .int x4, .int x5, .int x6, .int y9] [] G I8 res))) ∧ (x7 = 3 → z_inr (I 57 5) 160 ∧ (∀ I11 : zI, I11 = z_up I 61 (I 57 5).toNatClampNeg x5 → (∀ I12 : zI, I12 = z_up I11 57 5 ((I11 57 5) + 1) → ∀ y13 : Int32, y13 = x7 + 1 → Ev X d 144 68 [.ref 57, .int x1, .int x2, .int x3, .int x4, .int x5, .int x6, .int y13] [] G I12 res)))) ∧ (x7 = 2 → z_inr (I 57 5) 160 ∧ (∀ I15 : zI, I15 = z_up I 61 (I 57 5).toNatClampNeg x4 → (∀ I16 : zI, I16 = z_up I15 57 5 ((I15 57 5) + 1) → ∀ y17 : Int32, y17 = x7 + 1 → Ev X d 144 68 [.ref 57, .int x1, .int x2, .int x3, .int x4, .int x5, .int x6, .int y17] [] G I16 res)))) ∧ (x7 = 1 → z_inr (I 57 5) 160 ∧ (∀ I19 : zI, I19 = z_up I 61 (I 57 5).toNatClampNeg x3 → (∀ I20 : zI, I20 = z_up I19 57 5 ((I19 57 5) + 1) → ∀ y21 : Int32, y21 = x7 + 1 → Ev X d 144 68 [.ref 57, .int x1, .int x2, .int x3, .int x4, .int x5, .int x6, .int y21] [] G I20 res)))) ∧ (x7 = 0 → z_inr (I 57 5) 160 ∧ (∀ I23 : zI, I23 = z_up I 61 (I 57 5).toNatClampNeg x2 → (∀ I24 : zI, I24 = z_up I23 57 5 ((I23 57 5) + 1) → ∀ y25 : Int32, y25 = x7 + 1 → Ev X d 144 68 [.ref 57, .int x1, .int x2, .int x3, .int x4, .int x5, .int x6, .int y25] [] G I24 res))))) :
    Ev X d 144 68 [.ref 57, .int x1, .int x2, .int x3, .int x4, .int x5, .int x6, .int x7] [] G I res := by
  refine Ev_iload hq_144 (show decode prog_7_method_12_code 68 = .ok (.iload 7, 2) by decide +kernel) rfl ?_
  refine Ev_iload_n hq_144 (show decode prog_7_method_12_code 70 = .ok (.iload_n 1, 1) by decide +kernel) rfl ?_
  refine Ev_icmp_ge (tgt := 142) hq_144 (show decode prog_7_method_12_code 71 = .ok (.if_icmp .ge 71, 3) by decide +kernel) (by decide) (fun c1 => ?_) (fun c1 => ?_)
  · have k := k.1 c1
    refine Ev_aload_n hq_144 (show decode prog_7_method_12_code 142 = .ok (.aload_n 0, 1) by decide +kernel) rfl ?_
    refine Ev_getI hq_144 (show decode prog_7_method_12_code 143 = .ok (.getfield 80, 3) by decide +kernel) rfl (SGn hS (by decide)) (SGk hS rfl) (by decide) rfl ?_
    exact Ev_iret hq_144 (show decode prog_7_method_12_code 146 = .ok (.ireturn, 1) by decide +kernel) rfl k
  · have k := k.2 c1
    refine Ev_aload_n hq_144 (show decode prog_7_method_12_code 74 = .ok (.aload_n 0, 1) by decide +kernel) rfl ?_
    refine Ev_getR hq_144 (show decode prog_7_method_12_code 75 = .ok (.getfield 19, 3) by decide +kernel) rfl (SGn hS (by decide)) (SGk hS rfl) (by decide) rfl (SGr hS rfl) ?_
    refine Ev_aload_n hq_144 (show decode prog_7_method_12_code 78 = .ok (.aload_n 0, 1) by decide +kernel) rfl ?_
    refine Ev_getI hq_144 (show decode prog_7_method_12_code 79 = .ok (.getfield 80, 3) by decide +kernel) rfl (SGn hS (by decide)) (SGk hS rfl) (by decide) rfl ?_
    refine Ev_iload hq_144 (show decode prog_7_method_12_code 82 = .ok (.iload 7, 2) by decide +kernel) rfl ?_
    refine Ev_if_ne (tgt := 91) hq_144 (show decode prog_7_method_12_code 84 = .ok (.ifCond .ne 7, 3) by decide +kernel) (by decide) (fun c2 => ?_) (fun c2 => ?_)
    · have k := k.1 c2
      refine Ev_iload hq_144 (show decode prog_7_method_12_code 91 = .ok (.iload 7, 2) by decide +kernel) rfl ?_
      refine Ev_iconst (v := 1) hq_144 (show decode prog_7_method_12_code 93 = .ok (.iconst 1, 1) by decide +kernel) (by decide) ?_
      refine Ev_icmp_ne (tgt := 101) hq_144 (show decode prog_7_method_12_code 94 = .ok (.if_icmp .ne 7, 3) by decide +kernel) (by decide) (fun c3 => ?_) (fun c3 => ?_)
      · have k := k.1 c3
        refine Ev_iload hq_144 (show decode prog_7_method_12_code 101 = .ok (.iload 7, 2) by decide +kernel) rfl ?_
        refine Ev_iconst (v := 2) hq_144 (show decode prog_7_method_12_code 103 = .ok (.iconst 2, 1) by decide +kernel) (by decide) ?_
        refine Ev_icmp_ne (tgt := 112) hq_144 (show decode prog_7_method_12_code 104 = .ok (.if_icmp .ne 8, 3) by decide +kernel) (by decide) (fun c4 => ?_) (fun c4 => ?_)
        · have k := k.1 c4
          refine Ev_iload hq_144 (show decode prog_7_method_12_code 112 = .ok (.iload 7, 2) by decide +kernel) rfl ?_
          refine Ev_iconst (v := 3) hq_144 (show decode prog_7_method_12_code 114 = .ok (.iconst 3, 1) by decide +kernel) (by decide) ?_
          refine Ev_icmp_ne (tgt := 123) hq_144 (show decode prog_7_method_12_code 115 = .ok (.if_icmp .ne 8, 3) by decide +kernel) (by decide) (fun c5 => ?_) (fun c5 => ?_)
          · have k := k.1 c5
            refine Ev_iload hq_144 (show decode prog_7_method_12_code 123 = .ok (.iload 6, 2) by decide +kernel) rfl ?_
            obtain ⟨h6, k⟩ := k
            refine Ev_iast hq_144 (show decode prog_7_method_12_code 125 = .ok (.iastore, 1) by decide +kernel) (SGn hS (by decide)) (SGk hS rfl) (SGi hS rfl h6) ?_
            obtain ⟨I7, eI7⟩ : ∃ I7 : zI, I7 = z_up I 61 (I 57 5).toNatClampNeg x6 := ⟨_, rfl⟩
            have k := k I7 eI7
            rw [← eI7]
            refine Ev_aload_n hq_144 (show decode prog_7_method_12_code 126 = .ok (.aload_n 0, 1) by decide +kernel) rfl ?_
            refine Ev_dup hq_144 (show decode prog_7_method_12_code 127 = .ok (.dup, 1) by decide +kernel) rfl ?_
            refine Ev_getI hq_144 (show decode prog_7_method_12_code 128 = .ok (.getfield 80, 3) by decide +kernel) rfl (SGn hS (by decide)) (SGk hS rfl) (by decide) rfl ?_
            refine Ev_iconst (v := 1) hq_144 (show decode prog_7_method_12_code 131 = .ok (.iconst 1, 1) by decide +kernel) (by decide) ?_
            refine Ev_iadd hq_144 (show decode prog_7_method_12_code 132 = .ok (.iadd, 1) by decide +kernel) ?_
            refine Ev_putI hq_144 (show decode prog_7_method_12_code 133 = .ok (.putfield 80, 3) by decide +kernel) rfl (SGn hS (by decide)) (SGk hS rfl) (by decide) (by decide) rfl (fun hz => by cases hz) ?_
            obtain ⟨I8, eI8⟩ : ∃ I8 : zI, I8 = z_up I7 57 5 ((I7 57 5) + 1) := ⟨_, rfl⟩
            have k := k I8 eI8
            rw [← eI8]
            obtain ⟨y9, ey9⟩ : ∃ y9 : Int32, y9 = x7 + 1 := ⟨_, rfl⟩
            have k := k y9 ey9
            refine Ev_iinc (v := y9) (lo2 := [.ref 57, .int x1, .int x2, .int x3, .int x4, .int x5, .int x6, .int y9]) hq_144 (show decode prog_7_method_12_code 136 = .ok (.iinc 7 1, 3) by decide +kernel) rfl (by rw [ey9]; rfl) rfl ?_
            refine Ev_goto (tgt := 68) hq_144 (show decode prog_7_method_12_code 139 = .ok (.goto (-71), 3) by decide +kernel) (by decide) ?_
            exact k
          · have k := k.2 (Classical.not_not.mp c5)
            refine Ev_iload hq_144 (show decode prog_7_method_12_code 118 = .ok (.iload 5, 2) by decide +kernel) rfl ?_
            refine Ev_goto (tgt := 125) hq_144 (show decode prog_7_method_12_code 120 = .ok (.goto 5, 3) by decide +kernel) (by decide) ?_
            obtain ⟨h10, k⟩ := k
            refine Ev_iast hq_144 (show decode prog_7_method_12_code 125 = .ok (.iastore, 1) by decide +kernel) (SGn hS (by decide)) (SGk hS rfl) (SGi hS rfl h10) ?_
            obtain ⟨I11, eI11⟩ : ∃ I11 : zI, I11 = z_up I 61 (I 57 5).toNatClampNeg x5 := ⟨_, rfl⟩
            have k := k I11 eI11
            rw [← eI11]
            refine Ev_aload_n hq_144 (show decode prog_7_method_12_code 126 = .ok (.aload_n 0, 1) by decide +kernel) rfl ?_
            refine Ev_dup hq_144 (show decode prog_7_method_12_code 127 = .ok (.dup, 1) by decide +kernel) rfl ?_
            refine Ev_getI hq_144 (show decode prog_7_method_12_code 128 = .ok (.getfield 80, 3) by decide +kernel) rfl (SGn hS (by decide)) (SGk hS rfl) (by decide) rfl ?_
            refine Ev_iconst (v := 1) hq_144 (show decode prog_7_method_12_code 131 = .ok (.iconst 1, 1) by decide +kernel) (by decide) ?_
            refine Ev_iadd hq_144 (show decode prog_7_method_12_code 132 = .ok (.iadd, 1) by decide +kernel) ?_
            refine Ev_putI hq_144 (show decode prog_7_method_12_code 133 = .ok (.putfield 80, 3) by decide +kernel) rfl (SGn hS (by decide)) (SGk hS rfl) (by decide) (by decide) rfl (fun hz => by cases hz) ?_
            obtain ⟨I12, eI12⟩ : ∃ I12 : zI, I12 = z_up I11 57 5 ((I11 57 5) + 1) := ⟨_, rfl⟩
            have k := k I12 eI12
            rw [← eI12]
            obtain ⟨y13, ey13⟩ : ∃ y13 : Int32, y13 = x7 + 1 := ⟨_, rfl⟩
            have k := k y13 ey13
            refine Ev_iinc (v := y13) (lo2 := [.ref 57, .int x1, .int x2, .int x3, .int x4, .int x5, .int x6, .int y13]) hq_144 (show decode prog_7_method_12_code 136 = .ok (.iinc 7 1, 3) by decide +kernel) rfl (by rw [ey13]; rfl) rfl ?_
            refine Ev_goto (tgt := 68) hq_144 (show decode prog_7_method_12_code 139 = .ok (.goto (-71), 3) by decide +kernel) (by decide) ?_
            exact k
        · have k := k.2 (Classical.not_not.mp c4)
          refine Ev_iload hq_144 (show decode prog_7_method_12_code 107 = .ok (.iload 4, 2) by decide +kernel) rfl ?_
          refine Ev_goto (tgt := 125) hq_144 (show decode prog_7_method_12_code 109 = .ok (.goto 16, 3) by decide +kernel) (by decide) ?_
          obtain ⟨h14, k⟩ := k
          refine Ev_iast hq_144 (show decode prog_7_method_12_code 125 = .ok (.iastore, 1) by decide +kernel) (SGn hS (by decide)) (SGk hS rfl) (SGi hS rfl h14) ?_
          obtain ⟨I15, eI15⟩ : ∃ I15 : zI, I15 = z_up I 61 (I 57 5).toNatClampNeg x4 := ⟨_, rfl⟩
          have k := k I15 eI15
          rw [← eI15]
          refine Ev_aload_n hq_144 (show decode prog_7_method_12_code 126 = .ok (.aload_n 0, 1) by decide +kernel) rfl ?_
          refine Ev_dup hq_144 (show decode prog_7_method_12_code 127 = .ok (.dup, 1) by decide +kernel) rfl ?_
          refine Ev_getI hq_144 (show decode prog_7_method_12_code 128 = .ok (.getfield 80, 3) by decide +kernel) rfl (SGn hS (by decide)) (SGk hS rfl) (by decide) rfl ?_
          refine Ev_iconst (v := 1) hq_144 (show decode prog_7_method_12_code 131 = .ok (.iconst 1, 1) by decide +kernel) (by decide) ?_
          refine Ev_iadd hq_144 (show decode prog_7_method_12_code 132 = .ok (.iadd, 1) by decide +kernel) ?_
          refine Ev_putI hq_144 (show decode prog_7_method_12_code 133 = .ok (.putfield 80, 3) by decide +kernel) rfl (SGn hS (by decide)) (SGk hS rfl) (by decide) (by decide) rfl (fun hz => by cases hz) ?_
          obtain ⟨I16, eI16⟩ : ∃ I16 : zI, I16 = z_up I15 57 5 ((I15 57 5) + 1) := ⟨_, rfl⟩
          have k := k I16 eI16
          rw [← eI16]
          obtain ⟨y17, ey17⟩ : ∃ y17 : Int32, y17 = x7 + 1 := ⟨_, rfl⟩
          have k := k y17 ey17
          refine Ev_iinc (v := y17) (lo2 := [.ref 57, .int x1, .int x2, .int x3, .int x4, .int x5, .int x6, .int y17]) hq_144 (show decode prog_7_method_12_code 136 = .ok (.iinc 7 1, 3) by decide +kernel) rfl (by rw [ey17]; rfl) rfl ?_
          refine Ev_goto (tgt := 68) hq_144 (show decode prog_7_method_12_code 139 = .ok (.goto (-71), 3) by decide +kernel) (by decide) ?_
          exact k
      · have k := k.2 (Classical.not_not.mp c3)
        refine Ev_iload_n hq_144 (show decode prog_7_method_12_code 97 = .ok (.iload_n 3, 1) by decide +kernel) rfl ?_
        refine Ev_goto (tgt := 125) hq_144 (show decode prog_7_method_12_code 98 = .ok (.goto 27, 3) by decide +kernel) (by decide) ?_
        obtain ⟨h18, k⟩ := k
        refine Ev_iast hq_144 (show decode prog_7_method_12_code 125 = .ok (.iastore, 1) by decide +kernel) (SGn hS (by decide)) (SGk hS rfl) (SGi hS rfl h18) ?_
        obtain ⟨I19, eI19⟩ : ∃ I19 : zI, I19 = z_up I 61 (I 57 5).toNatClampNeg x3 := ⟨_, rfl⟩
        have k := k I19 eI19
        rw [← eI19]
        refine Ev_aload_n hq_144 (show decode prog_7_method_12_code 126 = .ok (.aload_n 0, 1) by decide +kernel) rfl ?_
        refine Ev_dup hq_144 (show decode prog_7_method_12_code 127 = .ok (.dup, 1) by decide +kernel) rfl ?_
        refine Ev_getI hq_144 (show decode prog_7_method_12_code 128 = .ok (.getfield 80, 3) by decide +kernel) rfl (SGn hS (by decide)) (SGk hS rfl) (by decide) rfl ?_
        refine Ev_iconst (v := 1) hq_144 (show decode prog_7_method_12_code 131 = .ok (.iconst 1, 1) by decide +kernel) (by decide) ?_
        refine Ev_iadd hq_144 (show decode prog_7_method_12_code 132 = .ok (.iadd, 1) by decide +kernel) ?_
        refine Ev_putI hq_144 (show decode prog_7_method_12_code 133 = .ok (.putfield 80, 3) by decide +kernel) rfl (SGn hS (by decide)) (SGk hS rfl) (by decide) (by decide) rfl (fun hz => by cases hz) ?_
        obtain ⟨I20, eI20⟩ : ∃ I20 : zI, I20 = z_up I19 57 5 ((I19 57 5) + 1) := ⟨_, rfl⟩
        have k := k I20 eI20
        rw [← eI20]
        obtain ⟨y21, ey21⟩ : ∃ y21 : Int32, y21 = x7 + 1 := ⟨_, rfl⟩
        have k := k y21 ey21
        refine Ev_iinc (v := y21) (lo2 := [.ref 57, .int x1, .int x2, .int x3, .int x4, .int x5, .int x6, .int y21]) hq_144 (show decode prog_7_method_12_code 136 = .ok (.iinc 7 1, 3) by decide +kernel) rfl (by rw [ey21]; rfl) rfl ?_
        refine Ev_goto (tgt := 68) hq_144 (show decode prog_7_method_12_code 139 = .ok (.goto (-71), 3) by decide +kernel) (by decide) ?_
        exact k
    · have k := k.2 (Classical.not_not.mp c2)
      refine Ev_iload_n hq_144 (show decode prog_7_method_12_code 87 = .ok (.iload_n 2, 1) by decide +kernel) rfl ?_
      refine Ev_goto (tgt := 125) hq_144 (show decode prog_7_method_12_code 88 = .ok (.goto 37, 3) by decide +kernel) (by decide) ?_
      obtain ⟨h22, k⟩ := k
      refine Ev_iast hq_144 (show decode prog_7_method_12_code 125 = .ok (.iastore, 1) by decide +kernel) (SGn hS (by decide)) (SGk hS rfl) (SGi hS rfl h22) ?_
      obtain ⟨I23, eI23⟩ : ∃ I23 : zI, I23 = z_up I 61 (I 57 5).toNatClampNeg x2 := ⟨_, rfl⟩
      have k := k I23 eI23
      rw [← eI23]
      refine Ev_aload_n hq_144 (show decode prog_7_method_12_code 126 = .ok (.aload_n 0, 1) by decide +kernel) rfl ?_
      refine Ev_dup hq_144 (show decode prog_7_method_12_code 127 = .ok (.dup, 1) by decide +kernel) rfl ?_
      refine Ev_getI hq_144 (show decode prog_7_method_12_code 128 = .ok (.getfield 80, 3) by decide +kernel) rfl (SGn hS (by decide)) (SGk hS rfl) (by decide) rfl ?_
      refine Ev_iconst (v := 1) hq_144 (show decode prog_7_method_12_code 131 = .ok (.iconst 1, 1) by decide +kernel) (by decide) ?_
      refine Ev_iadd hq_144 (show decode prog_7_method_12_code 132 = .ok (.iadd, 1) by decide +kernel) ?_
      refine Ev_putI hq_144 (show decode prog_7_method_12_code 133 = .ok (.putfield 80, 3) by decide +kernel) rfl (SGn hS (by decide)) (SGk hS rfl) (by decide) (by decide) rfl (fun hz => by cases hz) ?_
      obtain ⟨I24, eI24⟩ : ∃ I24 : zI, I24 = z_up I23 57 5 ((I23 57 5) + 1) := ⟨_, rfl⟩
      have k := k I24 eI24
      rw [← eI24]
      obtain ⟨y25, ey25⟩ : ∃ y25 : Int32, y25 = x7 + 1 := ⟨_, rfl⟩
      have k := k y25 ey25
      refine Ev_iinc (v := y25) (lo2 := [.ref 57, .int x1, .int x2, .int x3, .int x4, .int x5, .int x6, .int y25]) hq_144 (show decode prog_7_method_12_code 136 = .ok (.iinc 7 1, 3) by decide +kernel) rfl (by rw [ey25]; rfl) rfl ?_
      refine Ev_goto (tgt := 68) hq_144 (show decode prog_7_method_12_code 139 = .ok (.goto (-71), 3) by decide +kernel) (by decide) ?_
      exact k
set_option maxRecDepth 20000 in
theorem wp_Z_force {X : Nat × (Nat → Int32)} {d : Nat} {G : zG} {I : zI} {res : Option Value × zG × zI} (x1 : Int32) (hS : SG G) 
    (k : (¬ (f_Z_in x1 0 ((I 57 8) - 1)) = 0 → ∀ y2 : Int32, y2 = (I 57 9) → (∀ I3 : zI, I3 = z_up I 57 9 x1 → res = (some (.int y2), G, I3))) ∧ ((f_Z_in x1 0 ((I 57 8) - 1)) = 0 → res = (some (.int (-2)), G, I))) :
    Ev X (d + 1) 146 0 [.ref 57, .int x1, zU] [] G I res := by
  refine Ev_iload_n hq_146 (show decode prog_7_method_26_code 0 = .ok (.iload_n 1, 1) by decide +kernel) rfl ?_
  refine Ev_iconst (v := 0) hq_146 (show decode prog_7_method_26_code 1 = .ok (.iconst 0, 1) by decide +kernel) (by decide) ?_
  refine Ev_aload_n hq_146 (show decode prog_7_method_26_code 2 = .ok (.aload_n 0, 1) by decide +kernel) rfl ?_
  refine Ev_getI hq_146 (show decode prog_7_method_26_code 3 = .ok (.getfield 101, 3) by decide +kernel) rfl (SGn hS (by decide)) (SGk hS rfl) (by decide) rfl ?_
  refine Ev_iconst (v := 1) hq_146 (show decode prog_7_method_26_code 6 = .ok (.iconst 1, 1) by decide +kernel) (by decide) ?_
  refine Ev_isub hq_146 (show decode prog_7_method_26_code 7 = .ok (.isub, 1) by decide +kernel) ?_
  refine Ev_stat (as := [.int x1, .int 0, .int ((I 57 8) - 1)]) hq_146 (show decode prog_7_method_26_code 8 = .ok (.invokestatic 90, 3) by decide +kernel) rfl (Or.inl rfl) hq_131 rfl (z_le rfl) (c_Z_in x1 0 ((I 57 8) - 1)) ?_
  refine Ev_if_ne (tgt := 17) hq_146 (show decode prog_7_method_26_code 11 = .ok (.ifCond .ne 6, 3) by decide +kernel) (by decide) (fun c1 => ?_) (fun c1 => ?_)
  · have k := k.1 c1
    refine Ev_aload_n hq_146 (show decode prog_7_method_26_code 17 = .ok (.aload_n 0, 1) by decide +kernel) rfl ?_
    refine Ev_getI hq_146 (show decode prog_7_method_26_code 18 = .ok (.getfield 104, 3) by decide +kernel) rfl (SGn hS (by decide)) (SGk hS rfl) (by decide) rfl ?_
    obtain ⟨y2, ey2⟩ : ∃ y2 : Int32, y2 = (I 57 9) := ⟨_, rfl⟩
    have k := k y2 ey2
    rw [← ey2]
    refine Ev_istore_n (lo2 := [.ref 57, .int x1, .int y2]) hq_146 (show decode prog_7_method_26_code 21 = .ok (.istore_n 2, 1) by decide +kernel) (z_le rfl) rfl ?_
    refine Ev_aload_n hq_146 (show decode prog_7_method_26_code 22 = .ok (.aload_n 0, 1) by decide +kernel) rfl ?_
    refine Ev_iload_n hq_146 (show decode prog_7_method_26_code 23 = .ok (.iload_n 1, 1) by decide +kernel) rfl ?_
    refine Ev_putI hq_146 (show decode prog_7_method_26_code 24 = .ok (.putfield 104, 3) by decide +kernel) rfl (SGn hS (by decide)) (SGk hS rfl) (by decide) (by decide) rfl (fun hz => by cases hz) ?_
    obtain ⟨I3, eI3⟩ : ∃ I3 : zI, I3 = z_up I 57 9 x1 := ⟨_, rfl⟩
    have k := k I3 eI3
    rw [← eI3]
    refine Ev_iload_n hq_146 (show decode prog_7_method_26_code 27 = .ok (.iload_n 2, 1) by decide +kernel) rfl ?_
    exact Ev_iret hq_146 (show decode prog_7_method_26_code 28 = .ok (.ireturn, 1) by decide +kernel) rfl k
  · have k := k.2 (Classical.not_not.mp c1)
    refine Ev_bipush (v := (-2)) hq_146 (show decode prog_7_method_26_code 14 = .ok (.bipush (-2), 2) by decide +kernel) (by decide) ?_
    exact Ev_iret hq_146 (show decode prog_7_method_26_code 16 = .ok (.ireturn, 1) by decide +kernel) rfl k
