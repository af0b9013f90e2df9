set_option maxRecDepth 20000 in
theorem wp_Z_beats {X : Nat × (Nat → Int32)} {d : Nat} {G : zG} {I : zI} {res : Option Value × zG × zI} (x1 : Int32) 
    (k : Ev X d 160 2 [.ref 57, .int x1, .int 0, zU, zU, zU] [] G I res) :
    Ev X d 160 0 [.ref 57, .int x1, zU, zU, zU, zU] [] G I res := by
  refine Ev_iconst (v := 0) hq_160 (show decode prog_7_method_37_code 0 = .ok (.iconst 0, 1) by decide +kernel) (by decide) ?_
  refine Ev_istore_n (lo2 := [.ref 57, .int x1, .int 0, zU, zU, zU]) hq_160 (show decode prog_7_method_37_code 1 = .ok (.istore_n 2, 1) by decide +kernel) (z_le rfl) rfl ?_
  exact k
set_option maxRecDepth 20000 in
theorem wp_Z_beats_2 {X : Nat × (Nat → Int32)} {d : Nat} {G : zG} {I : zI} {res : Option Value × zG × zI} (x1 : Int32) (x2 : Int32) (hS : SG G) 
    (k : ((I 57 0) ≤ x2 → Ev X (d + 1) 160 34 [.ref 57, .int x1, .int 0, zU, zU, zU] [] G I res) ∧ (¬ (I 57 0) ≤ x2 → ∃ (r4 : Int32) (I2 : zI), Cv X d 161 [.ref 57, .int x2, .int x1] G I (some (.int r4), G, I2) ∧ (z_inr ((4 * x1) + x2) 120 ∧ (∀ I6 : zI, I6 = z_up I2 74 ((4 * x1) + x2).toNatClampNeg r4 → ∀ y7 : Int32, y7 = x2 + 1 → Ev X (d + 1) 160 2 [.ref 57, .int x1, .int y7, zU, zU, zU] [] G I6 res)))) :
    Ev X (d + 1) 160 2 [.ref 57, .int x1, .int x2, zU, zU, zU] [] G I res := by
  refine Ev_iload_n hq_160 (show decode prog_7_method_37_code 2 = .ok (.iload_n 2, 1) by decide +kernel) rfl ?_
  refine Ev_aload_n hq_160 (show decode prog_7_method_37_code 3 = .ok (.aload_n 0, 1) by decide +kernel) rfl ?_
  refine Ev_getI hq_160 (show decode prog_7_method_37_code 4 = .ok (.getfield 87, 3) by decide +kernel) rfl (SGn hS (by decide)) (SGk hS rfl) (by decide) rfl ?_
  refine Ev_icmp_ge (tgt := 32) hq_160 (show decode prog_7_method_37_code 7 = .ok (.if_icmp .ge 25, 3) by decide +kernel) (by decide) (fun c1 => ?_) (fun c1 => ?_)
  · have k := k.1 c1
    refine Ev_iconst (v := 0) hq_160 (show decode prog_7_method_37_code 32 = .ok (.iconst 0, 1) by decide +kernel) (by decide) ?_
    refine Ev_istore_n (lo2 := [.ref 57, .int x1, .int 0, zU, zU, zU]) hq_160 (show decode prog_7_method_37_code 33 = .ok (.istore_n 2, 1) by decide +kernel) (z_le rfl) rfl ?_
    exact k
  · have k := k.2 c1
    refine Ev_aload_n hq_160 (show decode prog_7_method_37_code 10 = .ok (.aload_n 0, 1) by decide +kernel) rfl ?_
    refine Ev_getR hq_160 (show decode prog_7_method_37_code 11 = .ok (.getfield 58, 3) by decide +kernel) rfl (SGn hS (by decide)) (SGk hS rfl) (by decide) rfl (SGr hS rfl) ?_
    refine Ev_iconst (v := 4) hq_160 (show decode prog_7_method_37_code 14 = .ok (.iconst 4, 1) by decide +kernel) (by decide) ?_
    refine Ev_iload_n hq_160 (show decode prog_7_method_37_code 15 = .ok (.iload_n 1, 1) by decide +kernel) rfl ?_
    refine Ev_imul hq_160 (show decode prog_7_method_37_code 16 = .ok (.imul, 1) by decide +kernel) ?_
    refine Ev_iload_n hq_160 (show decode prog_7_method_37_code 17 = .ok (.iload_n 2, 1) by decide +kernel) rfl ?_
    refine Ev_iadd hq_160 (show decode prog_7_method_37_code 18 = .ok (.iadd, 1) by decide +kernel) ?_
    refine Ev_aload_n hq_160 (show decode prog_7_method_37_code 19 = .ok (.aload_n 0, 1) by decide +kernel) rfl ?_
    refine Ev_iload_n hq_160 (show decode prog_7_method_37_code 20 = .ok (.iload_n 2, 1) by decide +kernel) rfl ?_
    refine Ev_iload_n hq_160 (show decode prog_7_method_37_code 21 = .ok (.iload_n 1, 1) by decide +kernel) rfl ?_
    obtain ⟨r4, I2, h3, k⟩ := k
    refine Ev_virt (as := [.int x2, .int x1]) hq_160 (show decode prog_7_method_37_code 22 = .ok (.invokevirtual 196, 3) by decide +kernel) rfl hq_161 rfl (z_le rfl) ⟨(SGn hS (by decide)), (SGk hS rfl), by decide⟩ h3 ?_
    obtain ⟨h5, k⟩ := k
    refine Ev_iast hq_160 (show decode prog_7_method_37_code 25 = .ok (.iastore, 1) by decide +kernel) (SGn hS (by decide)) (SGk hS rfl) (SGi hS rfl h5) ?_
    obtain ⟨I6, eI6⟩ : ∃ I6 : zI, I6 = z_up I2 74 ((4 * x1) + x2).toNatClampNeg r4 := ⟨_, rfl⟩
    have k := k I6 eI6
    rw [← eI6]
    obtain ⟨y7, ey7⟩ : ∃ y7 : Int32, y7 = x2 + 1 := ⟨_, rfl⟩
    have k := k y7 ey7
    refine Ev_iinc (v := y7) (lo2 := [.ref 57, .int x1, .int y7, zU, zU, zU]) hq_160 (show decode prog_7_method_37_code 26 = .ok (.iinc 2 1, 3) by decide +kernel) rfl (by rw [ey7]; rfl) rfl ?_
    refine Ev_goto (tgt := 2) hq_160 (show decode prog_7_method_37_code 29 = .ok (.goto (-27), 3) by decide +kernel) (by decide) ?_
    exact k
set_option maxRecDepth 20000 in
theorem wp_Z_beats_34 {X : Nat × (Nat → Int32)} {d : Nat} {G : zG} {I : zI} {res : Option Value × zG × zI} (x1 : Int32) (x2 : Int32) (v3 : Value) (cv3 : v3.category = 1) (v4 : Value) (cv4 : v4.category = 1) (v5 : Value) (cv5 : v5.category = 1) (hS : SG G) 
    (k : ((I 57 0) ≤ x2 → res = (none, G, I)) ∧ (¬ (I 57 0) ≤ x2 → z_inr ((4 * x1) + x2) 124 ∧ (∀ y3 : Int32, y3 = (I 73 ((4 * x1) + x2).toNatClampNeg) → z_inr ((5 * x2) + 1) 20 ∧ (z_inr ((4 * x1) + x2) 120 ∧ (∀ y6 : Int32, y6 = ((I 60 ((5 * x2) + 1).toNatClampNeg) - (I 74 ((4 * x1) + x2).toNatClampNeg)) → (¬ x1 = 0 → z_inr ((5 * x2) + 1) 20 ∧ (z_inr ((4 * (x1 - 1)) + x2) 120 ∧ (∀ y10 : Int32, y10 = ((I 60 ((5 * x2) + 1).toNatClampNeg) - (I 74 ((4 * (x1 - 1)) + x2).toNatClampNeg)) → z_inr ((4 * (x1 + 1)) + x2) 124 ∧ (∀ I12 : zI, I12 = z_up I 73 ((4 * (x1 + 1)) + x2).toNatClampNeg y3 → ∃ (r15 : Int32) (I13 : zI), Cv X d 143 [.ref 57, .int x2] G I12 (some (.int r15), G, I13) ∧ ((r15 = 0 → ∀ y17 : Int32, y17 = x2 + 1 → Ev X (d + 1) 160 34 [.ref 57, .int x1, .int y17, .int y3, .int y6, .int y10] [] G I13 res) ∧ (¬ r15 = 0 → z_inr x2 4 ∧ (∃ (r21 : Int32) (I19 : zI), Cv X d 149 [.ref 57, .int 1, .int x2, .int y6, .int y10, .int y3, .int x1] G I13 (some (.int r21), G, I19) ∧ (z_inr x2 4 ∧ (∀ I23 : zI, I23 = z_up I19 75 x2.toNatClampNeg ((I13 75 x2.toNatClampNeg) + r21) → z_inr x2 4 ∧ (∃ (r27 : Int32) (I25 : zI), Cv X d 149 [.ref 57, .int 2, .int x2, .int y6, .int y10, .int y3, .int x1] G I23 (some (.int r27), G, I25) ∧ ((¬ r27 = 1 → z_inr x2 4 ∧ (∀ I30 : zI, I30 = z_up I25 76 x2.toNatClampNeg ((I23 76 x2.toNatClampNeg) ||| 0) → z_inr x2 4 ∧ (∃ (r34 : Int32) (I32 : zI), Cv X d 157 [.ref 57, .int x2] G I30 (some (.int r34), G, I32) ∧ (((-y6) < r34 → z_inr x2 4 ∧ (∀ I37 : zI, I37 = z_up I32 77 x2.toNatClampNeg ((I30 77 x2.toNatClampNeg) + 0) → ∃ (r40 : Int32) (I38 : zI), Cv X d 149 [.ref 57, .int 0, .int x2, .int y6, .int y10, .int y3, .int x1] G I37 (some (.int r40), G, I38) ∧ (∃ (r43 : Int32) (I41 : zI), Cv X d 163 [.ref 57, .int x2, .int r40] G I38 (some (.int r43), G, I41) ∧ (z_inr ((4 * (x1 + 1)) + x2) 124 ∧ (∀ I45 : zI, I45 = z_up I41 73 ((4 * (x1 + 1)) + x2).toNatClampNeg (f_Z_within (y3 + r43) 0 999) → ∀ y46 : Int32, y46 = x2 + 1 → Ev X (d + 1) 160 34 [.ref 57, .int x1, .int y46, .int y3, .int y6, .int y10] [] G I45 res))))) ∧ (¬ (-y6) < r34 → z_inr x2 4 ∧ (∀ I48 : zI, I48 = z_up I32 77 x2.toNatClampNeg ((I30 77 x2.toNatClampNeg) + 1) → ∃ (r51 : Int32) (I49 : zI), Cv X d 149 [.ref 57, .int 0, .int x2, .int y6, .int y10, .int y3, .int x1] G I48 (some (.int r51), G, I49) ∧ (∃ (r54 : Int32) (I52 : zI), Cv X d 163 [.ref 57, .int x2, .int r51] G I49 (some (.int r54), G, I52) ∧ (z_inr ((4 * (x1 + 1)) + x2) 124 ∧ (∀ I56 : zI, I56 = z_up I52 73 ((4 * (x1 + 1)) + x2).toNatClampNeg (f_Z_within (y3 + r54) 0 999) → ∀ y57 : Int32, y57 = x2 + 1 → Ev X (d + 1) 160 34 [.ref 57, .int x1, .int y57, .int y3, .int y6, .int y10] [] G I56 res))))))))) ∧ (r27 = 1 → z_inr x2 4 ∧ (∀ I59 : zI, I59 = z_up I25 76 x2.toNatClampNeg ((I23 76 x2.toNatClampNeg) ||| (1 <<< (x1 &&& 31))) → z_inr x2 4 ∧ (∃ (r63 : Int32) (I61 : zI), Cv X d 157 [.ref 57, .int x2] G I59 (some (.int r63), G, I61) ∧ (((-y6) < r63 → z_inr x2 4 ∧ (∀ I66 : zI, I66 = z_up I61 77 x2.toNatClampNeg ((I59 77 x2.toNatClampNeg) + 0) → ∃ (r69 : Int32) (I67 : zI), Cv X d 149 [.ref 57, .int 0, .int x2, .int y6, .int y10, .int y3, .int x1] G I66 (some (.int r69), G, I67) ∧ (∃ (r72 : Int32) (I70 : zI), Cv X d 163 [.ref 57, .int x2, .int r69] G I67 (some (.int r72), G, I70) ∧ (z_inr ((4 * (x1 + 1)) + x2) 124 ∧ (∀ I74 : zI, I74 = z_up I70 73 ((4 * (x1 + 1)) + x2).toNatClampNeg (f_Z_within (y3 + r72) 0 999) → ∀ y75 : Int32, y75 = x2 + 1 → Ev X (d + 1) 160 34 [.ref 57, .int x1, .int y75, .int y3, .int y6, .int y10] [] G I74 res))))) ∧ (¬ (-y6) < r63 → z_inr x2 4 ∧ (∀ I77 : zI, I77 = z_up I61 77 x2.toNatClampNeg ((I59 77 x2.toNatClampNeg) + 1) → ∃ (r80 : Int32) (I78 : zI), Cv X d 149 [.ref 57, .int 0, .int x2, .int y6, .int y10, .int y3, .int x1] G I77 (some (.int r80), G, I78) ∧ (∃ (r83 : Int32) (I81 : zI), Cv X d 163 [.ref 57, .int x2, .int r80] G I78 (some (.int r83), G, I81) ∧ (z_inr ((4 * (x1 + 1)) + x2) 124 ∧ (∀ I85 : zI, I85 = z_up I81 73 ((4 * (x1 + 1)) + x2).toNatClampNeg (f_Z_within (y3 + r83) 0 999) → ∀ y86 : Int32, y86 = x2 + 1 → Ev X (d + 1) 160 34 [.ref 57, .int x1, .int y86, .int y3, .int y6, .int y10] [] G I85 res)))))))))))))))))))) ∧ (x1 = 0 → z_inr ((4 * (x1 + 1)) + x2) 124 ∧ (∀ I88 : zI, I88 = z_up I 73 ((4 * (x1 + 1)) + x2).toNatClampNeg y3 → ∃ (r91 : Int32) (I89 : zI), Cv X d 143 [.ref 57, .int x2] G I88 (some (.int r91), G, I89) ∧ ((r91 = 0 → ∀ y93 : Int32, y93 = x2 + 1 → Ev X (d + 1) 160 34 [.ref 57, .int x1, .int y93, .int y3, .int y6, .int y6] [] G I89 res) ∧ (¬ r91 = 0 → z_inr x2 4 ∧ (∃ (r97 : Int32) (I95 : zI), Cv X d 149 [.ref 57, .int 1, .int x2, .int y6, .int y6, .int y3, .int x1] G I89 (some (.int r97), G, I95) ∧ (z_inr x2 4 ∧ (∀ I99 : zI, I99 = z_up I95 75 x2.toNatClampNeg ((I89 75 x2.toNatClampNeg) + r97) → z_inr x2 4 ∧ (∃ (r103 : Int32) (I101 : zI), Cv X d 149 [.ref 57, .int 2, .int x2, .int y6, .int y6, .int y3, .int x1] G I99 (some (.int r103), G, I101) ∧ ((¬ r103 = 1 → z_inr x2 4 ∧ (∀ I106 : zI, I106 = z_up I101 76 x2.toNatClampNeg ((I99 76 x2.toNatClampNeg) ||| 0) → z_inr x2 4 ∧ (∃ (r110 : Int32) (I108 : zI), Cv X d 157 [.ref 57, .int x2] G I106 (some (.int r110), G, I108) ∧ (((-y6) < r110 → z_inr x2 4 ∧ (∀ I113 : zI, I113 = z_up I108 77 x2.toNatClampNeg ((I106 77 x2.toNatClampNeg) + 0) → ∃ (r116 : Int32) (I114 : zI), Cv X d 149 [.ref 57, .int 0, .int x2, .int y6, .int y6, .int y3, .int x1] G I113 (some (.int r116), G, I114) ∧ (∃ (r119 : Int32) (I117 : zI), Cv X d 163 [.ref 57, .int x2, .int r116] G I114 (some (.int r119), G, I117) ∧ (z_inr ((4 * (x1 + 1)) + x2) 124 ∧ (∀ I121 : zI, I121 = z_up I117 73 ((4 * (x1 + 1)) + x2).toNatClampNeg (f_Z_within (y3 + r119) 0 999) → ∀ y122 : Int32, y122 = x2 + 1 → Ev X (d + 1) 160 34 [.ref 57, .int x1, .int y122, .int y3, .int y6, .int y6] [] G I121 res))))) ∧ (¬ (-y6) < r110 → z_inr x2 4 ∧ (∀ I124 : zI, I124 = z_up I108 77 x2.toNatClampNeg ((I106 77 x2.toNatClampNeg) + 1) → ∃ (r127 : Int32) (I125 : zI), Cv X d 149 [.ref 57, .int 0, .int x2, .int y6, .int y6, .int y3, .int x1] G I124 (some (.int r127), G, I125) ∧ (∃ (r130 : Int32) (I128 : zI), Cv X d 163 [.ref 57, .int x2, .int r127] G I125 (some (.int r130), G, I128) ∧ (z_inr ((4 * (x1 + 1)) + x2) 124 ∧ (∀ I132 : zI, I132 = z_up I128 73 ((4 * (x1 + 1)) + x2).toNatClampNeg (f_Z_within (y3 + r130) 0 999) → ∀ y133 : Int32, y133 = x2 + 1 → Ev X (d + 1) 160 34 [.ref 57, .int x1, .int y133, .int y3, .int y6, .int y6] [] G I132 res))))))))) ∧ (r103 = 1 → z_inr x2 4 ∧ (∀ I135 : zI, I135 = z_up I101 76 x2.toNatClampNeg ((I99 76 x2.toNatClampNeg) ||| (1 <<< (x1 &&& 31))) → z_inr x2 4 ∧ (∃ (r139 : Int32) (I137 : zI), Cv X d 157 [.ref 57, .int x2] G I135 (some (.int r139), G, I137) ∧ (((-y6) < r139 → z_inr x2 4 ∧ (∀ I142 : zI, I142 = z_up I137 77 x2.toNatClampNeg ((I135 77 x2.toNatClampNeg) + 0) → ∃ (r145 : Int32) (I143 : zI), Cv X d 149 [.ref 57, .int 0, .int x2, .int y6, .int y6, .int y3, .int x1] G I142 (some (.int r145), G, I143) ∧ (∃ (r148 : Int32) (I146 : zI), Cv X d 163 [.ref 57, .int x2, .int r145] G I143 (some (.int r148), G, I146) ∧ (z_inr ((4 * (x1 + 1)) + x2) 124 ∧ (∀ I150 : zI, I150 = z_up I146 73 ((4 * (x1 + 1)) + x2).toNatClampNeg (f_Z_within (y3 + r148) 0 999) → ∀ y151 : Int32, y151 = x2 + 1 → Ev X (d + 1) 160 34 [.ref 57, .int x1, .int y151, .int y3, .int y6, .int y6] [] G I150 res))))) ∧ (¬ (-y6) < r139 → z_inr x2 4 ∧ (∀ I153 : zI, I153 = z_up I137 77 x2.toNatClampNeg ((I135 77 x2.toNatClampNeg) + 1) → ∃ (r156 : Int32) (I154 : zI), Cv X d 149 [.ref 57, .int 0, .int x2, .int y6, .int y6, .int y3, .int x1] G I153 (some (.int r156), G, I154) ∧ (∃ (r159 : Int32) (I157 : zI), Cv X d 163 [.ref 57, .int x2, .int r156] G I154 (some (.int r159), G, I157) ∧ (z_inr ((4 * (x1 + 1)) + x2) 124 ∧ (∀ I161 : zI, I161 = z_up I157 73 ((4 * (x1 + 1)) + x2).toNatClampNeg (f_Z_within (y3 + r159) 0 999) → ∀ y162 : Int32, y162 = x2 + 1 → Ev X (d + 1) 160 34 [.ref 57, .int x1, .int y162, .int y3, .int y6, .int y6] [] G I161 res))))))))))))))))))))))) :
    Ev X (d + 1) 160 34 [.ref 57, .int x1, .int x2, v3, v4, v5] [] G I res := by
  refine Ev_iload_n hq_160 (show decode prog_7_method_37_code 34 = .ok (.iload_n 2, 1) by decide +kernel) rfl ?_
  refine Ev_aload_n hq_160 (show decode prog_7_method_37_code 35 = .ok (.aload_n 0, 1) by decide +kernel) rfl ?_
  refine Ev_getI hq_160 (show decode prog_7_method_37_code 36 = .ok (.getfield 87, 3) by decide +kernel) rfl (SGn hS (by decide)) (SGk hS rfl) (by decide) rfl ?_
  refine Ev_icmp_ge (tgt := 253) hq_160 (show decode prog_7_method_37_code 39 = .ok (.if_icmp .ge 214, 3) by decide +kernel) (by decide) (fun c1 => ?_) (fun c1 => ?_)
  · have k := k.1 c1
    exact Ev_vret hq_160 (show decode prog_7_method_37_code 253 = .ok (.return_, 1) by decide +kernel) k
  · have k := k.2 c1
    refine Ev_aload_n hq_160 (show decode prog_7_method_37_code 42 = .ok (.aload_n 0, 1) by decide +kernel) rfl ?_
    refine Ev_getR hq_160 (show decode prog_7_method_37_code 43 = .ok (.getfield 55, 3) by decide +kernel) rfl (SGn hS (by decide)) (SGk hS rfl) (by decide) rfl (SGr hS rfl) ?_
    refine Ev_iconst (v := 4) hq_160 (show decode prog_7_method_37_code 46 = .ok (.iconst 4, 1) by decide +kernel) (by decide) ?_
    refine Ev_iload_n hq_160 (show decode prog_7_method_37_code 47 = .ok (.iload_n 1, 1) by decide +kernel) rfl ?_
    refine Ev_imul hq_160 (show decode prog_7_method_37_code 48 = .ok (.imul, 1) by decide +kernel) ?_
    refine Ev_iload_n hq_160 (show decode prog_7_method_37_code 49 = .ok (.iload_n 2, 1) by decide +kernel) rfl ?_
    refine Ev_iadd hq_160 (show decode prog_7_method_37_code 50 = .ok (.iadd, 1) by decide +kernel) ?_
    obtain ⟨h2, k⟩ := k
    refine Ev_iald hq_160 (show decode prog_7_method_37_code 51 = .ok (.iaload, 1) by decide +kernel) (SGn hS (by decide)) (SGk hS rfl) (SGi hS rfl h2) ?_
    obtain ⟨y3, ey3⟩ : ∃ y3 : Int32, y3 = (I 73 ((4 * x1) + x2).toNatClampNeg) := ⟨_, rfl⟩
    have k := k y3 ey3
    rw [← ey3]
    refine Ev_istore_n (lo2 := [.ref 57, .int x1, .int x2, .int y3, v4, v5]) hq_160 (show decode prog_7_method_37_code 52 = .ok (.istore_n 3, 1) by decide +kernel) (z_le rfl) rfl ?_
    refine Ev_aload_n hq_160 (show decode prog_7_method_37_code 53 = .ok (.aload_n 0, 1) by decide +kernel) rfl ?_
    refine Ev_getR hq_160 (show decode prog_7_method_37_code 54 = .ok (.getfield 16, 3) by decide +kernel) rfl (SGn hS (by decide)) (SGk hS rfl) (by decide) rfl (SGr hS rfl) ?_
    refine Ev_iconst (v := 5) hq_160 (show decode prog_7_method_37_code 57 = .ok (.iconst 5, 1) by decide +kernel) (by decide) ?_
    refine Ev_iload_n hq_160 (show decode prog_7_method_37_code 58 = .ok (.iload_n 2, 1) by decide +kernel) rfl ?_
    refine Ev_imul hq_160 (show decode prog_7_method_37_code 59 = .ok (.imul, 1) by decide +kernel) ?_
    refine Ev_iconst (v := 1) hq_160 (show decode prog_7_method_37_code 60 = .ok (.iconst 1, 1) by decide +kernel) (by decide) ?_
    refine Ev_iadd hq_160 (show decode prog_7_method_37_code 61 = .ok (.iadd, 1) by decide +kernel) ?_
    obtain ⟨h4, k⟩ := k
    refine Ev_iald hq_160 (show decode prog_7_method_37_code 62 = .ok (.iaload, 1) by decide +kernel) (SGn hS (by decide)) (SGk hS rfl) (SGi hS rfl h4) ?_
    refine Ev_aload_n hq_160 (show decode prog_7_method_37_code 63 = .ok (.aload_n 0, 1) by decide +kernel) rfl ?_
    refine Ev_getR hq_160 (show decode prog_7_method_37_code 64 = .ok (.getfield 58, 3) by decide +kernel) rfl (SGn hS (by decide)) (SGk hS rfl) (by decide) rfl (SGr hS rfl) ?_
    refine Ev_iconst (v := 4) hq_160 (show decode prog_7_method_37_code 67 = .ok (.iconst 4, 1) by decide +kernel) (by decide) ?_
    refine Ev_iload_n hq_160 (show decode prog_7_method_37_code 68 = .ok (.iload_n 1, 1) by decide +kernel) rfl ?_
    refine Ev_imul hq_160 (show decode prog_7_method_37_code 69 = .ok (.imul, 1) by decide +kernel) ?_
    refine Ev_iload_n hq_160 (show decode prog_7_method_37_code 70 = .ok (.iload_n 2, 1) by decide +kernel) rfl ?_
    refine Ev_iadd hq_160 (show decode prog_7_method_37_code 71 = .ok (.iadd, 1) by decide +kernel) ?_
    obtain ⟨h5, k⟩ := k
    refine Ev_iald hq_160 (show decode prog_7_method_37_code 72 = .ok (.iaload, 1) by decide +kernel) (SGn hS (by decide)) (SGk hS rfl) (SGi hS rfl h5) ?_
    refine Ev_isub hq_160 (show decode prog_7_method_37_code 73 = .ok (.isub, 1) by decide +kernel) ?_
    obtain ⟨y6, ey6⟩ : ∃ y6 : Int32, y6 = ((I 60 ((5 * x2) + 1).toNatClampNeg) - (I 74 ((4 * x1) + x2).toNatClampNeg)) := ⟨_, rfl⟩
    have k := k y6 ey6
    rw [← ey6]
    refine Ev_istore (lo2 := [.ref 57, .int x1, .int x2, .int y3, .int y6, v5]) hq_160 (show decode prog_7_method_37_code 74 = .ok (.istore 4, 2) by decide +kernel) (z_le rfl) rfl ?_
    refine Ev_iload_n hq_160 (show decode prog_7_method_37_code 76 = .ok (.iload_n 1, 1) by decide +kernel) rfl ?_
    refine Ev_if_ne (tgt := 85) hq_160 (show decode prog_7_method_37_code 77 = .ok (.ifCond .ne 8, 3) by decide +kernel) (by decide) (fun c7 => ?_) (fun c7 => ?_)
    · have k := k.1 c7
      refine Ev_aload_n hq_160 (show decode prog_7_method_37_code 85 = .ok (.aload_n 0, 1) by decide +kernel) rfl ?_
      refine Ev_getR hq_160 (show decode prog_7_method_37_code 86 = .ok (.getfield 16, 3) by decide +kernel) rfl (SGn hS (by decide)) (SGk hS rfl) (by decide) rfl (SGr hS rfl) ?_
      refine Ev_iconst (v := 5) hq_160 (show decode prog_7_method_37_code 89 = .ok (.iconst 5, 1) by decide +kernel) (by decide) ?_
      refine Ev_iload_n hq_160 (show decode prog_7_method_37_code 90 = .ok (.iload_n 2, 1) by decide +kernel) rfl ?_
      refine Ev_imul hq_160 (show decode prog_7_method_37_code 91 = .ok (.imul, 1) by decide +kernel) ?_
      refine Ev_iconst (v := 1) hq_160 (show decode prog_7_method_37_code 92 = .ok (.iconst 1, 1) by decide +kernel) (by decide) ?_
      refine Ev_iadd hq_160 (show decode prog_7_method_37_code 93 = .ok (.iadd, 1) by decide +kernel) ?_
      obtain ⟨h8, k⟩ := k
      refine Ev_iald hq_160 (show decode prog_7_method_37_code 94 = .ok (.iaload, 1) by decide +kernel) (SGn hS (by decide)) (SGk hS rfl) (SGi hS rfl h8) ?_
      refine Ev_aload_n hq_160 (show decode prog_7_method_37_code 95 = .ok (.aload_n 0, 1) by decide +kernel) rfl ?_
      refine Ev_getR hq_160 (show decode prog_7_method_37_code 96 = .ok (.getfield 58, 3) by decide +kernel) rfl (SGn hS (by decide)) (SGk hS rfl) (by decide) rfl (SGr hS rfl) ?_
      refine Ev_iconst (v := 4) hq_160 (show decode prog_7_method_37_code 99 = .ok (.iconst 4, 1) by decide +kernel) (by decide) ?_
      refine Ev_iload_n hq_160 (show decode prog_7_method_37_code 100 = .ok (.iload_n 1, 1) by decide +kernel) rfl ?_
      refine Ev_iconst (v := 1) hq_160 (show decode prog_7_method_37_code 101 = .ok (.iconst 1, 1) by decide +kernel) (by decide) ?_
      refine Ev_isub hq_160 (show decode prog_7_method_37_code 102 = .ok (.isub, 1) by decide +kernel) ?_
      refine Ev_imul hq_160 (show decode prog_7_method_37_code 103 = .ok (.imul, 1) by decide +kernel) ?_
      refine Ev_iload_n hq_160 (show decode prog_7_method_37_code 104 = .ok (.iload_n 2, 1) by decide +kernel) rfl ?_
      refine Ev_iadd hq_160 (show decode prog_7_method_37_code 105 = .ok (.iadd, 1) by decide +kernel) ?_
      obtain ⟨h9, k⟩ := k
      refine Ev_iald hq_160 (show decode prog_7_method_37_code 106 = .ok (.iaload, 1) by decide +kernel) (SGn hS (by decide)) (SGk hS rfl) (SGi hS rfl h9) ?_
      refine Ev_isub hq_160 (show decode prog_7_method_37_code 107 = .ok (.isub, 1) by decide +kernel) ?_
      obtain ⟨y10, ey10⟩ : ∃ y10 : Int32, y10 = ((I 60 ((5 * x2) + 1).toNatClampNeg) - (I 74 ((4 * (x1 - 1)) + x2).toNatClampNeg)) := ⟨_, rfl⟩
      have k := k y10 ey10
      rw [← ey10]
      refine Ev_istore (lo2 := [.ref 57, .int x1, .int x2, .int y3, .int y6, .int y10]) hq_160 (show decode prog_7_method_37_code 108 = .ok (.istore 5, 2) by decide +kernel) (z_le rfl) rfl ?_
      refine Ev_aload_n hq_160 (show decode prog_7_method_37_code 110 = .ok (.aload_n 0, 1) by decide +kernel) rfl ?_
      refine Ev_getR hq_160 (show decode prog_7_method_37_code 111 = .ok (.getfield 55, 3) by decide +kernel) rfl (SGn hS (by decide)) (SGk hS rfl) (by decide) rfl (SGr hS rfl) ?_
      refine Ev_iconst (v := 4) hq_160 (show decode prog_7_method_37_code 114 = .ok (.iconst 4, 1) by decide +kernel) (by decide) ?_
      refine Ev_iload_n hq_160 (show decode prog_7_method_37_code 115 = .ok (.iload_n 1, 1) by decide +kernel) rfl ?_
      refine Ev_iconst (v := 1) hq_160 (show decode prog_7_method_37_code 116 = .ok (.iconst 1, 1) by decide +kernel) (by decide) ?_
      refine Ev_iadd hq_160 (show decode prog_7_method_37_code 117 = .ok (.iadd, 1) by decide +kernel) ?_
      refine Ev_imul hq_160 (show decode prog_7_method_37_code 118 = .ok (.imul, 1) by decide +kernel) ?_
      refine Ev_iload_n hq_160 (show decode prog_7_method_37_code 119 = .ok (.iload_n 2, 1) by decide +kernel) rfl ?_
      refine Ev_iadd hq_160 (show decode prog_7_method_37_code 120 = .ok (.iadd, 1) by decide +kernel) ?_
      refine Ev_iload_n hq_160 (show decode prog_7_method_37_code 121 = .ok (.iload_n 3, 1) by decide +kernel) rfl ?_
      obtain ⟨h11, k⟩ := k
      refine Ev_iast hq_160 (show decode prog_7_method_37_code 122 = .ok (.iastore, 1) by decide +kernel) (SGn hS (by decide)) (SGk hS rfl) (SGi hS rfl h11) ?_
      obtain ⟨I12, eI12⟩ : ∃ I12 : zI, I12 = z_up I 73 ((4 * (x1 + 1)) + x2).toNatClampNeg y3 := ⟨_, rfl⟩
      have k := k I12 eI12
      rw [← eI12]
      refine Ev_aload_n hq_160 (show decode prog_7_method_37_code 123 = .ok (.aload_n 0, 1) by decide +kernel) rfl ?_
      refine Ev_iload_n hq_160 (show decode prog_7_method_37_code 124 = .ok (.iload_n 2, 1) by decide +kernel) rfl ?_
      obtain ⟨r15, I13, h14, k⟩ := k
      refine Ev_virt (as := [.int x2]) hq_160 (show decode prog_7_method_37_code 125 = .ok (.invokevirtual 94, 3) by decide +kernel) rfl hq_143 rfl (z_le rfl) ⟨(SGn hS (by decide)), (SGk hS rfl), by decide⟩ h14 ?_
      refine Ev_if_eq (tgt := 247) hq_160 (show decode prog_7_method_37_code 128 = .ok (.ifCond .eq 119, 3) by decide +kernel) (by decide) (fun c16 => ?_) (fun c16 => ?_)
      · have k := k.1 c16
        obtain ⟨y17, ey17⟩ : ∃ y17 : Int32, y17 = x2 + 1 := ⟨_, rfl⟩
        have k := k y17 ey17
        refine Ev_iinc (v := y17) (lo2 := [.ref 57, .int x1, .int y17, .int y3, .int y6, .int y10]) hq_160 (show decode prog_7_method_37_code 247 = .ok (.iinc 2 1, 3) by decide +kernel) rfl (by rw [ey17]; rfl) rfl ?_
        refine Ev_goto (tgt := 34) hq_160 (show decode prog_7_method_37_code 250 = .ok (.goto (-216), 3) by decide +kernel) (by decide) ?_
        exact k
      · have k := k.2 c16
        refine Ev_aload_n hq_160 (show decode prog_7_method_37_code 131 = .ok (.aload_n 0, 1) by decide +kernel) rfl ?_
        refine Ev_getR hq_160 (show decode prog_7_method_37_code 132 = .ok (.getfield 61, 3) by decide +kernel) rfl (SGn hS (by decide)) (SGk hS rfl) (by decide) rfl (SGr hS rfl) ?_
        refine Ev_iload_n hq_160 (show decode prog_7_method_37_code 135 = .ok (.iload_n 2, 1) by decide +kernel) rfl ?_
        refine Ev_dup2 hq_160 (show decode prog_7_method_37_code 136 = .ok (.dup2, 1) by decide +kernel) ⟨rfl, rfl⟩ ?_
        obtain ⟨h18, k⟩ := k
        refine Ev_iald hq_160 (show decode prog_7_method_37_code 137 = .ok (.iaload, 1) by decide +kernel) (SGn hS (by decide)) (SGk hS rfl) (SGi hS rfl h18) ?_
        refine Ev_aload_n hq_160 (show decode prog_7_method_37_code 138 = .ok (.aload_n 0, 1) by decide +kernel) rfl ?_
        refine Ev_iconst (v := 1) hq_160 (show decode prog_7_method_37_code 139 = .ok (.iconst 1, 1) by decide +kernel) (by decide) ?_
        refine Ev_iload_n hq_160 (show decode prog_7_method_37_code 140 = .ok (.iload_n 2, 1) by decide +kernel) rfl ?_
        refine Ev_iload hq_160 (show decode prog_7_method_37_code 141 = .ok (.iload 4, 2) by decide +kernel) rfl ?_
        refine Ev_iload hq_160 (show decode prog_7_method_37_code 143 = .ok (.iload 5, 2) by decide +kernel) rfl ?_
        refine Ev_iload_n hq_160 (show decode prog_7_method_37_code 145 = .ok (.iload_n 3, 1) by decide +kernel) rfl ?_
        refine Ev_iload_n hq_160 (show decode prog_7_method_37_code 146 = .ok (.iload_n 1, 1) by decide +kernel) rfl ?_
        obtain ⟨r21, I19, h20, k⟩ := k
        refine Ev_virt (as := [.int 1, .int x2, .int y6, .int y10, .int y3, .int x1]) hq_160 (show decode prog_7_method_37_code 147 = .ok (.invokevirtual 180, 3) by decide +kernel) rfl hq_149 rfl (z_le rfl) ⟨(SGn hS (by decide)), (SGk hS rfl), by decide⟩ h20 ?_
        refine Ev_iadd hq_160 (show decode prog_7_method_37_code 150 = .ok (.iadd, 1) by decide +kernel) ?_
        obtain ⟨h22, k⟩ := k
        refine Ev_iast hq_160 (show decode prog_7_method_37_code 151 = .ok (.iastore, 1) by decide +kernel) (SGn hS (by decide)) (SGk hS rfl) (SGi hS rfl h22) ?_
        obtain ⟨I23, eI23⟩ : ∃ I23 : zI, I23 = z_up I19 75 x2.toNatClampNeg ((I13 75 x2.toNatClampNeg) + r21) := ⟨_, rfl⟩
        have k := k I23 eI23
        rw [← eI23]
        refine Ev_aload_n hq_160 (show decode prog_7_method_37_code 152 = .ok (.aload_n 0, 1) by decide +kernel) rfl ?_
        refine Ev_getR hq_160 (show decode prog_7_method_37_code 153 = .ok (.getfield 64, 3) by decide +kernel) rfl (SGn hS (by decide)) (SGk hS rfl) (by decide) rfl (SGr hS rfl) ?_
        refine Ev_iload_n hq_160 (show decode prog_7_method_37_code 156 = .ok (.iload_n 2, 1) by decide +kernel) rfl ?_
        refine Ev_dup2 hq_160 (show decode prog_7_method_37_code 157 = .ok (.dup2, 1) by decide +kernel) ⟨rfl, rfl⟩ ?_
        obtain ⟨h24, k⟩ := k
        refine Ev_iald hq_160 (show decode prog_7_method_37_code 158 = .ok (.iaload, 1) by decide +kernel) (SGn hS (by decide)) (SGk hS rfl) (SGi hS rfl h24) ?_
        refine Ev_aload_n hq_160 (show decode prog_7_method_37_code 159 = .ok (.aload_n 0, 1) by decide +kernel) rfl ?_
        refine Ev_iconst (v := 2) hq_160 (show decode prog_7_method_37_code 160 = .ok (.iconst 2, 1) by decide +kernel) (by decide) ?_
        refine Ev_iload_n hq_160 (show decode prog_7_method_37_code 161 = .ok (.iload_n 2, 1) by decide +kernel) rfl ?_
        refine Ev_iload hq_160 (show decode prog_7_method_37_code 162 = .ok (.iload 4, 2) by decide +kernel) rfl ?_
        refine Ev_iload hq_160 (show decode prog_7_method_37_code 164 = .ok (.iload 5, 2) by decide +kernel) rfl ?_
        refine Ev_iload_n hq_160 (show decode prog_7_method_37_code 166 = .ok (.iload_n 3, 1) by decide +kernel) rfl ?_
        refine Ev_iload_n hq_160 (show decode prog_7_method_37_code 167 = .ok (.iload_n 1, 1) by decide +kernel) rfl ?_
        obtain ⟨r27, I25, h26, k⟩ := k
        refine Ev_virt (as := [.int 2, .int x2, .int y6, .int y10, .int y3, .int x1]) hq_160 (show decode prog_7_method_37_code 168 = .ok (.invokevirtual 180, 3) by decide +kernel) rfl hq_149 rfl (z_le rfl) ⟨(SGn hS (by decide)), (SGk hS rfl), by decide⟩ h26 ?_
        refine Ev_iconst (v := 1) hq_160 (show decode prog_7_method_37_code 171 = .ok (.iconst 1, 1) by decide +kernel) (by decide) ?_
        refine Ev_icmp_ne (tgt := 181) hq_160 (show decode prog_7_method_37_code 172 = .ok (.if_icmp .ne 9, 3) by decide +kernel) (by decide) (fun c28 => ?_) (fun c28 => ?_)
        · have k := k.1 c28
          refine Ev_iconst (v := 0) hq_160 (show decode prog_7_method_37_code 181 = .ok (.iconst 0, 1) by decide +kernel) (by decide) ?_
          refine Ev_ior hq_160 (show decode prog_7_method_37_code 182 = .ok (.ior, 1) by decide +kernel) ?_
          obtain ⟨h29, k⟩ := k
          refine Ev_iast hq_160 (show decode prog_7_method_37_code 183 = .ok (.iastore, 1) by decide +kernel) (SGn hS (by decide)) (SGk hS rfl) (SGi hS rfl h29) ?_
          obtain ⟨I30, eI30⟩ : ∃ I30 : zI, I30 = z_up I25 76 x2.toNatClampNeg ((I23 76 x2.toNatClampNeg) ||| 0) := ⟨_, rfl⟩
          have k := k I30 eI30
          rw [← eI30]
          refine Ev_aload_n hq_160 (show decode prog_7_method_37_code 184 = .ok (.aload_n 0, 1) by decide +kernel) rfl ?_
          refine Ev_getR hq_160 (show decode prog_7_method_37_code 185 = .ok (.getfield 67, 3) by decide +kernel) rfl (SGn hS (by decide)) (SGk hS rfl) (by decide) rfl (SGr hS rfl) ?_
          refine Ev_iload_n hq_160 (show decode prog_7_method_37_code 188 = .ok (.iload_n 2, 1) by decide +kernel) rfl ?_
          refine Ev_dup2 hq_160 (show decode prog_7_method_37_code 189 = .ok (.dup2, 1) by decide +kernel) ⟨rfl, rfl⟩ ?_
          obtain ⟨h31, k⟩ := k
          refine Ev_iald hq_160 (show decode prog_7_method_37_code 190 = .ok (.iaload, 1) by decide +kernel) (SGn hS (by decide)) (SGk hS rfl) (SGi hS rfl h31) ?_
          refine Ev_iload hq_160 (show decode prog_7_method_37_code 191 = .ok (.iload 4, 2) by decide +kernel) rfl ?_
          refine Ev_ineg hq_160 (show decode prog_7_method_37_code 193 = .ok (.ineg, 1) by decide +kernel) ?_
          refine Ev_aload_n hq_160 (show decode prog_7_method_37_code 194 = .ok (.aload_n 0, 1) by decide +kernel) rfl ?_
          refine Ev_iload_n hq_160 (show decode prog_7_method_37_code 195 = .ok (.iload_n 2, 1) by decide +kernel) rfl ?_
          obtain ⟨r34, I32, h33, k⟩ := k
          refine Ev_virt (as := [.int x2]) hq_160 (show decode prog_7_method_37_code 196 = .ok (.invokevirtual 187, 3) by decide +kernel) rfl hq_157 rfl (z_le rfl) ⟨(SGn hS (by decide)), (SGk hS rfl), by decide⟩ h33 ?_
          refine Ev_icmp_lt (tgt := 206) hq_160 (show decode prog_7_method_37_code 199 = .ok (.if_icmp .lt 7, 3) by decide +kernel) (by decide) (fun c35 => ?_) (fun c35 => ?_)
          · have k := k.1 c35
            refine Ev_iconst (v := 0) hq_160 (show decode prog_7_method_37_code 206 = .ok (.iconst 0, 1) by decide +kernel) (by decide) ?_
            refine Ev_iadd hq_160 (show decode prog_7_method_37_code 207 = .ok (.iadd, 1) by decide +kernel) ?_
            obtain ⟨h36, k⟩ := k
            refine Ev_iast hq_160 (show decode prog_7_method_37_code 208 = .ok (.iastore, 1) by decide +kernel) (SGn hS (by decide)) (SGk hS rfl) (SGi hS rfl h36) ?_
            obtain ⟨I37, eI37⟩ : ∃ I37 : zI, I37 = z_up I32 77 x2.toNatClampNeg ((I30 77 x2.toNatClampNeg) + 0) := ⟨_, rfl⟩
            have k := k I37 eI37
            rw [← eI37]
            refine Ev_aload_n hq_160 (show decode prog_7_method_37_code 209 = .ok (.aload_n 0, 1) by decide +kernel) rfl ?_
            refine Ev_getR hq_160 (show decode prog_7_method_37_code 210 = .ok (.getfield 55, 3) by decide +kernel) rfl (SGn hS (by decide)) (SGk hS rfl) (by decide) rfl (SGr hS rfl) ?_
            refine Ev_iconst (v := 4) hq_160 (show decode prog_7_method_37_code 213 = .ok (.iconst 4, 1) by decide +kernel) (by decide) ?_
            refine Ev_iload_n hq_160 (show decode prog_7_method_37_code 214 = .ok (.iload_n 1, 1) by decide +kernel) rfl ?_
            refine Ev_iconst (v := 1) hq_160 (show decode prog_7_method_37_code 215 = .ok (.iconst 1, 1) by decide +kernel) (by decide) ?_
            refine Ev_iadd hq_160 (show decode prog_7_method_37_code 216 = .ok (.iadd, 1) by decide +kernel) ?_
            refine Ev_imul hq_160 (show decode prog_7_method_37_code 217 = .ok (.imul, 1) by decide +kernel) ?_
            refine Ev_iload_n hq_160 (show decode prog_7_method_37_code 218 = .ok (.iload_n 2, 1) by decide +kernel) rfl ?_
            refine Ev_iadd hq_160 (show decode prog_7_method_37_code 219 = .ok (.iadd, 1) by decide +kernel) ?_
            refine Ev_iload_n hq_160 (show decode prog_7_method_37_code 220 = .ok (.iload_n 3, 1) by decide +kernel) rfl ?_
            refine Ev_aload_n hq_160 (show decode prog_7_method_37_code 221 = .ok (.aload_n 0, 1) by decide +kernel) rfl ?_
            refine Ev_iload_n hq_160 (show decode prog_7_method_37_code 222 = .ok (.iload_n 2, 1) by decide +kernel) rfl ?_
            refine Ev_aload_n hq_160 (show decode prog_7_method_37_code 223 = .ok (.aload_n 0, 1) by decide +kernel) rfl ?_
            refine Ev_iconst (v := 0) hq_160 (show decode prog_7_method_37_code 224 = .ok (.iconst 0, 1) by decide +kernel) (by decide) ?_
            refine Ev_iload_n hq_160 (show decode prog_7_method_37_code 225 = .ok (.iload_n 2, 1) by decide +kernel) rfl ?_
            refine Ev_iload hq_160 (show decode prog_7_method_37_code 226 = .ok (.iload 4, 2) by decide +kernel) rfl ?_
            refine Ev_iload hq_160 (show decode prog_7_method_37_code 228 = .ok (.iload 5, 2) by decide +kernel) rfl ?_
            refine Ev_iload_n hq_160 (show decode prog_7_method_37_code 230 = .ok (.iload_n 3, 1) by decide +kernel) rfl ?_
            refine Ev_iload_n hq_160 (show decode prog_7_method_37_code 231 = .ok (.iload_n 1, 1) by decide +kernel) rfl ?_
            obtain ⟨r40, I38, h39, k⟩ := k
            refine Ev_virt (as := [.int 0, .int x2, .int y6, .int y10, .int y3, .int x1]) hq_160 (show decode prog_7_method_37_code 232 = .ok (.invokevirtual 180, 3) by decide +kernel) rfl hq_149 rfl (z_le rfl) ⟨(SGn hS (by decide)), (SGk hS rfl), by decide⟩ h39 ?_
            obtain ⟨r43, I41, h42, k⟩ := k
            refine Ev_virt (as := [.int x2, .int r40]) hq_160 (show decode prog_7_method_37_code 235 = .ok (.invokevirtual 199, 3) by decide +kernel) rfl hq_163 rfl (z_le rfl) ⟨(SGn hS (by decide)), (SGk hS rfl), by decide⟩ h42 ?_
            refine Ev_iadd hq_160 (show decode prog_7_method_37_code 238 = .ok (.iadd, 1) by decide +kernel) ?_
            refine Ev_iconst (v := 0) hq_160 (show decode prog_7_method_37_code 239 = .ok (.iconst 0, 1) by decide +kernel) (by decide) ?_
            refine Ev_sipush (v := 999) hq_160 (show decode prog_7_method_37_code 240 = .ok (.sipush 999, 3) by decide +kernel) (by decide) ?_
            refine Ev_stat (as := [.int (y3 + r43), .int 0, .int 999]) hq_160 (show decode prog_7_method_37_code 243 = .ok (.invokestatic 173, 3) by decide +kernel) rfl (Or.inl rfl) hq_152 rfl (z_le rfl) (c_Z_within (y3 + r43) 0 999) ?_
            obtain ⟨h44, k⟩ := k
            refine Ev_iast hq_160 (show decode prog_7_method_37_code 246 = .ok (.iastore, 1) by decide +kernel) (SGn hS (by decide)) (SGk hS rfl) (SGi hS rfl h44) ?_
            obtain ⟨I45, eI45⟩ : ∃ I45 : zI, I45 = z_up I41 73 ((4 * (x1 + 1)) + x2).toNatClampNeg (f_Z_within (y3 + r43) 0 999) := ⟨_, rfl⟩
            have k := k I45 eI45
            rw [← eI45]
            obtain ⟨y46, ey46⟩ : ∃ y46 : Int32, y46 = x2 + 1 := ⟨_, rfl⟩
            have k := k y46 ey46
            refine Ev_iinc (v := y46) (lo2 := [.ref 57, .int x1, .int y46, .int y3, .int y6, .int y10]) hq_160 (show decode prog_7_method_37_code 247 = .ok (.iinc 2 1, 3) by decide +kernel) rfl (by rw [ey46]; rfl) rfl ?_
            refine Ev_goto (tgt := 34) hq_160 (show decode prog_7_method_37_code 250 = .ok (.goto (-216), 3) by decide +kernel) (by decide) ?_
            exact k
          · have k := k.2 c35
            refine Ev_iconst (v := 1) hq_160 (show decode prog_7_method_37_code 202 = .ok (.iconst 1, 1) by decide +kernel) (by decide) ?_
            refine Ev_goto (tgt := 207) hq_160 (show decode prog_7_method_37_code 203 = .ok (.goto 4, 3) by decide +kernel) (by decide) ?_
            refine Ev_iadd hq_160 (show decode prog_7_method_37_code 207 = .ok (.iadd, 1) by decide +kernel) ?_
            obtain ⟨h47, k⟩ := k
            refine Ev_iast hq_160 (show decode prog_7_method_37_code 208 = .ok (.iastore, 1) by decide +kernel) (SGn hS (by decide)) (SGk hS rfl) (SGi hS rfl h47) ?_
            obtain ⟨I48, eI48⟩ : ∃ I48 : zI, I48 = z_up I32 77 x2.toNatClampNeg ((I30 77 x2.toNatClampNeg) + 1) := ⟨_, rfl⟩
            have k := k I48 eI48
            rw [← eI48]
            refine Ev_aload_n hq_160 (show decode prog_7_method_37_code 209 = .ok (.aload_n 0, 1) by decide +kernel) rfl ?_
            refine Ev_getR hq_160 (show decode prog_7_method_37_code 210 = .ok (.getfield 55, 3) by decide +kernel) rfl (SGn hS (by decide)) (SGk hS rfl) (by decide) rfl (SGr hS rfl) ?_
            refine Ev_iconst (v := 4) hq_160 (show decode prog_7_method_37_code 213 = .ok (.iconst 4, 1) by decide +kernel) (by decide) ?_
            refine Ev_iload_n hq_160 (show decode prog_7_method_37_code 214 = .ok (.iload_n 1, 1) by decide +kernel) rfl ?_
            refine Ev_iconst (v := 1) hq_160 (show decode prog_7_method_37_code 215 = .ok (.iconst 1, 1) by decide +kernel) (by decide) ?_
            refine Ev_iadd hq_160 (show decode prog_7_method_37_code 216 = .ok (.iadd, 1) by decide +kernel) ?_
            refine Ev_imul hq_160 (show decode prog_7_method_37_code 217 = .ok (.imul, 1) by decide +kernel) ?_
            refine Ev_iload_n hq_160 (show decode prog_7_method_37_code 218 = .ok (.iload_n 2, 1) by decide +kernel) rfl ?_
            refine Ev_iadd hq_160 (show decode prog_7_method_37_code 219 = .ok (.iadd, 1) by decide +kernel) ?_
            refine Ev_iload_n hq_160 (show decode prog_7_method_37_code 220 = .ok (.iload_n 3, 1) by decide +kernel) rfl ?_
            refine Ev_aload_n hq_160 (show decode prog_7_method_37_code 221 = .ok (.aload_n 0, 1) by decide +kernel) rfl ?_
            refine Ev_iload_n hq_160 (show decode prog_7_method_37_code 222 = .ok (.iload_n 2, 1) by decide +kernel) rfl ?_
            refine Ev_aload_n hq_160 (show decode prog_7_method_37_code 223 = .ok (.aload_n 0, 1) by decide +kernel) rfl ?_
            refine Ev_iconst (v := 0) hq_160 (show decode prog_7_method_37_code 224 = .ok (.iconst 0, 1) by decide +kernel) (by decide) ?_
            refine Ev_iload_n hq_160 (show decode prog_7_method_37_code 225 = .ok (.iload_n 2, 1) by decide +kernel) rfl ?_
            refine Ev_iload hq_160 (show decode prog_7_method_37_code 226 = .ok (.iload 4, 2) by decide +kernel) rfl ?_
            refine Ev_iload hq_160 (show decode prog_7_method_37_code 228 = .ok (.iload 5, 2) by decide +kernel) rfl ?_
            refine Ev_iload_n hq_160 (show decode prog_7_method_37_code 230 = .ok (.iload_n 3, 1) by decide +kernel) rfl ?_
            refine Ev_iload_n hq_160 (show decode prog_7_method_37_code 231 = .ok (.iload_n 1, 1) by decide +kernel) rfl ?_
            obtain ⟨r51, I49, h50, k⟩ := k
            refine Ev_virt (as := [.int 0, .int x2, .int y6, .int y10, .int y3, .int x1]) hq_160 (show decode prog_7_method_37_code 232 = .ok (.invokevirtual 180, 3) by decide +kernel) rfl hq_149 rfl (z_le rfl) ⟨(SGn hS (by decide)), (SGk hS rfl), by decide⟩ h50 ?_
            obtain ⟨r54, I52, h53, k⟩ := k
            refine Ev_virt (as := [.int x2, .int r51]) hq_160 (show decode prog_7_method_37_code 235 = .ok (.invokevirtual 199, 3) by decide +kernel) rfl hq_163 rfl (z_le rfl) ⟨(SGn hS (by decide)), (SGk hS rfl), by decide⟩ h53 ?_
            refine Ev_iadd hq_160 (show decode prog_7_method_37_code 238 = .ok (.iadd, 1) by decide +kernel) ?_
            refine Ev_iconst (v := 0) hq_160 (show decode prog_7_method_37_code 239 = .ok (.iconst 0, 1) by decide +kernel) (by decide) ?_
            refine Ev_sipush (v := 999) hq_160 (show decode prog_7_method_37_code 240 = .ok (.sipush 999, 3) by decide +kernel) (by decide) ?_
            refine Ev_stat (as := [.int (y3 + r54), .int 0, .int 999]) hq_160 (show decode prog_7_method_37_code 243 = .ok (.invokestatic 173, 3) by decide +kernel) rfl (Or.inl rfl) hq_152 rfl (z_le rfl) (c_Z_within (y3 + r54) 0 999) ?_
            obtain ⟨h55, k⟩ := k
            refine Ev_iast hq_160 (show decode prog_7_method_37_code 246 = .ok (.iastore, 1) by decide +kernel) (SGn hS (by decide)) (SGk hS rfl) (SGi hS rfl h55) ?_
            obtain ⟨I56, eI56⟩ : ∃ I56 : zI, I56 = z_up I52 73 ((4 * (x1 + 1)) + x2).toNatClampNeg (f_Z_within (y3 + r54) 0 999) := ⟨_, rfl⟩
            have k := k I56 eI56
            rw [← eI56]
            obtain ⟨y57, ey57⟩ : ∃ y57 : Int32, y57 = x2 + 1 := ⟨_, rfl⟩
            have k := k y57 ey57
            refine Ev_iinc (v := y57) (lo2 := [.ref 57, .int x1, .int y57, .int y3, .int y6, .int y10]) hq_160 (show decode prog_7_method_37_code 247 = .ok (.iinc 2 1, 3) by decide +kernel) rfl (by rw [ey57]; rfl) rfl ?_
            refine Ev_goto (tgt := 34) hq_160 (show decode prog_7_method_37_code 250 = .ok (.goto (-216), 3) by decide +kernel) (by decide) ?_
            exact k
        · have k := k.2 (Classical.not_not.mp c28)
          refine Ev_iconst (v := 1) hq_160 (show decode prog_7_method_37_code 175 = .ok (.iconst 1, 1) by decide +kernel) (by decide) ?_
          refine Ev_iload_n hq_160 (show decode prog_7_method_37_code 176 = .ok (.iload_n 1, 1) by decide +kernel) rfl ?_
          refine Ev_ishl hq_160 (show decode prog_7_method_37_code 177 = .ok (.ishl, 1) by decide +kernel) ?_
          refine Ev_goto (tgt := 182) hq_160 (show decode prog_7_method_37_code 178 = .ok (.goto 4, 3) by decide +kernel) (by decide) ?_
          refine Ev_ior hq_160 (show decode prog_7_method_37_code 182 = .ok (.ior, 1) by decide +kernel) ?_
          obtain ⟨h58, k⟩ := k
          refine Ev_iast hq_160 (show decode prog_7_method_37_code 183 = .ok (.iastore, 1) by decide +kernel) (SGn hS (by decide)) (SGk hS rfl) (SGi hS rfl h58) ?_
          obtain ⟨I59, eI59⟩ : ∃ I59 : zI, I59 = z_up I25 76 x2.toNatClampNeg ((I23 76 x2.toNatClampNeg) ||| (1 <<< (x1 &&& 31))) := ⟨_, rfl⟩
          have k := k I59 eI59
          rw [← eI59]
          refine Ev_aload_n hq_160 (show decode prog_7_method_37_code 184 = .ok (.aload_n 0, 1) by decide +kernel) rfl ?_
          refine Ev_getR hq_160 (show decode prog_7_method_37_code 185 = .ok (.getfield 67, 3) by decide +kernel) rfl (SGn hS (by decide)) (SGk hS rfl) (by decide) rfl (SGr hS rfl) ?_
          refine Ev_iload_n hq_160 (show decode prog_7_method_37_code 188 = .ok (.iload_n 2, 1) by decide +kernel) rfl ?_
          refine Ev_dup2 hq_160 (show decode prog_7_method_37_code 189 = .ok (.dup2, 1) by decide +kernel) ⟨rfl, rfl⟩ ?_
          obtain ⟨h60, k⟩ := k
          refine Ev_iald hq_160 (show decode prog_7_method_37_code 190 = .ok (.iaload, 1) by decide +kernel) (SGn hS (by decide)) (SGk hS rfl) (SGi hS rfl h60) ?_
          refine Ev_iload hq_160 (show decode prog_7_method_37_code 191 = .ok (.iload 4, 2) by decide +kernel) rfl ?_
          refine Ev_ineg hq_160 (show decode prog_7_method_37_code 193 = .ok (.ineg, 1) by decide +kernel) ?_
          refine Ev_aload_n hq_160 (show decode prog_7_method_37_code 194 = .ok (.aload_n 0, 1) by decide +kernel) rfl ?_
          refine Ev_iload_n hq_160 (show decode prog_7_method_37_code 195 = .ok (.iload_n 2, 1) by decide +kernel) rfl ?_
          obtain ⟨r63, I61, h62, k⟩ := k
          refine Ev_virt (as := [.int x2]) hq_160 (show decode prog_7_method_37_code 196 = .ok (.invokevirtual 187, 3) by decide +kernel) rfl hq_157 rfl (z_le rfl) ⟨(SGn hS (by decide)), (SGk hS rfl), by decide⟩ h62 ?_
          refine Ev_icmp_lt (tgt := 206) hq_160 (show decode prog_7_method_37_code 199 = .ok (.if_icmp .lt 7, 3) by decide +kernel) (by decide) (fun c64 => ?_) (fun c64 => ?_)
          · have k := k.1 c64
            refine Ev_iconst (v := 0) hq_160 (show decode prog_7_method_37_code 206 = .ok (.iconst 0, 1) by decide +kernel) (by decide) ?_
            refine Ev_iadd hq_160 (show decode prog_7_method_37_code 207 = .ok (.iadd, 1) by decide +kernel) ?_
            obtain ⟨h65, k⟩ := k
            refine Ev_iast hq_160 (show decode prog_7_method_37_code 208 = .ok (.iastore, 1) by decide +kernel) (SGn hS (by decide)) (SGk hS rfl) (SGi hS rfl h65) ?_
            obtain ⟨I66, eI66⟩ : ∃ I66 : zI, I66 = z_up I61 77 x2.toNatClampNeg ((I59 77 x2.toNatClampNeg) + 0) := ⟨_, rfl⟩
            have k := k I66 eI66
            rw [← eI66]
            refine Ev_aload_n hq_160 (show decode prog_7_method_37_code 209 = .ok (.aload_n 0, 1) by decide +kernel) rfl ?_
            refine Ev_getR hq_160 (show decode prog_7_method_37_code 210 = .ok (.getfield 55, 3) by decide +kernel) rfl (SGn hS (by decide)) (SGk hS rfl) (by decide) rfl (SGr hS rfl) ?_
            refine Ev_iconst (v := 4) hq_160 (show decode prog_7_method_37_code 213 = .ok (.iconst 4, 1) by decide +kernel) (by decide) ?_
            refine Ev_iload_n hq_160 (show decode prog_7_method_37_code 214 = .ok (.iload_n 1, 1) by decide +kernel) rfl ?_
            refine Ev_iconst (v := 1) hq_160 (show decode prog_7_method_37_code 215 = .ok (.iconst 1, 1) by decide +kernel) (by decide) ?_
            refine Ev_iadd hq_160 (show decode prog_7_method_37_code 216 = .ok (.iadd, 1) by decide +kernel) ?_
            refine Ev_imul hq_160 (show decode prog_7_method_37_code 217 = .ok (.imul, 1) by decide +kernel) ?_
            refine Ev_iload_n hq_160 (show decode prog_7_method_37_code 218 = .ok (.iload_n 2, 1) by decide +kernel) rfl ?_
            refine Ev_iadd hq_160 (show decode prog_7_method_37_code 219 = .ok (.iadd, 1) by decide +kernel) ?_
            refine Ev_iload_n hq_160 (show decode prog_7_method_37_code 220 = .ok (.iload_n 3, 1) by decide +kernel) rfl ?_
            refine Ev_aload_n hq_160 (show decode prog_7_method_37_code 221 = .ok (.aload_n 0, 1) by decide +kernel) rfl ?_
            refine Ev_iload_n hq_160 (show decode prog_7_method_37_code 222 = .ok (.iload_n 2, 1) by decide +kernel) rfl ?_
            refine Ev_aload_n hq_160 (show decode prog_7_method_37_code 223 = .ok (.aload_n 0, 1) by decide +kernel) rfl ?_
            refine Ev_iconst (v := 0) hq_160 (show decode prog_7_method_37_code 224 = .ok (.iconst 0, 1) by decide +kernel) (by decide) ?_
            refine Ev_iload_n hq_160 (show decode prog_7_method_37_code 225 = .ok (.iload_n 2, 1) by decide +kernel) rfl ?_
            refine Ev_iload hq_160 (show decode prog_7_method_37_code 226 = .ok (.iload 4, 2) by decide +kernel) rfl ?_
            refine Ev_iload hq_160 (show decode prog_7_method_37_code 228 = .ok (.iload 5, 2) by decide +kernel) rfl ?_
            refine Ev_iload_n hq_160 (show decode prog_7_method_37_code 230 = .ok (.iload_n 3, 1) by decide +kernel) rfl ?_
            refine Ev_iload_n hq_160 (show decode prog_7_method_37_code 231 = .ok (.iload_n 1, 1) by decide +kernel) rfl ?_
            obtain ⟨r69, I67, h68, k⟩ := k
            refine Ev_virt (as := [.int 0, .int x2, .int y6, .int y10, .int y3, .int x1]) hq_160 (show decode prog_7_method_37_code 232 = .ok (.invokevirtual 180, 3) by decide +kernel) rfl hq_149 rfl (z_le rfl) ⟨(SGn hS (by decide)), (SGk hS rfl), by decide⟩ h68 ?_
            obtain ⟨r72, I70, h71, k⟩ := k
            refine Ev_virt (as := [.int x2, .int r69]) hq_160 (show decode prog_7_method_37_code 235 = .ok (.invokevirtual 199, 3) by decide +kernel) rfl hq_163 rfl (z_le rfl) ⟨(SGn hS (by decide)), (SGk hS rfl), by decide⟩ h71 ?_
            refine Ev_iadd hq_160 (show decode prog_7_method_37_code 238 = .ok (.iadd, 1) by decide +kernel) ?_
            refine Ev_iconst (v := 0) hq_160 (show decode prog_7_method_37_code 239 = .ok (.iconst 0, 1) by decide +kernel) (by decide) ?_
            refine Ev_sipush (v := 999) hq_160 (show decode prog_7_method_37_code 240 = .ok (.sipush 999, 3) by decide +kernel) (by decide) ?_
            refine Ev_stat (as := [.int (y3 + r72), .int 0, .int 999]) hq_160 (show decode prog_7_method_37_code 243 = .ok (.invokestatic 173, 3) by decide +kernel) rfl (Or.inl rfl) hq_152 rfl (z_le rfl) (c_Z_within (y3 + r72) 0 999) ?_
            obtain ⟨h73, k⟩ := k
            refine Ev_iast hq_160 (show decode prog_7_method_37_code 246 = .ok (.iastore, 1) by decide +kernel) (SGn hS (by decide)) (SGk hS rfl) (SGi hS rfl h73) ?_
            obtain ⟨I74, eI74⟩ : ∃ I74 : zI, I74 = z_up I70 73 ((4 * (x1 + 1)) + x2).toNatClampNeg (f_Z_within (y3 + r72) 0 999) := ⟨_, rfl⟩
            have k := k I74 eI74
            rw [← eI74]
            obtain ⟨y75, ey75⟩ : ∃ y75 : Int32, y75 = x2 + 1 := ⟨_, rfl⟩
            have k := k y75 ey75
            refine Ev_iinc (v := y75) (lo2 := [.ref 57, .int x1, .int y75, .int y3, .int y6, .int y10]) hq_160 (show decode prog_7_method_37_code 247 = .ok (.iinc 2 1, 3) by decide +kernel) rfl (by rw [ey75]; rfl) rfl ?_
            refine Ev_goto (tgt := 34) hq_160 (show decode prog_7_method_37_code 250 = .ok (.goto (-216), 3) by decide +kernel) (by decide) ?_
            exact k
          · have k := k.2 c64
            refine Ev_iconst (v := 1) hq_160 (show decode prog_7_method_37_code 202 = .ok (.iconst 1, 1) by decide +kernel) (by decide) ?_
            refine Ev_goto (tgt := 207) hq_160 (show decode prog_7_method_37_code 203 = .ok (.goto 4, 3) by decide +kernel) (by decide) ?_
            refine Ev_iadd hq_160 (show decode prog_7_method_37_code 207 = .ok (.iadd, 1) by decide +kernel) ?_
            obtain ⟨h76, k⟩ := k
            refine Ev_iast hq_160 (show decode prog_7_method_37_code 208 = .ok (.iastore, 1) by decide +kernel) (SGn hS (by decide)) (SGk hS rfl) (SGi hS rfl h76) ?_
            obtain ⟨I77, eI77⟩ : ∃ I77 : zI, I77 = z_up I61 77 x2.toNatClampNeg ((I59 77 x2.toNatClampNeg) + 1) := ⟨_, rfl⟩
            have k := k I77 eI77
            rw [← eI77]
            refine Ev_aload_n hq_160 (show decode prog_7_method_37_code 209 = .ok (.aload_n 0, 1) by decide +kernel) rfl ?_
            refine Ev_getR hq_160 (show decode prog_7_method_37_code 210 = .ok (.getfield 55, 3) by decide +kernel) rfl (SGn hS (by decide)) (SGk hS rfl) (by decide) rfl (SGr hS rfl) ?_
            refine Ev_iconst (v := 4) hq_160 (show decode prog_7_method_37_code 213 = .ok (.iconst 4, 1) by decide +kernel) (by decide) ?_
            refine Ev_iload_n hq_160 (show decode prog_7_method_37_code 214 = .ok (.iload_n 1, 1) by decide +kernel) rfl ?_
            refine Ev_iconst (v := 1) hq_160 (show decode prog_7_method_37_code 215 = .ok (.iconst 1, 1) by decide +kernel) (by decide) ?_
            refine Ev_iadd hq_160 (show decode prog_7_method_37_code 216 = .ok (.iadd, 1) by decide +kernel) ?_
            refine Ev_imul hq_160 (show decode prog_7_method_37_code 217 = .ok (.imul, 1) by decide +kernel) ?_
            refine Ev_iload_n hq_160 (show decode prog_7_method_37_code 218 = .ok (.iload_n 2, 1) by decide +kernel) rfl ?_
            refine Ev_iadd hq_160 (show decode prog_7_method_37_code 219 = .ok (.iadd, 1) by decide +kernel) ?_
            refine Ev_iload_n hq_160 (show decode prog_7_method_37_code 220 = .ok (.iload_n 3, 1) by decide +kernel) rfl ?_
            refine Ev_aload_n hq_160 (show decode prog_7_method_37_code 221 = .ok (.aload_n 0, 1) by decide +kernel) rfl ?_
            refine Ev_iload_n hq_160 (show decode prog_7_method_37_code 222 = .ok (.iload_n 2, 1) by decide +kernel) rfl ?_
            refine Ev_aload_n hq_160 (show decode prog_7_method_37_code 223 = .ok (.aload_n 0, 1) by decide +kernel) rfl ?_
            refine Ev_iconst (v := 0) hq_160 (show decode prog_7_method_37_code 224 = .ok (.iconst 0, 1) by decide +kernel) (by decide) ?_
            refine Ev_iload_n hq_160 (show decode prog_7_method_37_code 225 = .ok (.iload_n 2, 1) by decide +kernel) rfl ?_
            refine Ev_iload hq_160 (show decode prog_7_method_37_code 226 = .ok (.iload 4, 2) by decide +kernel) rfl ?_
            refine Ev_iload hq_160 (show decode prog_7_method_37_code 228 = .ok (.iload 5, 2) by decide +kernel) rfl ?_
            refine Ev_iload_n hq_160 (show decode prog_7_method_37_code 230 = .ok (.iload_n 3, 1) by decide +kernel) rfl ?_
            refine Ev_iload_n hq_160 (show decode prog_7_method_37_code 231 = .ok (.iload_n 1, 1) by decide +kernel) rfl ?_
            obtain ⟨r80, I78, h79, k⟩ := k
            refine Ev_virt (as := [.int 0, .int x2, .int y6, .int y10, .int y3, .int x1]) hq_160 (show decode prog_7_method_37_code 232 = .ok (.invokevirtual 180, 3) by decide +kernel) rfl hq_149 rfl (z_le rfl) ⟨(SGn hS (by decide)), (SGk hS rfl), by decide⟩ h79 ?_
            obtain ⟨r83, I81, h82, k⟩ := k
            refine Ev_virt (as := [.int x2, .int r80]) hq_160 (show decode prog_7_method_37_code 235 = .ok (.invokevirtual 199, 3) by decide +kernel) rfl hq_163 rfl (z_le rfl) ⟨(SGn hS (by decide)), (SGk hS rfl), by decide⟩ h82 ?_
            refine Ev_iadd hq_160 (show decode prog_7_method_37_code 238 = .ok (.iadd, 1) by decide +kernel) ?_
            refine Ev_iconst (v := 0) hq_160 (show decode prog_7_method_37_code 239 = .ok (.iconst 0, 1) by decide +kernel) (by decide) ?_
            refine Ev_sipush (v := 999) hq_160 (show decode prog_7_method_37_code 240 = .ok (.sipush 999, 3) by decide +kernel) (by decide) ?_
            refine Ev_stat (as := [.int (y3 + r83), .int 0, .int 999]) hq_160 (show decode prog_7_method_37_code 243 = .ok (.invokestatic 173, 3) by decide +kernel) rfl (Or.inl rfl) hq_152 rfl (z_le rfl) (c_Z_within (y3 + r83) 0 999) ?_
            obtain ⟨h84, k⟩ := k
            refine Ev_iast hq_160 (show decode prog_7_method_37_code 246 = .ok (.iastore, 1) by decide +kernel) (SGn hS (by decide)) (SGk hS rfl) (SGi hS rfl h84) ?_
            obtain ⟨I85, eI85⟩ : ∃ I85 : zI, I85 = z_up I81 73 ((4 * (x1 + 1)) + x2).toNatClampNeg (f_Z_within (y3 + r83) 0 999) := ⟨_, rfl⟩
            have k := k I85 eI85
            rw [← eI85]
            obtain ⟨y86, ey86⟩ : ∃ y86 : Int32, y86 = x2 + 1 := ⟨_, rfl⟩
            have k := k y86 ey86
            refine Ev_iinc (v := y86) (lo2 := [.ref 57, .int x1, .int y86, .int y3, .int y6, .int y10]) hq_160 (show decode prog_7_method_37_code 247 = .ok (.iinc 2 1, 3) by decide +kernel) rfl (by rw [ey86]; rfl) rfl ?_
            refine Ev_goto (tgt := 34) hq_160 (show decode prog_7_method_37_code 250 = .ok (.goto (-216), 3) by decide +kernel) (by decide) ?_
            exact k
    · have k := k.2 (Classical.not_not.mp c7)
      refine Ev_iload hq_160 (show decode prog_7_method_37_code 80 = .ok (.iload 4, 2) by decide +kernel) rfl ?_
      refine Ev_goto (tgt := 108) hq_160 (show decode prog_7_method_37_code 82 = .ok (.goto 26, 3) by decide +kernel) (by decide) ?_
      refine Ev_istore (lo2 := [.ref 57, .int x1, .int x2, .int y3, .int y6, .int y6]) hq_160 (show decode prog_7_method_37_code 108 = .ok (.istore 5, 2) by decide +kernel) (z_le rfl) rfl ?_
      refine Ev_aload_n hq_160 (show decode prog_7_method_37_code 110 = .ok (.aload_n 0, 1) by decide +kernel) rfl ?_
      refine Ev_getR hq_160 (show decode prog_7_method_37_code 111 = .ok (.getfield 55, 3) by decide +kernel) rfl (SGn hS (by decide)) (SGk hS rfl) (by decide) rfl (SGr hS rfl) ?_
      refine Ev_iconst (v := 4) hq_160 (show decode prog_7_method_37_code 114 = .ok (.iconst 4, 1) by decide +kernel) (by decide) ?_
      refine Ev_iload_n hq_160 (show decode prog_7_method_37_code 115 = .ok (.iload_n 1, 1) by decide +kernel) rfl ?_
      refine Ev_iconst (v := 1) hq_160 (show decode prog_7_method_37_code 116 = .ok (.iconst 1, 1) by decide +kernel) (by decide) ?_
      refine Ev_iadd hq_160 (show decode prog_7_method_37_code 117 = .ok (.iadd, 1) by decide +kernel) ?_
      refine Ev_imul hq_160 (show decode prog_7_method_37_code 118 = .ok (.imul, 1) by decide +kernel) ?_
      refine Ev_iload_n hq_160 (show decode prog_7_method_37_code 119 = .ok (.iload_n 2, 1) by decide +kernel) rfl ?_
      refine Ev_iadd hq_160 (show decode prog_7_method_37_code 120 = .ok (.iadd, 1) by decide +kernel) ?_
      refine Ev_iload_n hq_160 (show decode prog_7_method_37_code 121 = .ok (.iload_n 3, 1) by decide +kernel) rfl ?_
      obtain ⟨h87, k⟩ := k
      refine Ev_iast hq_160 (show decode prog_7_method_37_code 122 = .ok (.iastore, 1) by decide +kernel) (SGn hS (by decide)) (SGk hS rfl) (SGi hS rfl h87) ?_
      obtain ⟨I88, eI88⟩ : ∃ I88 : zI, I88 = z_up I 73 ((4 * (x1 + 1)) + x2).toNatClampNeg y3 := ⟨_, rfl⟩
      have k := k I88 eI88
      rw [← eI88]
      refine Ev_aload_n hq_160 (show decode prog_7_method_37_code 123 = .ok (.aload_n 0, 1) by decide +kernel) rfl ?_
      refine Ev_iload_n hq_160 (show decode prog_7_method_37_code 124 = .ok (.iload_n 2, 1) by decide +kernel) rfl ?_
      obtain ⟨r91, I89, h90, k⟩ := k
      refine Ev_virt (as := [.int x2]) hq_160 (show decode prog_7_method_37_code 125 = .ok (.invokevirtual 94, 3) by decide +kernel) rfl hq_143 rfl (z_le rfl) ⟨(SGn hS (by decide)), (SGk hS rfl), by decide⟩ h90 ?_
      refine Ev_if_eq (tgt := 247) hq_160 (show decode prog_7_method_37_code 128 = .ok (.ifCond .eq 119, 3) by decide +kernel) (by decide) (fun c92 => ?_) (fun c92 => ?_)
      · have k := k.1 c92
        obtain ⟨y93, ey93⟩ : ∃ y93 : Int32, y93 = x2 + 1 := ⟨_, rfl⟩
        have k := k y93 ey93
        refine Ev_iinc (v := y93) (lo2 := [.ref 57, .int x1, .int y93, .int y3, .int y6, .int y6]) hq_160 (show decode prog_7_method_37_code 247 = .ok (.iinc 2 1, 3) by decide +kernel) rfl (by rw [ey93]; rfl) rfl ?_
        refine Ev_goto (tgt := 34) hq_160 (show decode prog_7_method_37_code 250 = .ok (.goto (-216), 3) by decide +kernel) (by decide) ?_
        exact k
      · have k := k.2 c92
        refine Ev_aload_n hq_160 (show decode prog_7_method_37_code 131 = .ok (.aload_n 0, 1) by decide +kernel) rfl ?_
        refine Ev_getR hq_160 (show decode prog_7_method_37_code 132 = .ok (.getfield 61, 3) by decide +kernel) rfl (SGn hS (by decide)) (SGk hS rfl) (by decide) rfl (SGr hS rfl) ?_
        refine Ev_iload_n hq_160 (show decode prog_7_method_37_code 135 = .ok (.iload_n 2, 1) by decide +kernel) rfl ?_
        refine Ev_dup2 hq_160 (show decode prog_7_method_37_code 136 = .ok (.dup2, 1) by decide +kernel) ⟨rfl, rfl⟩ ?_
        obtain ⟨h94, k⟩ := k
        refine Ev_iald hq_160 (show decode prog_7_method_37_code 137 = .ok (.iaload, 1) by decide +kernel) (SGn hS (by decide)) (SGk hS rfl) (SGi hS rfl h94) ?_
        refine Ev_aload_n hq_160 (show decode prog_7_method_37_code 138 = .ok (.aload_n 0, 1) by decide +kernel) rfl ?_
        refine Ev_iconst (v := 1) hq_160 (show decode prog_7_method_37_code 139 = .ok (.iconst 1, 1) by decide +kernel) (by decide) ?_
        refine Ev_iload_n hq_160 (show decode prog_7_method_37_code 140 = .ok (.iload_n 2, 1) by decide +kernel) rfl ?_
        refine Ev_iload hq_160 (show decode prog_7_method_37_code 141 = .ok (.iload 4, 2) by decide +kernel) rfl ?_
        refine Ev_iload hq_160 (show decode prog_7_method_37_code 143 = .ok (.iload 5, 2) by decide +kernel) rfl ?_
        refine Ev_iload_n hq_160 (show decode prog_7_method_37_code 145 = .ok (.iload_n 3, 1) by decide +kernel) rfl ?_
        refine Ev_iload_n hq_160 (show decode prog_7_method_37_code 146 = .ok (.iload_n 1, 1) by decide +kernel) rfl ?_
        obtain ⟨r97, I95, h96, k⟩ := k
        refine Ev_virt (as := [.int 1, .int x2, .int y6, .int y6, .int y3, .int x1]) hq_160 (show decode prog_7_method_37_code 147 = .ok (.invokevirtual 180, 3) by decide +kernel) rfl hq_149 rfl (z_le rfl) ⟨(SGn hS (by decide)), (SGk hS rfl), by decide⟩ h96 ?_
        refine Ev_iadd hq_160 (show decode prog_7_method_37_code 150 = .ok (.iadd, 1) by decide +kernel) ?_
        obtain ⟨h98, k⟩ := k
        refine Ev_iast hq_160 (show decode prog_7_method_37_code 151 = .ok (.iastore, 1) by decide +kernel) (SGn hS (by decide)) (SGk hS rfl) (SGi hS rfl h98) ?_
        obtain ⟨I99, eI99⟩ : ∃ I99 : zI, I99 = z_up I95 75 x2.toNatClampNeg ((I89 75 x2.toNatClampNeg) + r97) := ⟨_, rfl⟩
        have k := k I99 eI99
        rw [← eI99]
        refine Ev_aload_n hq_160 (show decode prog_7_method_37_code 152 = .ok (.aload_n 0, 1) by decide +kernel) rfl ?_
        refine Ev_getR hq_160 (show decode prog_7_method_37_code 153 = .ok (.getfield 64, 3) by decide +kernel) rfl (SGn hS (by decide)) (SGk hS rfl) (by decide) rfl (SGr hS rfl) ?_
        refine Ev_iload_n hq_160 (show decode prog_7_method_37_code 156 = .ok (.iload_n 2, 1) by decide +kernel) rfl ?_
        refine Ev_dup2 hq_160 (show decode prog_7_method_37_code 157 = .ok (.dup2, 1) by decide +kernel) ⟨rfl, rfl⟩ ?_
        obtain ⟨h100, k⟩ := k
        refine Ev_iald hq_160 (show decode prog_7_method_37_code 158 = .ok (.iaload, 1) by decide +kernel) (SGn hS (by decide)) (SGk hS rfl) (SGi hS rfl h100) ?_
        refine Ev_aload_n hq_160 (show decode prog_7_method_37_code 159 = .ok (.aload_n 0, 1) by decide +kernel) rfl ?_
        refine Ev_iconst (v := 2) hq_160 (show decode prog_7_method_37_code 160 = .ok (.iconst 2, 1) by decide +kernel) (by decide) ?_
        refine Ev_iload_n hq_160 (show decode prog_7_method_37_code 161 = .ok (.iload_n 2, 1) by decide +kernel) rfl ?_
        refine Ev_iload hq_160 (show decode prog_7_method_37_code 162 = .ok (.iload 4, 2) by decide +kernel) rfl ?_
        refine Ev_iload hq_160 (show decode prog_7_method_37_code 164 = .ok (.iload 5, 2) by decide +kernel) rfl ?_
        refine Ev_iload_n hq_160 (show decode prog_7_method_37_code 166 = .ok (.iload_n 3, 1) by decide +kernel) rfl ?_
        refine Ev_iload_n hq_160 (show decode prog_7_method_37_code 167 = .ok (.iload_n 1, 1) by decide +kernel) rfl ?_
        obtain ⟨r103, I101, h102, k⟩ := k
        refine Ev_virt (as := [.int 2, .int x2, .int y6, .int y6, .int y3, .int x1]) hq_160 (show decode prog_7_method_37_code 168 = .ok (.invokevirtual 180, 3) by decide +kernel) rfl hq_149 rfl (z_le rfl) ⟨(SGn hS (by decide)), (SGk hS rfl), by decide⟩ h102 ?_
        refine Ev_iconst (v := 1) hq_160 (show decode prog_7_method_37_code 171 = .ok (.iconst 1, 1) by decide +kernel) (by decide) ?_
        refine Ev_icmp_ne (tgt := 181) hq_160 (show decode prog_7_method_37_code 172 = .ok (.if_icmp .ne 9, 3) by decide +kernel) (by decide) (fun c104 => ?_) (fun c104 => ?_)
        · have k := k.1 c104
          refine Ev_iconst (v := 0) hq_160 (show decode prog_7_method_37_code 181 = .ok (.iconst 0, 1) by decide +kernel) (by decide) ?_
          refine Ev_ior hq_160 (show decode prog_7_method_37_code 182 = .ok (.ior, 1) by decide +kernel) ?_
          obtain ⟨h105, k⟩ := k
          refine Ev_iast hq_160 (show decode prog_7_method_37_code 183 = .ok (.iastore, 1) by decide +kernel) (SGn hS (by decide)) (SGk hS rfl) (SGi hS rfl h105) ?_
          obtain ⟨I106, eI106⟩ : ∃ I106 : zI, I106 = z_up I101 76 x2.toNatClampNeg ((I99 76 x2.toNatClampNeg) ||| 0) := ⟨_, rfl⟩
          have k := k I106 eI106
          rw [← eI106]
          refine Ev_aload_n hq_160 (show decode prog_7_method_37_code 184 = .ok (.aload_n 0, 1) by decide +kernel) rfl ?_
          refine Ev_getR hq_160 (show decode prog_7_method_37_code 185 = .ok (.getfield 67, 3) by decide +kernel) rfl (SGn hS (by decide)) (SGk hS rfl) (by decide) rfl (SGr hS rfl) ?_
          refine Ev_iload_n hq_160 (show decode prog_7_method_37_code 188 = .ok (.iload_n 2, 1) by decide +kernel) rfl ?_
          refine Ev_dup2 hq_160 (show decode prog_7_method_37_code 189 = .ok (.dup2, 1) by decide +kernel) ⟨rfl, rfl⟩ ?_
          obtain ⟨h107, k⟩ := k
          refine Ev_iald hq_160 (show decode prog_7_method_37_code 190 = .ok (.iaload, 1) by decide +kernel) (SGn hS (by decide)) (SGk hS rfl) (SGi hS rfl h107) ?_
          refine Ev_iload hq_160 (show decode prog_7_method_37_code 191 = .ok (.iload 4, 2) by decide +kernel) rfl ?_
          refine Ev_ineg hq_160 (show decode prog_7_method_37_code 193 = .ok (.ineg, 1) by decide +kernel) ?_
          refine Ev_aload_n hq_160 (show decode prog_7_method_37_code 194 = .ok (.aload_n 0, 1) by decide +kernel) rfl ?_
          refine Ev_iload_n hq_160 (show decode prog_7_method_37_code 195 = .ok (.iload_n 2, 1) by decide +kernel) rfl ?_
          obtain ⟨r110, I108, h109, k⟩ := k
          refine Ev_virt (as := [.int x2]) hq_160 (show decode prog_7_method_37_code 196 = .ok (.invokevirtual 187, 3) by decide +kernel) rfl hq_157 rfl (z_le rfl) ⟨(SGn hS (by decide)), (SGk hS rfl), by decide⟩ h109 ?_
          refine Ev_icmp_lt (tgt := 206) hq_160 (show decode prog_7_method_37_code 199 = .ok (.if_icmp .lt 7, 3) by decide +kernel) (by decide) (fun c111 => ?_) (fun c111 => ?_)
          · have k := k.1 c111
            refine Ev_iconst (v := 0) hq_160 (show decode prog_7_method_37_code 206 = .ok (.iconst 0, 1) by decide +kernel) (by decide) ?_
            refine Ev_iadd hq_160 (show decode prog_7_method_37_code 207 = .ok (.iadd, 1) by decide +kernel) ?_
            obtain ⟨h112, k⟩ := k
            refine Ev_iast hq_160 (show decode prog_7_method_37_code 208 = .ok (.iastore, 1) by decide +kernel) (SGn hS (by decide)) (SGk hS rfl) (SGi hS rfl h112) ?_
            obtain ⟨I113, eI113⟩ : ∃ I113 : zI, I113 = z_up I108 77 x2.toNatClampNeg ((I106 77 x2.toNatClampNeg) + 0) := ⟨_, rfl⟩
            have k := k I113 eI113
            rw [← eI113]
            refine Ev_aload_n hq_160 (show decode prog_7_method_37_code 209 = .ok (.aload_n 0, 1) by decide +kernel) rfl ?_
            refine Ev_getR hq_160 (show decode prog_7_method_37_code 210 = .ok (.getfield 55, 3) by decide +kernel) rfl (SGn hS (by decide)) (SGk hS rfl) (by decide) rfl (SGr hS rfl) ?_
            refine Ev_iconst (v := 4) hq_160 (show decode prog_7_method_37_code 213 = .ok (.iconst 4, 1) by decide +kernel) (by decide) ?_
            refine Ev_iload_n hq_160 (show decode prog_7_method_37_code 214 = .ok (.iload_n 1, 1) by decide +kernel) rfl ?_
            refine Ev_iconst (v := 1) hq_160 (show decode prog_7_method_37_code 215 = .ok (.iconst 1, 1) by decide +kernel) (by decide) ?_
            refine Ev_iadd hq_160 (show decode prog_7_method_37_code 216 = .ok (.iadd, 1) by decide +kernel) ?_
            refine Ev_imul hq_160 (show decode prog_7_method_37_code 217 = .ok (.imul, 1) by decide +kernel) ?_
            refine Ev_iload_n hq_160 (show decode prog_7_method_37_code 218 = .ok (.iload_n 2, 1) by decide +kernel) rfl ?_
            refine Ev_iadd hq_160 (show decode prog_7_method_37_code 219 = .ok (.iadd, 1) by decide +kernel) ?_
            refine Ev_iload_n hq_160 (show decode prog_7_method_37_code 220 = .ok (.iload_n 3, 1) by decide +kernel) rfl ?_
            refine Ev_aload_n hq_160 (show decode prog_7_method_37_code 221 = .ok (.aload_n 0, 1) by decide +kernel) rfl ?_
            refine Ev_iload_n hq_160 (show decode prog_7_method_37_code 222 = .ok (.iload_n 2, 1) by decide +kernel) rfl ?_
            refine Ev_aload_n hq_160 (show decode prog_7_method_37_code 223 = .ok (.aload_n 0, 1) by decide +kernel) rfl ?_
            refine Ev_iconst (v := 0) hq_160 (show decode prog_7_method_37_code 224 = .ok (.iconst 0, 1) by decide +kernel) (by decide) ?_
            refine Ev_iload_n hq_160 (show decode prog_7_method_37_code 225 = .ok (.iload_n 2, 1) by decide +kernel) rfl ?_
            refine Ev_iload hq_160 (show decode prog_7_method_37_code 226 = .ok (.iload 4, 2) by decide +kernel) rfl ?_
            refine Ev_iload hq_160 (show decode prog_7_method_37_code 228 = .ok (.iload 5, 2) by decide +kernel) rfl ?_
            refine Ev_iload_n hq_160 (show decode prog_7_method_37_code 230 = .ok (.iload_n 3, 1) by decide +kernel) rfl ?_
            refine Ev_iload_n hq_160 (show decode prog_7_method_37_code 231 = .ok (.iload_n 1, 1) by decide +kernel) rfl ?_
            obtain ⟨r116, I114, h115, k⟩ := k
            refine Ev_virt (as := [.int 0, .int x2, .int y6, .int y6, .int y3, .int x1]) hq_160 (show decode prog_7_method_37_code 232 = .ok (.invokevirtual 180, 3) by decide +kernel) rfl hq_149 rfl (z_le rfl) ⟨(SGn hS (by decide)), (SGk hS rfl), by decide⟩ h115 ?_
            obtain ⟨r119, I117, h118, k⟩ := k
            refine Ev_virt (as := [.int x2, .int r116]) hq_160 (show decode prog_7_method_37_code 235 = .ok (.invokevirtual 199, 3) by decide +kernel) rfl hq_163 rfl (z_le rfl) ⟨(SGn hS (by decide)), (SGk hS rfl), by decide⟩ h118 ?_
            refine Ev_iadd hq_160 (show decode prog_7_method_37_code 238 = .ok (.iadd, 1) by decide +kernel) ?_
            refine Ev_iconst (v := 0) hq_160 (show decode prog_7_method_37_code 239 = .ok (.iconst 0, 1) by decide +kernel) (by decide) ?_
            refine Ev_sipush (v := 999) hq_160 (show decode prog_7_method_37_code 240 = .ok (.sipush 999, 3) by decide +kernel) (by decide) ?_
            refine Ev_stat (as := [.int (y3 + r119), .int 0, .int 999]) hq_160 (show decode prog_7_method_37_code 243 = .ok (.invokestatic 173, 3) by decide +kernel) rfl (Or.inl rfl) hq_152 rfl (z_le rfl) (c_Z_within (y3 + r119) 0 999) ?_
            obtain ⟨h120, k⟩ := k
            refine Ev_iast hq_160 (show decode prog_7_method_37_code 246 = .ok (.iastore, 1) by decide +kernel) (SGn hS (by decide)) (SGk hS rfl) (SGi hS rfl h120) ?_
            obtain ⟨I121, eI121⟩ : ∃ I121 : zI, I121 = z_up I117 73 ((4 * (x1 + 1)) + x2).toNatClampNeg (f_Z_within (y3 + r119) 0 999) := ⟨_, rfl⟩
            have k := k I121 eI121
            rw [← eI121]
            obtain ⟨y122, ey122⟩ : ∃ y122 : Int32, y122 = x2 + 1 := ⟨_, rfl⟩
            have k := k y122 ey122
            refine Ev_iinc (v := y122) (lo2 := [.ref 57, .int x1, .int y122, .int y3, .int y6, .int y6]) hq_160 (show decode prog_7_method_37_code 247 = .ok (.iinc 2 1, 3) by decide +kernel) rfl (by rw [ey122]; rfl) rfl ?_
            refine Ev_goto (tgt := 34) hq_160 (show decode prog_7_method_37_code 250 = .ok (.goto (-216), 3) by decide +kernel) (by decide) ?_
            exact k
          · have k := k.2 c111
            refine Ev_iconst (v := 1) hq_160 (show decode prog_7_method_37_code 202 = .ok (.iconst 1, 1) by decide +kernel) (by decide) ?_
            refine Ev_goto (tgt := 207) hq_160 (show decode prog_7_method_37_code 203 = .ok (.goto 4, 3) by decide +kernel) (by decide) ?_
            refine Ev_iadd hq_160 (show decode prog_7_method_37_code 207 = .ok (.iadd, 1) by decide +kernel) ?_
            obtain ⟨h123, k⟩ := k
            refine Ev_iast hq_160 (show decode prog_7_method_37_code 208 = .ok (.iastore, 1) by decide +kernel) (SGn hS (by decide)) (SGk hS rfl) (SGi hS rfl h123) ?_
            obtain ⟨I124, eI124⟩ : ∃ I124 : zI, I124 = z_up I108 77 x2.toNatClampNeg ((I106 77 x2.toNatClampNeg) + 1) := ⟨_, rfl⟩
            have k := k I124 eI124
            rw [← eI124]
            refine Ev_aload_n hq_160 (show decode prog_7_method_37_code 209 = .ok (.aload_n 0, 1) by decide +kernel) rfl ?_
            refine Ev_getR hq_160 (show decode prog_7_method_37_code 210 = .ok (.getfield 55, 3) by decide +kernel) rfl (SGn hS (by decide)) (SGk hS rfl) (by decide) rfl (SGr hS rfl) ?_
            refine Ev_iconst (v := 4) hq_160 (show decode prog_7_method_37_code 213 = .ok (.iconst 4, 1) by decide +kernel) (by decide) ?_
            refine Ev_iload_n hq_160 (show decode prog_7_method_37_code 214 = .ok (.iload_n 1, 1) by decide +kernel) rfl ?_
            refine Ev_iconst (v := 1) hq_160 (show decode prog_7_method_37_code 215 = .ok (.iconst 1, 1) by decide +kernel) (by decide) ?_
            refine Ev_iadd hq_160 (show decode prog_7_method_37_code 216 = .ok (.iadd, 1) by decide +kernel) ?_
            refine Ev_imul hq_160 (show decode prog_7_method_37_code 217 = .ok (.imul, 1) by decide +kernel) ?_
            refine Ev_iload_n hq_160 (show decode prog_7_method_37_code 218 = .ok (.iload_n 2, 1) by decide +kernel) rfl ?_
            refine Ev_iadd hq_160 (show decode prog_7_method_37_code 219 = .ok (.iadd, 1) by decide +kernel) ?_
            refine Ev_iload_n hq_160 (show decode prog_7_method_37_code 220 = .ok (.iload_n 3, 1) by decide +kernel) rfl ?_
            refine Ev_aload_n hq_160 (show decode prog_7_method_37_code 221 = .ok (.aload_n 0, 1) by decide +kernel) rfl ?_
            refine Ev_iload_n hq_160 (show decode prog_7_method_37_code 222 = .ok (.iload_n 2, 1) by decide +kernel) rfl ?_
            refine Ev_aload_n hq_160 (show decode prog_7_method_37_code 223 = .ok (.aload_n 0, 1) by decide +kernel) rfl ?_
            refine Ev_iconst (v := 0) hq_160 (show decode prog_7_method_37_code 224 = .ok (.iconst 0, 1) by decide +kernel) (by decide) ?_
            refine Ev_iload_n hq_160 (show decode prog_7_method_37_code 225 = .ok (.iload_n 2, 1) by decide +kernel) rfl ?_
            refine Ev_iload hq_160 (show decode prog_7_method_37_code 226 = .ok (.iload 4, 2) by decide +kernel) rfl ?_
            refine Ev_iload hq_160 (show decode prog_7_method_37_code 228 = .ok (.iload 5, 2) by decide +kernel) rfl ?_
            refine Ev_iload_n hq_160 (show decode prog_7_method_37_code 230 = .ok (.iload_n 3, 1) by decide +kernel) rfl ?_
            refine Ev_iload_n hq_160 (show decode prog_7_method_37_code 231 = .ok (.iload_n 1, 1) by decide +kernel) rfl ?_
            obtain ⟨r127, I125, h126, k⟩ := k
            refine Ev_virt (as := [.int 0, .int x2, .int y6, .int y6, .int y3, .int x1]) hq_160 (show decode prog_7_method_37_code 232 = .ok (.invokevirtual 180, 3) by decide +kernel) rfl hq_149 rfl (z_le rfl) ⟨(SGn hS (by decide)), (SGk hS rfl), by decide⟩ h126 ?_
            obtain ⟨r130, I128, h129, k⟩ := k
            refine Ev_virt (as := [.int x2, .int r127]) hq_160 (show decode prog_7_method_37_code 235 = .ok (.invokevirtual 199, 3) by decide +kernel) rfl hq_163 rfl (z_le rfl) ⟨(SGn hS (by decide)), (SGk hS rfl), by decide⟩ h129 ?_
            refine Ev_iadd hq_160 (show decode prog_7_method_37_code 238 = .ok (.iadd, 1) by decide +kernel) ?_
            refine Ev_iconst (v := 0) hq_160 (show decode prog_7_method_37_code 239 = .ok (.iconst 0, 1) by decide +kernel) (by decide) ?_
            refine Ev_sipush (v := 999) hq_160 (show decode prog_7_method_37_code 240 = .ok (.sipush 999, 3) by decide +kernel) (by decide) ?_
            refine Ev_stat (as := [.int (y3 + r130), .int 0, .int 999]) hq_160 (show decode prog_7_method_37_code 243 = .ok (.invokestatic 173, 3) by decide +kernel) rfl (Or.inl rfl) hq_152 rfl (z_le rfl) (c_Z_within (y3 + r130) 0 999) ?_
            obtain ⟨h131, k⟩ := k
            refine Ev_iast hq_160 (show decode prog_7_method_37_code 246 = .ok (.iastore, 1) by decide +kernel) (SGn hS (by decide)) (SGk hS rfl) (SGi hS rfl h131) ?_
            obtain ⟨I132, eI132⟩ : ∃ I132 : zI, I132 = z_up I128 73 ((4 * (x1 + 1)) + x2).toNatClampNeg (f_Z_within (y3 + r130) 0 999) := ⟨_, rfl⟩
            have k := k I132 eI132
            rw [← eI132]
            obtain ⟨y133, ey133⟩ : ∃ y133 : Int32, y133 = x2 + 1 := ⟨_, rfl⟩
            have k := k y133 ey133
            refine Ev_iinc (v := y133) (lo2 := [.ref 57, .int x1, .int y133, .int y3, .int y6, .int y6]) hq_160 (show decode prog_7_method_37_code 247 = .ok (.iinc 2 1, 3) by decide +kernel) rfl (by rw [ey133]; rfl) rfl ?_
            refine Ev_goto (tgt := 34) hq_160 (show decode prog_7_method_37_code 250 = .ok (.goto (-216), 3) by decide +kernel) (by decide) ?_
            exact k
        · have k := k.2 (Classical.not_not.mp c104)
          refine Ev_iconst (v := 1) hq_160 (show decode prog_7_method_37_code 175 = .ok (.iconst 1, 1) by decide +kernel) (by decide) ?_
          refine Ev_iload_n hq_160 (show decode prog_7_method_37_code 176 = .ok (.iload_n 1, 1) by decide +kernel) rfl ?_
          refine Ev_ishl hq_160 (show decode prog_7_method_37_code 177 = .ok (.ishl, 1) by decide +kernel) ?_
          refine Ev_goto (tgt := 182) hq_160 (show decode prog_7_method_37_code 178 = .ok (.goto 4, 3) by decide +kernel) (by decide) ?_
          refine Ev_ior hq_160 (show decode prog_7_method_37_code 182 = .ok (.ior, 1) by decide +kernel) ?_
          obtain ⟨h134, k⟩ := k
          refine Ev_iast hq_160 (show decode prog_7_method_37_code 183 = .ok (.iastore, 1) by decide +kernel) (SGn hS (by decide)) (SGk hS rfl) (SGi hS rfl h134) ?_
          obtain ⟨I135, eI135⟩ : ∃ I135 : zI, I135 = z_up I101 76 x2.toNatClampNeg ((I99 76 x2.toNatClampNeg) ||| (1 <<< (x1 &&& 31))) := ⟨_, rfl⟩
          have k := k I135 eI135
          rw [← eI135]
          refine Ev_aload_n hq_160 (show decode prog_7_method_37_code 184 = .ok (.aload_n 0, 1) by decide +kernel) rfl ?_
          refine Ev_getR hq_160 (show decode prog_7_method_37_code 185 = .ok (.getfield 67, 3) by decide +kernel) rfl (SGn hS (by decide)) (SGk hS rfl) (by decide) rfl (SGr hS rfl) ?_
          refine Ev_iload_n hq_160 (show decode prog_7_method_37_code 188 = .ok (.iload_n 2, 1) by decide +kernel) rfl ?_
          refine Ev_dup2 hq_160 (show decode prog_7_method_37_code 189 = .ok (.dup2, 1) by decide +kernel) ⟨rfl, rfl⟩ ?_
          obtain ⟨h136, k⟩ := k
          refine Ev_iald hq_160 (show decode prog_7_method_37_code 190 = .ok (.iaload, 1) by decide +kernel) (SGn hS (by decide)) (SGk hS rfl) (SGi hS rfl h136) ?_
          refine Ev_iload hq_160 (show decode prog_7_method_37_code 191 = .ok (.iload 4, 2) by decide +kernel) rfl ?_
          refine Ev_ineg hq_160 (show decode prog_7_method_37_code 193 = .ok (.ineg, 1) by decide +kernel) ?_
          refine Ev_aload_n hq_160 (show decode prog_7_method_37_code 194 = .ok (.aload_n 0, 1) by decide +kernel) rfl ?_
          refine Ev_iload_n hq_160 (show decode prog_7_method_37_code 195 = .ok (.iload_n 2, 1) by decide +kernel) rfl ?_
          obtain ⟨r139, I137, h138, k⟩ := k
          refine Ev_virt (as := [.int x2]) hq_160 (show decode prog_7_method_37_code 196 = .ok (.invokevirtual 187, 3) by decide +kernel) rfl hq_157 rfl (z_le rfl) ⟨(SGn hS (by decide)), (SGk hS rfl), by decide⟩ h138 ?_
          refine Ev_icmp_lt (tgt := 206) hq_160 (show decode prog_7_method_37_code 199 = .ok (.if_icmp .lt 7, 3) by decide +kernel) (by decide) (fun c140 => ?_) (fun c140 => ?_)
          · have k := k.1 c140
            refine Ev_iconst (v := 0) hq_160 (show decode prog_7_method_37_code 206 = .ok (.iconst 0, 1) by decide +kernel) (by decide) ?_
            refine Ev_iadd hq_160 (show decode prog_7_method_37_code 207 = .ok (.iadd, 1) by decide +kernel) ?_
            obtain ⟨h141, k⟩ := k
            refine Ev_iast hq_160 (show decode prog_7_method_37_code 208 = .ok (.iastore, 1) by decide +kernel) (SGn hS (by decide)) (SGk hS rfl) (SGi hS rfl h141) ?_
            obtain ⟨I142, eI142⟩ : ∃ I142 : zI, I142 = z_up I137 77 x2.toNatClampNeg ((I135 77 x2.toNatClampNeg) + 0) := ⟨_, rfl⟩
            have k := k I142 eI142
            rw [← eI142]
            refine Ev_aload_n hq_160 (show decode prog_7_method_37_code 209 = .ok (.aload_n 0, 1) by decide +kernel) rfl ?_
            refine Ev_getR hq_160 (show decode prog_7_method_37_code 210 = .ok (.getfield 55, 3) by decide +kernel) rfl (SGn hS (by decide)) (SGk hS rfl) (by decide) rfl (SGr hS rfl) ?_
            refine Ev_iconst (v := 4) hq_160 (show decode prog_7_method_37_code 213 = .ok (.iconst 4, 1) by decide +kernel) (by decide) ?_
            refine Ev_iload_n hq_160 (show decode prog_7_method_37_code 214 = .ok (.iload_n 1, 1) by decide +kernel) rfl ?_
            refine Ev_iconst (v := 1) hq_160 (show decode prog_7_method_37_code 215 = .ok (.iconst 1, 1) by decide +kernel) (by decide) ?_
            refine Ev_iadd hq_160 (show decode prog_7_method_37_code 216 = .ok (.iadd, 1) by decide +kernel) ?_
            refine Ev_imul hq_160 (show decode prog_7_method_37_code 217 = .ok (.imul, 1) by decide +kernel) ?_
            refine Ev_iload_n hq_160 (show decode prog_7_method_37_code 218 = .ok (.iload_n 2, 1) by decide +kernel) rfl ?_
            refine Ev_iadd hq_160 (show decode prog_7_method_37_code 219 = .ok (.iadd, 1) by decide +kernel) ?_
            refine Ev_iload_n hq_160 (show decode prog_7_method_37_code 220 = .ok (.iload_n 3, 1) by decide +kernel) rfl ?_
            refine Ev_aload_n hq_160 (show decode prog_7_method_37_code 221 = .ok (.aload_n 0, 1) by decide +kernel) rfl ?_
            refine Ev_iload_n hq_160 (show decode prog_7_method_37_code 222 = .ok (.iload_n 2, 1) by decide +kernel) rfl ?_
            refine Ev_aload_n hq_160 (show decode prog_7_method_37_code 223 = .ok (.aload_n 0, 1) by decide +kernel) rfl ?_
            refine Ev_iconst (v := 0) hq_160 (show decode prog_7_method_37_code 224 = .ok (.iconst 0, 1) by decide +kernel) (by decide) ?_
            refine Ev_iload_n hq_160 (show decode prog_7_method_37_code 225 = .ok (.iload_n 2, 1) by decide +kernel) rfl ?_
            refine Ev_iload hq_160 (show decode prog_7_method_37_code 226 = .ok (.iload 4, 2) by decide +kernel) rfl ?_
            refine Ev_iload hq_160 (show decode prog_7_method_37_code 228 = .ok (.iload 5, 2) by decide +kernel) rfl ?_
            refine Ev_iload_n hq_160 (show decode prog_7_method_37_code 230 = .ok (.iload_n 3, 1) by decide +kernel) rfl ?_
            refine Ev_iload_n hq_160 (show decode prog_7_method_37_code 231 = .ok (.iload_n 1, 1) by decide +kernel) rfl ?_
            obtain ⟨r145, I143, h144, k⟩ := k
            refine Ev_virt (as := [.int 0, .int x2, .int y6, .int y6, .int y3, .int x1]) hq_160 (show decode prog_7_method_37_code 232 = .ok (.invokevirtual 180, 3) by decide +kernel) rfl hq_149 rfl (z_le rfl) ⟨(SGn hS (by decide)), (SGk hS rfl), by decide⟩ h144 ?_
            obtain ⟨r148, I146, h147, k⟩ := k
            refine Ev_virt (as := [.int x2, .int r145]) hq_160 (show decode prog_7_method_37_code 235 = .ok (.invokevirtual 199, 3) by decide +kernel) rfl hq_163 rfl (z_le rfl) ⟨(SGn hS (by decide)), (SGk hS rfl), by decide⟩ h147 ?_
            refine Ev_iadd hq_160 (show decode prog_7_method_37_code 238 = .ok (.iadd, 1) by decide +kernel) ?_
            refine Ev_iconst (v := 0) hq_160 (show decode prog_7_method_37_code 239 = .ok (.iconst 0, 1) by decide +kernel) (by decide) ?_
            refine Ev_sipush (v := 999) hq_160 (show decode prog_7_method_37_code 240 = .ok (.sipush 999, 3) by decide +kernel) (by decide) ?_
            refine Ev_stat (as := [.int (y3 + r148), .int 0, .int 999]) hq_160 (show decode prog_7_method_37_code 243 = .ok (.invokestatic 173, 3) by decide +kernel) rfl (Or.inl rfl) hq_152 rfl (z_le rfl) (c_Z_within (y3 + r148) 0 999) ?_
            obtain ⟨h149, k⟩ := k
            refine Ev_iast hq_160 (show decode prog_7_method_37_code 246 = .ok (.iastore, 1) by decide +kernel) (SGn hS (by decide)) (SGk hS rfl) (SGi hS rfl h149) ?_
            obtain ⟨I150, eI150⟩ : ∃ I150 : zI, I150 = z_up I146 73 ((4 * (x1 + 1)) + x2).toNatClampNeg (f_Z_within (y3 + r148) 0 999) := ⟨_, rfl⟩
            have k := k I150 eI150
            rw [← eI150]
            obtain ⟨y151, ey151⟩ : ∃ y151 : Int32, y151 = x2 + 1 := ⟨_, rfl⟩
            have k := k y151 ey151
            refine Ev_iinc (v := y151) (lo2 := [.ref 57, .int x1, .int y151, .int y3, .int y6, .int y6]) hq_160 (show decode prog_7_method_37_code 247 = .ok (.iinc 2 1, 3) by decide +kernel) rfl (by rw [ey151]; rfl) rfl ?_
            refine Ev_goto (tgt := 34) hq_160 (show decode prog_7_method_37_code 250 = .ok (.goto (-216), 3) by decide +kernel) (by decide) ?_
            exact k
          · have k := k.2 c140
            refine Ev_iconst (v := 1) hq_160 (show decode prog_7_method_37_code 202 = .ok (.iconst 1, 1) by decide +kernel) (by decide) ?_
            refine Ev_goto (tgt := 207) hq_160 (show decode prog_7_method_37_code 203 = .ok (.goto 4, 3) by decide +kernel) (by decide) ?_
            refine Ev_iadd hq_160 (show decode prog_7_method_37_code 207 = .ok (.iadd, 1) by decide +kernel) ?_
            obtain ⟨h152, k⟩ := k
            refine Ev_iast hq_160 (show decode prog_7_method_37_code 208 = .ok (.iastore, 1) by decide +kernel) (SGn hS (by decide)) (SGk hS rfl) (SGi hS rfl h152) ?_
            obtain ⟨I153, eI153⟩ : ∃ I153 : zI, I153 = z_up I137 77 x2.toNatClampNeg ((I135 77 x2.toNatClampNeg) + 1) := ⟨_, rfl⟩
            have k := k I153 eI153
            rw [← eI153]
            refine Ev_aload_n hq_160 (show decode prog_7_method_37_code 209 = .ok (.aload_n 0, 1) by decide +kernel) rfl ?_
            refine Ev_getR hq_160 (show decode prog_7_method_37_code 210 = .ok (.getfield 55, 3) by decide +kernel) rfl (SGn hS (by decide)) (SGk hS rfl) (by decide) rfl (SGr hS rfl) ?_
            refine Ev_iconst (v := 4) hq_160 (show decode prog_7_method_37_code 213 = .ok (.iconst 4, 1) by decide +kernel) (by decide) ?_
            refine Ev_iload_n hq_160 (show decode prog_7_method_37_code 214 = .ok (.iload_n 1, 1) by decide +kernel) rfl ?_
            refine Ev_iconst (v := 1) hq_160 (show decode prog_7_method_37_code 215 = .ok (.iconst 1, 1) by decide +kernel) (by decide) ?_
            refine Ev_iadd hq_160 (show decode prog_7_method_37_code 216 = .ok (.iadd, 1) by decide +kernel) ?_
            refine Ev_imul hq_160 (show decode prog_7_method_37_code 217 = .ok (.imul, 1) by decide +kernel) ?_
            refine Ev_iload_n hq_160 (show decode prog_7_method_37_code 218 = .ok (.iload_n 2, 1) by decide +kernel) rfl ?_
            refine Ev_iadd hq_160 (show decode prog_7_method_37_code 219 = .ok (.iadd, 1) by decide +kernel) ?_
            refine Ev_iload_n hq_160 (show decode prog_7_method_37_code 220 = .ok (.iload_n 3, 1) by decide +kernel) rfl ?_
            refine Ev_aload_n hq_160 (show decode prog_7_method_37_code 221 = .ok (.aload_n 0, 1) by decide +kernel) rfl ?_
            refine Ev_iload_n hq_160 (show decode prog_7_method_37_code 222 = .ok (.iload_n 2, 1) by decide +kernel) rfl ?_
            refine Ev_aload_n hq_160 (show decode prog_7_method_37_code 223 = .ok (.aload_n 0, 1) by decide +kernel) rfl ?_
            refine Ev_iconst (v := 0) hq_160 (show decode prog_7_method_37_code 224 = .ok (.iconst 0, 1) by decide +kernel) (by decide) ?_
            refine Ev_iload_n hq_160 (show decode prog_7_method_37_code 225 = .ok (.iload_n 2, 1) by decide +kernel) rfl ?_
            refine Ev_iload hq_160 (show decode prog_7_method_37_code 226 = .ok (.iload 4, 2) by decide +kernel) rfl ?_
            refine Ev_iload hq_160 (show decode prog_7_method_37_code 228 = .ok (.iload 5, 2) by decide +kernel) rfl ?_
            refine Ev_iload_n hq_160 (show decode prog_7_method_37_code 230 = .ok (.iload_n 3, 1) by decide +kernel) rfl ?_
            refine Ev_iload_n hq_160 (show decode prog_7_method_37_code 231 = .ok (.iload_n 1, 1) by decide +kernel) rfl ?_
            obtain ⟨r156, I154, h155, k⟩ := k
            refine Ev_virt (as := [.int 0, .int x2, .int y6, .int y6, .int y3, .int x1]) hq_160 (show decode prog_7_method_37_code 232 = .ok (.invokevirtual 180, 3) by decide +kernel) rfl hq_149 rfl (z_le rfl) ⟨(SGn hS (by decide)), (SGk hS rfl), by decide⟩ h155 ?_
            obtain ⟨r159, I157, h158, k⟩ := k
            refine Ev_virt (as := [.int x2, .int r156]) hq_160 (show decode prog_7_method_37_code 235 = .ok (.invokevirtual 199, 3) by decide +kernel) rfl hq_163 rfl (z_le rfl) ⟨(SGn hS (by decide)), (SGk hS rfl), by decide⟩ h158 ?_
            refine Ev_iadd hq_160 (show decode prog_7_method_37_code 238 = .ok (.iadd, 1) by decide +kernel) ?_
            refine Ev_iconst (v := 0) hq_160 (show decode prog_7_method_37_code 239 = .ok (.iconst 0, 1) by decide +kernel) (by decide) ?_
            refine Ev_sipush (v := 999) hq_160 (show decode prog_7_method_37_code 240 = .ok (.sipush 999, 3) by decide +kernel) (by decide) ?_
            refine Ev_stat (as := [.int (y3 + r159), .int 0, .int 999]) hq_160 (show decode prog_7_method_37_code 243 = .ok (.invokestatic 173, 3) by decide +kernel) rfl (Or.inl rfl) hq_152 rfl (z_le rfl) (c_Z_within (y3 + r159) 0 999) ?_
            obtain ⟨h160, k⟩ := k
            refine Ev_iast hq_160 (show decode prog_7_method_37_code 246 = .ok (.iastore, 1) by decide +kernel) (SGn hS (by decide)) (SGk hS rfl) (SGi hS rfl h160) ?_
            obtain ⟨I161, eI161⟩ : ∃ I161 : zI, I161 = z_up I157 73 ((4 * (x1 + 1)) + x2).toNatClampNeg (f_Z_within (y3 + r159) 0 999) := ⟨_, rfl⟩
            have k := k I161 eI161
            rw [← eI161]
            obtain ⟨y162, ey162⟩ : ∃ y162 : Int32, y162 = x2 + 1 := ⟨_, rfl⟩
            have k := k y162 ey162
            refine Ev_iinc (v := y162) (lo2 := [.ref 57, .int x1, .int y162, .int y3, .int y6, .int y6]) hq_160 (show decode prog_7_method_37_code 247 = .ok (.iinc 2 1, 3) by decide +kernel) rfl (by rw [ey162]; rfl) rfl ?_
            refine Ev_goto (tgt := 34) hq_160 (show decode prog_7_method_37_code 250 = .ok (.goto (-216), 3) by decide +kernel) (by decide) ?_
            exact k
set_option maxRecDepth 20000 in
theorem wp_Z_runs {X : Nat × (Nat → Int32)} {d : Nat} {G : zG} {I : zI} {res : Option Value × zG × zI} (x1 : Int32) 
    (k : Ev X d 159 2 [.ref 57, .int x1, .int 0] [] G I res) :
    Ev X d 159 0 [.ref 57, .int x1, zU] [] G I res := by
  refine Ev_iconst (v := 0) hq_159 (show decode prog_7_method_38_code 0 = .ok (.iconst 0, 1) by decide +kernel) (by decide) ?_
  refine Ev_istore_n (lo2 := [.ref 57, .int x1, .int 0]) hq_159 (show decode prog_7_method_38_code 1 = .ok (.istore_n 2, 1) by decide +kernel) (z_le rfl) rfl ?_
  exact k
set_option maxRecDepth 20000 in
theorem wp_Z_runs_2 {X : Nat × (Nat → Int32)} {d : Nat} {G : zG} {I : zI} {res : Option Value × zG × zI} (x1 : Int32) (x2 : Int32) (hS : SG G) 
    (k : ((I 57 0) ≤ x2 → Ev X d 159 55 [.ref 57, .int x1, .int 0] [] G I res) ∧ (¬ (I 57 0) ≤ x2 → z_inr ((5 * x2) + 2) 20 ∧ (z_inr x2 124 ∧ (∀ I4 : zI, I4 = z_up I 73 x2.toNatClampNeg (I 60 ((5 * x2) + 2).toNatClampNeg) → z_inr x2 4 ∧ (∀ I6 : zI, I6 = z_up I4 75 x2.toNatClampNeg 0 → z_inr x2 4 ∧ (∀ I8 : zI, I8 = z_up I6 76 x2.toNatClampNeg 0 → z_inr x2 4 ∧ (∀ I10 : zI, I10 = z_up I8 77 x2.toNatClampNeg 0 → ∀ y11 : Int32, y11 = x2 + 1 → Ev X d 159 2 [.ref 57, .int x1, .int y11] [] G I10 res))))))) :
    Ev X d 159 2 [.ref 57, .int x1, .int x2] [] G I res := by
  refine Ev_iload_n hq_159 (show decode prog_7_method_38_code 2 = .ok (.iload_n 2, 1) by decide +kernel) rfl ?_
  refine Ev_aload_n hq_159 (show decode prog_7_method_38_code 3 = .ok (.aload_n 0, 1) by decide +kernel) rfl ?_
  refine Ev_getI hq_159 (show decode prog_7_method_38_code 4 = .ok (.getfield 87, 3) by decide +kernel) rfl (SGn hS (by decide)) (SGk hS rfl) (by decide) rfl ?_
  refine Ev_icmp_ge (tgt := 53) hq_159 (show decode prog_7_method_38_code 7 = .ok (.if_icmp .ge 46, 3) by decide +kernel) (by decide) (fun c1 => ?_) (fun c1 => ?_)
  · have k := k.1 c1
    refine Ev_iconst (v := 0) hq_159 (show decode prog_7_method_38_code 53 = .ok (.iconst 0, 1) by decide +kernel) (by decide) ?_
    refine Ev_istore_n (lo2 := [.ref 57, .int x1, .int 0]) hq_159 (show decode prog_7_method_38_code 54 = .ok (.istore_n 2, 1) by decide +kernel) (z_le rfl) rfl ?_
    exact k
  · have k := k.2 c1
    refine Ev_aload_n hq_159 (show decode prog_7_method_38_code 10 = .ok (.aload_n 0, 1) by decide +kernel) rfl ?_
    refine Ev_getR hq_159 (show decode prog_7_method_38_code 11 = .ok (.getfield 55, 3) by decide +kernel) rfl (SGn hS (by decide)) (SGk hS rfl) (by decide) rfl (SGr hS rfl) ?_
    refine Ev_iload_n hq_159 (show decode prog_7_method_38_code 14 = .ok (.iload_n 2, 1) by decide +kernel) rfl ?_
    refine Ev_aload_n hq_159 (show decode prog_7_method_38_code 15 = .ok (.aload_n 0, 1) by decide +kernel) rfl ?_
    refine Ev_getR hq_159 (show decode prog_7_method_38_code 16 = .ok (.getfield 16, 3) by decide +kernel) rfl (SGn hS (by decide)) (SGk hS rfl) (by decide) rfl (SGr hS rfl) ?_
    refine Ev_iconst (v := 5) hq_159 (show decode prog_7_method_38_code 19 = .ok (.iconst 5, 1) by decide +kernel) (by decide) ?_
    refine Ev_iload_n hq_159 (show decode prog_7_method_38_code 20 = .ok (.iload_n 2, 1) by decide +kernel) rfl ?_
    refine Ev_imul hq_159 (show decode prog_7_method_38_code 21 = .ok (.imul, 1) by decide +kernel) ?_
    refine Ev_iconst (v := 2) hq_159 (show decode prog_7_method_38_code 22 = .ok (.iconst 2, 1) by decide +kernel) (by decide) ?_
    refine Ev_iadd hq_159 (show decode prog_7_method_38_code 23 = .ok (.iadd, 1) by decide +kernel) ?_
    obtain ⟨h2, k⟩ := k
    refine Ev_iald hq_159 (show decode prog_7_method_38_code 24 = .ok (.iaload, 1) by decide +kernel) (SGn hS (by decide)) (SGk hS rfl) (SGi hS rfl h2) ?_
    obtain ⟨h3, k⟩ := k
    refine Ev_iast hq_159 (show decode prog_7_method_38_code 25 = .ok (.iastore, 1) by decide +kernel) (SGn hS (by decide)) (SGk hS rfl) (SGi hS rfl h3) ?_
    obtain ⟨I4, eI4⟩ : ∃ I4 : zI, I4 = z_up I 73 x2.toNatClampNeg (I 60 ((5 * x2) + 2).toNatClampNeg) := ⟨_, rfl⟩
    have k := k I4 eI4
    rw [← eI4]
    refine Ev_aload_n hq_159 (show decode prog_7_method_38_code 26 = .ok (.aload_n 0, 1) by decide +kernel) rfl ?_
    refine Ev_getR hq_159 (show decode prog_7_method_38_code 27 = .ok (.getfield 61, 3) by decide +kernel) rfl (SGn hS (by decide)) (SGk hS rfl) (by decide) rfl (SGr hS rfl) ?_
    refine Ev_iload_n hq_159 (show decode prog_7_method_38_code 30 = .ok (.iload_n 2, 1) by decide +kernel) rfl ?_
    refine Ev_iconst (v := 0) hq_159 (show decode prog_7_method_38_code 31 = .ok (.iconst 0, 1) by decide +kernel) (by decide) ?_
    obtain ⟨h5, k⟩ := k
    refine Ev_iast hq_159 (show decode prog_7_method_38_code 32 = .ok (.iastore, 1) by decide +kernel) (SGn hS (by decide)) (SGk hS rfl) (SGi hS rfl h5) ?_
    obtain ⟨I6, eI6⟩ : ∃ I6 : zI, I6 = z_up I4 75 x2.toNatClampNeg 0 := ⟨_, rfl⟩
    have k := k I6 eI6
    rw [← eI6]
    refine Ev_aload_n hq_159 (show decode prog_7_method_38_code 33 = .ok (.aload_n 0, 1) by decide +kernel) rfl ?_
    refine Ev_getR hq_159 (show decode prog_7_method_38_code 34 = .ok (.getfield 64, 3) by decide +kernel) rfl (SGn hS (by decide)) (SGk hS rfl) (by decide) rfl (SGr hS rfl) ?_
    refine Ev_iload_n hq_159 (show decode prog_7_method_38_code 37 = .ok (.iload_n 2, 1) by decide +kernel) rfl ?_
    refine Ev_iconst (v := 0) hq_159 (show decode prog_7_method_38_code 38 = .ok (.iconst 0, 1) by decide +kernel) (by decide) ?_
    obtain ⟨h7, k⟩ := k
    refine Ev_iast hq_159 (show decode prog_7_method_38_code 39 = .ok (.iastore, 1) by decide +kernel) (SGn hS (by decide)) (SGk hS rfl) (SGi hS rfl h7) ?_
    obtain ⟨I8, eI8⟩ : ∃ I8 : zI, I8 = z_up I6 76 x2.toNatClampNeg 0 := ⟨_, rfl⟩
    have k := k I8 eI8
    rw [← eI8]
    refine Ev_aload_n hq_159 (show decode prog_7_method_38_code 40 = .ok (.aload_n 0, 1) by decide +kernel) rfl ?_
    refine Ev_getR hq_159 (show decode prog_7_method_38_code 41 = .ok (.getfield 67, 3) by decide +kernel) rfl (SGn hS (by decide)) (SGk hS rfl) (by decide) rfl (SGr hS rfl) ?_
    refine Ev_iload_n hq_159 (show decode prog_7_method_38_code 44 = .ok (.iload_n 2, 1) by decide +kernel) rfl ?_
    refine Ev_iconst (v := 0) hq_159 (show decode prog_7_method_38_code 45 = .ok (.iconst 0, 1) by decide +kernel) (by decide) ?_
    obtain ⟨h9, k⟩ := k
    refine Ev_iast hq_159 (show decode prog_7_method_38_code 46 = .ok (.iastore, 1) by decide +kernel) (SGn hS (by decide)) (SGk hS rfl) (SGi hS rfl h9) ?_
    obtain ⟨I10, eI10⟩ : ∃ I10 : zI, I10 = z_up I8 77 x2.toNatClampNeg 0 := ⟨_, rfl⟩
    have k := k I10 eI10
    rw [← eI10]
    obtain ⟨y11, ey11⟩ : ∃ y11 : Int32, y11 = x2 + 1 := ⟨_, rfl⟩
    have k := k y11 ey11
    refine Ev_iinc (v := y11) (lo2 := [.ref 57, .int x1, .int y11]) hq_159 (show decode prog_7_method_38_code 47 = .ok (.iinc 2 1, 3) by decide +kernel) rfl (by rw [ey11]; rfl) rfl ?_
    refine Ev_goto (tgt := 2) hq_159 (show decode prog_7_method_38_code 50 = .ok (.goto (-48), 3) by decide +kernel) (by decide) ?_
    exact k
set_option maxRecDepth 20000 in
theorem wp_Z_runs_55 {X : Nat × (Nat → Int32)} {d : Nat} {G : zG} {I : zI} {res : Option Value × zG × zI} (x1 : Int32) (x2 : Int32) (hS : SG G) 
    (k : (x1 ≤ x2 → res = (none, G, I)) ∧ (¬ x1 ≤ x2 → ∃ (I2 : zI), Cv X d 160 [.ref 57, .int x2] G I (none, G, I2) ∧ (∀ y4 : Int32, y4 = x2 + 1 → Ev X (d + 1) 159 55 [.ref 57, .int x1, .int y4] [] G I2 res))) :
    Ev X (d + 1) 159 55 [.ref 57, .int x1, .int x2] [] G I res := by
  refine Ev_iload_n hq_159 (show decode prog_7_method_38_code 55 = .ok (.iload_n 2, 1) by decide +kernel) rfl ?_
  refine Ev_iload_n hq_159 (show decode prog_7_method_38_code 56 = .ok (.iload_n 1, 1) by decide +kernel) rfl ?_
  refine Ev_icmp_ge (tgt := 71) hq_159 (show decode prog_7_method_38_code 57 = .ok (.if_icmp .ge 14, 3) by decide +kernel) (by decide) (fun c1 => ?_) (fun c1 => ?_)
  · have k := k.1 c1
    exact Ev_vret hq_159 (show decode prog_7_method_38_code 71 = .ok (.return_, 1) by decide +kernel) k
  · have k := k.2 c1
    refine Ev_aload_n hq_159 (show decode prog_7_method_38_code 60 = .ok (.aload_n 0, 1) by decide +kernel) rfl ?_
    refine Ev_iload_n hq_159 (show decode prog_7_method_38_code 61 = .ok (.iload_n 2, 1) by decide +kernel) rfl ?_
    obtain ⟨I2, h3, k⟩ := k
    refine Ev_virt (as := [.int x2]) hq_159 (show decode prog_7_method_38_code 62 = .ok (.invokevirtual 202, 3) by decide +kernel) rfl hq_160 rfl (z_le rfl) ⟨(SGn hS (by decide)), (SGk hS rfl), by decide⟩ h3 ?_
    obtain ⟨y4, ey4⟩ : ∃ y4 : Int32, y4 = x2 + 1 := ⟨_, rfl⟩
    have k := k y4 ey4
    refine Ev_iinc (v := y4) (lo2 := [.ref 57, .int x1, .int y4]) hq_159 (show decode prog_7_method_38_code 65 = .ok (.iinc 2 1, 3) by decide +kernel) rfl (by rw [ey4]; rfl) rfl ?_
    refine Ev_goto (tgt := 55) hq_159 (show decode prog_7_method_38_code 68 = .ok (.goto (-13), 3) by decide +kernel) (by decide) ?_
    exact k
set_option maxRecDepth 20000 in
theorem wp_Z_at {X : Nat × (Nat → Int32)} {d : Nat} {G : zG} {I : zI} {res : Option Value × zG × zI} (x1 : Int32) (x2 : Int32) (x3 : Int32) (hd : 1 ≤ d) (hS : SG G) 
    (k : (¬ (f_Z_isShower I x1) = 0 → ((f_Z_in x2 0 29) = 0 → res = (some (.int (-200000)), G, I)) ∧ (¬ (f_Z_in x2 0 29) = 0 → (¬ (f_Z_in x3 0 2) = 0 → ∃ (I4 : zI), Cv X d 159 [.ref 57, .int 30] G I (none, G, I4) ∧ (z_inr ((4 * x2) + x1) 120 ∧ (∀ y7 : Int32, y7 = (I4 74 ((4 * x2) + x1).toNatClampNeg) → (¬ x3 = 0 → (¬ x3 = 1 → z_inr ((5 * x1) + 1) 20 ∧ (res = (some (.int ((I4 60 ((5 * x1) + 1).toNatClampNeg) - y7)), G, I4))) ∧ (x3 = 1 → z_inr (((4 * x2) + 4) + x1) 124 ∧ (res = (some (.int (I4 73 (((4 * x2) + 4) + x1).toNatClampNeg)), G, I4)))) ∧ (x3 = 0 → res = (some (.int y7), G, I4))))) ∧ ((f_Z_in x3 0 2) = 0 → res = (some (.int (-200000)), G, I)))) ∧ ((f_Z_isShower I x1) = 0 → res = (some (.int (-100000)), G, I))) :
    Ev X (d + 1) 158 0 [.ref 57, .int x1, .int x2, .int x3, zU] [] G I res := by
  refine Ev_aload_n hq_158 (show decode prog_7_method_42_code 0 = .ok (.aload_n 0, 1) by decide +kernel) rfl ?_
  refine Ev_iload_n hq_158 (show decode prog_7_method_42_code 1 = .ok (.iload_n 1, 1) by decide +kernel) rfl ?_
  refine Ev_virt (as := [.int x1]) hq_158 (show decode prog_7_method_42_code 2 = .ok (.invokevirtual 176, 3) by decide +kernel) rfl hq_148 rfl (z_le rfl) ⟨(SGn hS (by decide)), (SGk hS rfl), by decide⟩ (c_Z_isShower (by omega) hS x1) ?_
  refine Ev_if_ne (tgt := 11) hq_158 (show decode prog_7_method_42_code 5 = .ok (.ifCond .ne 6, 3) by decide +kernel) (by decide) (fun c1 => ?_) (fun c1 => ?_)
  · have k := k.1 c1
    refine Ev_iload_n hq_158 (show decode prog_7_method_42_code 11 = .ok (.iload_n 2, 1) by decide +kernel) rfl ?_
    refine Ev_iconst (v := 0) hq_158 (show decode prog_7_method_42_code 12 = .ok (.iconst 0, 1) by decide +kernel) (by decide) ?_
    refine Ev_bipush (v := 29) hq_158 (show decode prog_7_method_42_code 13 = .ok (.bipush 29, 2) by decide +kernel) (by decide) ?_
    refine Ev_stat (as := [.int x2, .int 0, .int 29]) hq_158 (show decode prog_7_method_42_code 15 = .ok (.invokestatic 90, 3) by decide +kernel) rfl (Or.inl rfl) hq_131 rfl (z_le rfl) (c_Z_in x2 0 29) ?_
    refine Ev_if_eq (tgt := 30) hq_158 (show decode prog_7_method_42_code 18 = .ok (.ifCond .eq 12, 3) by decide +kernel) (by decide) (fun c2 => ?_) (fun c2 => ?_)
    · have k := k.1 c2
      refine Ev_ldc (v := (-200000)) hq_158 (show decode prog_7_method_42_code 30 = .ok (.ldc 212, 2) by decide +kernel) rfl ?_
      exact Ev_iret hq_158 (show decode prog_7_method_42_code 32 = .ok (.ireturn, 1) by decide +kernel) rfl k
    · have k := k.2 c2
      refine Ev_iload_n hq_158 (show decode prog_7_method_42_code 21 = .ok (.iload_n 3, 1) by decide +kernel) rfl ?_
      refine Ev_iconst (v := 0) hq_158 (show decode prog_7_method_42_code 22 = .ok (.iconst 0, 1) by decide +kernel) (by decide) ?_
      refine Ev_iconst (v := 2) hq_158 (show decode prog_7_method_42_code 23 = .ok (.iconst 2, 1) by decide +kernel) (by decide) ?_
      refine Ev_stat (as := [.int x3, .int 0, .int 2]) hq_158 (show decode prog_7_method_42_code 24 = .ok (.invokestatic 90, 3) by decide +kernel) rfl (Or.inl rfl) hq_131 rfl (z_le rfl) (c_Z_in x3 0 2) ?_
      refine Ev_if_ne (tgt := 33) hq_158 (show decode prog_7_method_42_code 27 = .ok (.ifCond .ne 6, 3) by decide +kernel) (by decide) (fun c3 => ?_) (fun c3 => ?_)
      · have k := k.1 c3
        refine Ev_aload_n hq_158 (show decode prog_7_method_42_code 33 = .ok (.aload_n 0, 1) by decide +kernel) rfl ?_
        refine Ev_bipush (v := 30) hq_158 (show decode prog_7_method_42_code 34 = .ok (.bipush 30, 2) by decide +kernel) (by decide) ?_
        obtain ⟨I4, h5, k⟩ := k
        refine Ev_virt (as := [.int 30]) hq_158 (show decode prog_7_method_42_code 36 = .ok (.invokevirtual 205, 3) by decide +kernel) rfl hq_159 rfl (z_le rfl) ⟨(SGn hS (by decide)), (SGk hS rfl), by decide⟩ h5 ?_
        refine Ev_aload_n hq_158 (show decode prog_7_method_42_code 39 = .ok (.aload_n 0, 1) by decide +kernel) rfl ?_
        refine Ev_getR hq_158 (show decode prog_7_method_42_code 40 = .ok (.getfield 58, 3) by decide +kernel) rfl (SGn hS (by decide)) (SGk hS rfl) (by decide) rfl (SGr hS rfl) ?_
        refine Ev_iconst (v := 4) hq_158 (show decode prog_7_method_42_code 43 = .ok (.iconst 4, 1) by decide +kernel) (by decide) ?_
        refine Ev_iload_n hq_158 (show decode prog_7_method_42_code 44 = .ok (.iload_n 2, 1) by decide +kernel) rfl ?_
        refine Ev_imul hq_158 (show decode prog_7_method_42_code 45 = .ok (.imul, 1) by decide +kernel) ?_
        refine Ev_iload_n hq_158 (show decode prog_7_method_42_code 46 = .ok (.iload_n 1, 1) by decide +kernel) rfl ?_
        refine Ev_iadd hq_158 (show decode prog_7_method_42_code 47 = .ok (.iadd, 1) by decide +kernel) ?_
        obtain ⟨h6, k⟩ := k
        refine Ev_iald hq_158 (show decode prog_7_method_42_code 48 = .ok (.iaload, 1) by decide +kernel) (SGn hS (by decide)) (SGk hS rfl) (SGi hS rfl h6) ?_
        obtain ⟨y7, ey7⟩ : ∃ y7 : Int32, y7 = (I4 74 ((4 * x2) + x1).toNatClampNeg) := ⟨_, rfl⟩
        have k := k y7 ey7
        rw [← ey7]
        refine Ev_istore (lo2 := [.ref 57, .int x1, .int x2, .int x3, .int y7]) hq_158 (show decode prog_7_method_42_code 49 = .ok (.istore 4, 2) by decide +kernel) (z_le rfl) rfl ?_
        refine Ev_iload_n hq_158 (show decode prog_7_method_42_code 51 = .ok (.iload_n 3, 1) by decide +kernel) rfl ?_
        refine Ev_if_ne (tgt := 60) hq_158 (show decode prog_7_method_42_code 52 = .ok (.ifCond .ne 8, 3) by decide +kernel) (by decide) (fun c8 => ?_) (fun c8 => ?_)
        · have k := k.1 c8
          refine Ev_iload_n hq_158 (show decode prog_7_method_42_code 60 = .ok (.iload_n 3, 1) by decide +kernel) rfl ?_
          refine Ev_iconst (v := 1) hq_158 (show decode prog_7_method_42_code 61 = .ok (.iconst 1, 1) by decide +kernel) (by decide) ?_
          refine Ev_icmp_ne (tgt := 80) hq_158 (show decode prog_7_method_42_code 62 = .ok (.if_icmp .ne 18, 3) by decide +kernel) (by decide) (fun c9 => ?_) (fun c9 => ?_)
          · have k := k.1 c9
            refine Ev_aload_n hq_158 (show decode prog_7_method_42_code 80 = .ok (.aload_n 0, 1) by decide +kernel) rfl ?_
            refine Ev_getR hq_158 (show decode prog_7_method_42_code 81 = .ok (.getfield 16, 3) by decide +kernel) rfl (SGn hS (by decide)) (SGk hS rfl) (by decide) rfl (SGr hS rfl) ?_
            refine Ev_iconst (v := 5) hq_158 (show decode prog_7_method_42_code 84 = .ok (.iconst 5, 1) by decide +kernel) (by decide) ?_
            refine Ev_iload_n hq_158 (show decode prog_7_method_42_code 85 = .ok (.iload_n 1, 1) by decide +kernel) rfl ?_
            refine Ev_imul hq_158 (show decode prog_7_method_42_code 86 = .ok (.imul, 1) by decide +kernel) ?_
            refine Ev_iconst (v := 1) hq_158 (show decode prog_7_method_42_code 87 = .ok (.iconst 1, 1) by decide +kernel) (by decide) ?_
            refine Ev_iadd hq_158 (show decode prog_7_method_42_code 88 = .ok (.iadd, 1) by decide +kernel) ?_
            obtain ⟨h10, k⟩ := k
            refine Ev_iald hq_158 (show decode prog_7_method_42_code 89 = .ok (.iaload, 1) by decide +kernel) (SGn hS (by decide)) (SGk hS rfl) (SGi hS rfl h10) ?_
            refine Ev_iload hq_158 (show decode prog_7_method_42_code 90 = .ok (.iload 4, 2) by decide +kernel) rfl ?_
            refine Ev_isub hq_158 (show decode prog_7_method_42_code 92 = .ok (.isub, 1) by decide +kernel) ?_
            exact Ev_iret hq_158 (show decode prog_7_method_42_code 93 = .ok (.ireturn, 1) by decide +kernel) rfl k
          · have k := k.2 (Classical.not_not.mp c9)
            refine Ev_aload_n hq_158 (show decode prog_7_method_42_code 65 = .ok (.aload_n 0, 1) by decide +kernel) rfl ?_
            refine Ev_getR hq_158 (show decode prog_7_method_42_code 66 = .ok (.getfield 55, 3) by decide +kernel) rfl (SGn hS (by decide)) (SGk hS rfl) (by decide) rfl (SGr hS rfl) ?_
            refine Ev_iconst (v := 4) hq_158 (show decode prog_7_method_42_code 69 = .ok (.iconst 4, 1) by decide +kernel) (by decide) ?_
            refine Ev_iload_n hq_158 (show decode prog_7_method_42_code 70 = .ok (.iload_n 2, 1) by decide +kernel) rfl ?_
            refine Ev_imul hq_158 (show decode prog_7_method_42_code 71 = .ok (.imul, 1) by decide +kernel) ?_
            refine Ev_iconst (v := 4) hq_158 (show decode prog_7_method_42_code 72 = .ok (.iconst 4, 1) by decide +kernel) (by decide) ?_
            refine Ev_iadd hq_158 (show decode prog_7_method_42_code 73 = .ok (.iadd, 1) by decide +kernel) ?_
            refine Ev_iload_n hq_158 (show decode prog_7_method_42_code 74 = .ok (.iload_n 1, 1) by decide +kernel) rfl ?_
            refine Ev_iadd hq_158 (show decode prog_7_method_42_code 75 = .ok (.iadd, 1) by decide +kernel) ?_
            obtain ⟨h11, k⟩ := k
            refine Ev_iald hq_158 (show decode prog_7_method_42_code 76 = .ok (.iaload, 1) by decide +kernel) (SGn hS (by decide)) (SGk hS rfl) (SGi hS rfl h11) ?_
            refine Ev_goto (tgt := 93) hq_158 (show decode prog_7_method_42_code 77 = .ok (.goto 16, 3) by decide +kernel) (by decide) ?_
            exact Ev_iret hq_158 (show decode prog_7_method_42_code 93 = .ok (.ireturn, 1) by decide +kernel) rfl k
        · have k := k.2 (Classical.not_not.mp c8)
          refine Ev_iload hq_158 (show decode prog_7_method_42_code 55 = .ok (.iload 4, 2) by decide +kernel) rfl ?_
          refine Ev_goto (tgt := 93) hq_158 (show decode prog_7_method_42_code 57 = .ok (.goto 36, 3) by decide +kernel) (by decide) ?_
          exact Ev_iret hq_158 (show decode prog_7_method_42_code 93 = .ok (.ireturn, 1) by decide +kernel) rfl k
      · have k := k.2 (Classical.not_not.mp c3)
        refine Ev_ldc (v := (-200000)) hq_158 (show decode prog_7_method_42_code 30 = .ok (.ldc 212, 2) by decide +kernel) rfl ?_
        exact Ev_iret hq_158 (show decode prog_7_method_42_code 32 = .ok (.ireturn, 1) by decide +kernel) rfl k
  · have k := k.2 (Classical.not_not.mp c1)
    refine Ev_ldc (v := (-100000)) hq_158 (show decode prog_7_method_42_code 8 = .ok (.ldc 211, 2) by decide +kernel) rfl ?_
    exact Ev_iret hq_158 (show decode prog_7_method_42_code 10 = .ok (.ireturn, 1) by decide +kernel) rfl k
set_option maxRecDepth 20000 in
theorem wp_Z_mostFelt {X : Nat × (Nat → Int32)} {d : Nat} {G : zG} {I : zI} {res : Option Value × zG × zI} (x1 : Int32) (x2 : Int32) (x3 : Int32) (hS : SG G) 
    (k : z_inr ((4 * x2) + x1) 120 ∧ (∀ y2 : Int32, y2 = (I 74 ((4 * x2) + x1).toNatClampNeg) → Ev X d 166 15 [.ref 57, .int x1, .int x2, .int x3, .int y2, .int x2, zU] [] G I res)) :
    Ev X d 166 0 [.ref 57, .int x1, .int x2, .int x3, zU, zU, zU] [] G I res := by
  refine Ev_aload_n hq_166 (show decode prog_7_method_43_code 0 = .ok (.aload_n 0, 1) by decide +kernel) rfl ?_
  refine Ev_getR hq_166 (show decode prog_7_method_43_code 1 = .ok (.getfield 58, 3) by decide +kernel) rfl (SGn hS (by decide)) (SGk hS rfl) (by decide) rfl (SGr hS rfl) ?_
  refine Ev_iconst (v := 4) hq_166 (show decode prog_7_method_43_code 4 = .ok (.iconst 4, 1) by decide +kernel) (by decide) ?_
  refine Ev_iload_n hq_166 (show decode prog_7_method_43_code 5 = .ok (.iload_n 2, 1) by decide +kernel) rfl ?_
  refine Ev_imul hq_166 (show decode prog_7_method_43_code 6 = .ok (.imul, 1) by decide +kernel) ?_
  refine Ev_iload_n hq_166 (show decode prog_7_method_43_code 7 = .ok (.iload_n 1, 1) by decide +kernel) rfl ?_
  refine Ev_iadd hq_166 (show decode prog_7_method_43_code 8 = .ok (.iadd, 1) by decide +kernel) ?_
  obtain ⟨h1, k⟩ := k
  refine Ev_iald hq_166 (show decode prog_7_method_43_code 9 = .ok (.iaload, 1) by decide +kernel) (SGn hS (by decide)) (SGk hS rfl) (SGi hS rfl h1) ?_
  obtain ⟨y2, ey2⟩ : ∃ y2 : Int32, y2 = (I 74 ((4 * x2) + x1).toNatClampNeg) := ⟨_, rfl⟩
  have k := k y2 ey2
  rw [← ey2]
  refine Ev_istore (lo2 := [.ref 57, .int x1, .int x2, .int x3, .int y2, zU, zU]) hq_166 (show decode prog_7_method_43_code 10 = .ok (.istore 4, 2) by decide +kernel) (z_le rfl) rfl ?_
  refine Ev_iload_n hq_166 (show decode prog_7_method_43_code 12 = .ok (.iload_n 2, 1) by decide +kernel) rfl ?_
  refine Ev_istore (lo2 := [.ref 57, .int x1, .int x2, .int x3, .int y2, .int x2, zU]) hq_166 (show decode prog_7_method_43_code 13 = .ok (.istore 5, 2) by decide +kernel) (z_le rfl) rfl ?_
  exact k
set_option maxRecDepth 20000 in
theorem wp_Z_mostFelt_15 {X : Nat × (Nat → Int32)} {d : Nat} {G : zG} {I : zI} {res : Option Value × zG × zI} (x1 : Int32) (x2 : Int32) (x3 : Int32) (x4 : Int32) (x5 : Int32) (v6 : Value) (cv6 : v6.category = 1) (hS : SG G) 
    (k : (30 ≤ x5 → res = (some (.int x4), G, I)) ∧ (¬ 30 ≤ x5 → z_inr ((4 * x5) + x1) 120 ∧ (∀ y3 : Int32, y3 = (I 74 ((4 * x5) + x1).toNatClampNeg) → (x3 = 0 → (y3 ≤ x4 → ∀ y6 : Int32, y6 = x5 + 1 → Ev X d 166 15 [.ref 57, .int x1, .int x2, .int x3, .int x4, .int y6, .int y3] [] G I res) ∧ (¬ y3 ≤ x4 → ∀ y7 : Int32, y7 = x5 + 1 → Ev X d 166 15 [.ref 57, .int x1, .int x2, .int x3, .int y3, .int y7, .int y3] [] G I res)) ∧ (¬ x3 = 0 → (x4 ≤ y3 → ∀ y9 : Int32, y9 = x5 + 1 → Ev X d 166 15 [.ref 57, .int x1, .int x2, .int x3, .int x4, .int y9, .int y3] [] G I res) ∧ (¬ x4 ≤ y3 → ∀ y10 : Int32, y10 = x5 + 1 → Ev X d 166 15 [.ref 57, .int x1, .int x2, .int x3, .int y3, .int y10, .int y3] [] G I res))))) :
    Ev X d 166 15 [.ref 57, .int x1, .int x2, .int x3, .int x4, .int x5, v6] [] G I res := by
  refine Ev_iload hq_166 (show decode prog_7_method_43_code 15 = .ok (.iload 5, 2) by decide +kernel) rfl ?_
  refine Ev_bipush (v := 30) hq_166 (show decode prog_7_method_43_code 17 = .ok (.bipush 30, 2) by decide +kernel) (by decide) ?_
  refine Ev_icmp_ge (tgt := 78) hq_166 (show decode prog_7_method_43_code 19 = .ok (.if_icmp .ge 59, 3) by decide +kernel) (by decide) (fun c1 => ?_) (fun c1 => ?_)
  · have k := k.1 c1
    refine Ev_iload hq_166 (show decode prog_7_method_43_code 78 = .ok (.iload 4, 2) by decide +kernel) rfl ?_
    exact Ev_iret hq_166 (show decode prog_7_method_43_code 80 = .ok (.ireturn, 1) by decide +kernel) rfl k
  · have k := k.2 c1
    refine Ev_aload_n hq_166 (show decode prog_7_method_43_code 22 = .ok (.aload_n 0, 1) by decide +kernel) rfl ?_
    refine Ev_getR hq_166 (show decode prog_7_method_43_code 23 = .ok (.getfield 58, 3) by decide +kernel) rfl (SGn hS (by decide)) (SGk hS rfl) (by decide) rfl (SGr hS rfl) ?_
    refine Ev_iconst (v := 4) hq_166 (show decode prog_7_method_43_code 26 = .ok (.iconst 4, 1) by decide +kernel) (by decide) ?_
    refine Ev_iload hq_166 (show decode prog_7_method_43_code 27 = .ok (.iload 5, 2) by decide +kernel) rfl ?_
    refine Ev_imul hq_166 (show decode prog_7_method_43_code 29 = .ok (.imul, 1) by decide +kernel) ?_
    refine Ev_iload_n hq_166 (show decode prog_7_method_43_code 30 = .ok (.iload_n 1, 1) by decide +kernel) rfl ?_
    refine Ev_iadd hq_166 (show decode prog_7_method_43_code 31 = .ok (.iadd, 1) by decide +kernel) ?_
    obtain ⟨h2, k⟩ := k
    refine Ev_iald hq_166 (show decode prog_7_method_43_code 32 = .ok (.iaload, 1) by decide +kernel) (SGn hS (by decide)) (SGk hS rfl) (SGi hS rfl h2) ?_
    obtain ⟨y3, ey3⟩ : ∃ y3 : Int32, y3 = (I 74 ((4 * x5) + x1).toNatClampNeg) := ⟨_, rfl⟩
    have k := k y3 ey3
    rw [← ey3]
    refine Ev_istore (lo2 := [.ref 57, .int x1, .int x2, .int x3, .int x4, .int x5, .int y3]) hq_166 (show decode prog_7_method_43_code 33 = .ok (.istore 6, 2) by decide +kernel) (z_le rfl) rfl ?_
    refine Ev_iload_n hq_166 (show decode prog_7_method_43_code 35 = .ok (.iload_n 3, 1) by decide +kernel) rfl ?_
    refine Ev_if_eq (tgt := 56) hq_166 (show decode prog_7_method_43_code 36 = .ok (.ifCond .eq 20, 3) by decide +kernel) (by decide) (fun c4 => ?_) (fun c4 => ?_)
    · have k := k.1 c4
      refine Ev_iload hq_166 (show decode prog_7_method_43_code 56 = .ok (.iload 6, 2) by decide +kernel) rfl ?_
      refine Ev_iload hq_166 (show decode prog_7_method_43_code 58 = .ok (.iload 4, 2) by decide +kernel) rfl ?_
      refine Ev_icmp_le (tgt := 68) hq_166 (show decode prog_7_method_43_code 60 = .ok (.if_icmp .le 8, 3) by decide +kernel) (by decide) (fun c5 => ?_) (fun c5 => ?_)
      · have k := k.1 c5
        refine Ev_iload hq_166 (show decode prog_7_method_43_code 68 = .ok (.iload 4, 2) by decide +kernel) rfl ?_
        refine Ev_istore (lo2 := [.ref 57, .int x1, .int x2, .int x3, .int x4, .int x5, .int y3]) hq_166 (show decode prog_7_method_43_code 70 = .ok (.istore 4, 2) by decide +kernel) (z_le rfl) rfl ?_
        obtain ⟨y6, ey6⟩ : ∃ y6 : Int32, y6 = x5 + 1 := ⟨_, rfl⟩
        have k := k y6 ey6
        refine Ev_iinc (v := y6) (lo2 := [.ref 57, .int x1, .int x2, .int x3, .int x4, .int y6, .int y3]) hq_166 (show decode prog_7_method_43_code 72 = .ok (.iinc 5 1, 3) by decide +kernel) rfl (by rw [ey6]; rfl) rfl ?_
        refine Ev_goto (tgt := 15) hq_166 (show decode prog_7_method_43_code 75 = .ok (.goto (-60), 3) by decide +kernel) (by decide) ?_
        exact k
      · have k := k.2 c5
        refine Ev_iload hq_166 (show decode prog_7_method_43_code 63 = .ok (.iload 6, 2) by decide +kernel) rfl ?_
        refine Ev_goto (tgt := 70) hq_166 (show decode prog_7_method_43_code 65 = .ok (.goto 5, 3) by decide +kernel) (by decide) ?_
        refine Ev_istore (lo2 := [.ref 57, .int x1, .int x2, .int x3, .int y3, .int x5, .int y3]) hq_166 (show decode prog_7_method_43_code 70 = .ok (.istore 4, 2) by decide +kernel) (z_le rfl) rfl ?_
        obtain ⟨y7, ey7⟩ : ∃ y7 : Int32, y7 = x5 + 1 := ⟨_, rfl⟩
        have k := k y7 ey7
        refine Ev_iinc (v := y7) (lo2 := [.ref 57, .int x1, .int x2, .int x3, .int y3, .int y7, .int y3]) hq_166 (show decode prog_7_method_43_code 72 = .ok (.iinc 5 1, 3) by decide +kernel) rfl (by rw [ey7]; rfl) rfl ?_
        refine Ev_goto (tgt := 15) hq_166 (show decode prog_7_method_43_code 75 = .ok (.goto (-60), 3) by decide +kernel) (by decide) ?_
        exact k
    · have k := k.2 c4
      refine Ev_iload hq_166 (show decode prog_7_method_43_code 39 = .ok (.iload 6, 2) by decide +kernel) rfl ?_
      refine Ev_iload hq_166 (show decode prog_7_method_43_code 41 = .ok (.iload 4, 2) by decide +kernel) rfl ?_
      refine Ev_icmp_ge (tgt := 51) hq_166 (show decode prog_7_method_43_code 43 = .ok (.if_icmp .ge 8, 3) by decide +kernel) (by decide) (fun c8 => ?_) (fun c8 => ?_)
      · have k := k.1 c8
        refine Ev_iload hq_166 (show decode prog_7_method_43_code 51 = .ok (.iload 4, 2) by decide +kernel) rfl ?_
        refine Ev_goto (tgt := 70) hq_166 (show decode prog_7_method_43_code 53 = .ok (.goto 17, 3) by decide +kernel) (by decide) ?_
        refine Ev_istore (lo2 := [.ref 57, .int x1, .int x2, .int x3, .int x4, .int x5, .int y3]) hq_166 (show decode prog_7_method_43_code 70 = .ok (.istore 4, 2) by decide +kernel) (z_le rfl) rfl ?_
        obtain ⟨y9, ey9⟩ : ∃ y9 : Int32, y9 = x5 + 1 := ⟨_, rfl⟩
        have k := k y9 ey9
        refine Ev_iinc (v := y9) (lo2 := [.ref 57, .int x1, .int x2, .int x3, .int x4, .int y9, .int y3]) hq_166 (show decode prog_7_method_43_code 72 = .ok (.iinc 5 1, 3) by decide +kernel) rfl (by rw [ey9]; rfl) rfl ?_
        refine Ev_goto (tgt := 15) hq_166 (show decode prog_7_method_43_code 75 = .ok (.goto (-60), 3) by decide +kernel) (by decide) ?_
        exact k
      · have k := k.2 c8
        refine Ev_iload hq_166 (show decode prog_7_method_43_code 46 = .ok (.iload 6, 2) by decide +kernel) rfl ?_
        refine Ev_goto (tgt := 70) hq_166 (show decode prog_7_method_43_code 48 = .ok (.goto 22, 3) by decide +kernel) (by decide) ?_
        refine Ev_istore (lo2 := [.ref 57, .int x1, .int x2, .int x3, .int y3, .int x5, .int y3]) hq_166 (show decode prog_7_method_43_code 70 = .ok (.istore 4, 2) by decide +kernel) (z_le rfl) rfl ?_
        obtain ⟨y10, ey10⟩ : ∃ y10 : Int32, y10 = x5 + 1 := ⟨_, rfl⟩
        have k := k y10 ey10
        refine Ev_iinc (v := y10) (lo2 := [.ref 57, .int x1, .int x2, .int x3, .int y3, .int y10, .int y3]) hq_166 (show decode prog_7_method_43_code 72 = .ok (.iinc 5 1, 3) by decide +kernel) rfl (by rw [ey10]; rfl) rfl ?_
        refine Ev_goto (tgt := 15) hq_166 (show decode prog_7_method_43_code 75 = .ok (.goto (-60), 3) by decide +kernel) (by decide) ?_
        exact k
set_option maxRecDepth 20000 in
theorem wp_Z_day {X : Nat × (Nat → Int32)} {d : Nat} {G : zG} {I : zI} {res : Option Value × zG × zI} (x1 : Int32) (x2 : Int32) (hd : 1 ≤ d) (hS : SG G) 
    (k : (¬ (f_Z_isShower I x1) = 0 → (¬ (f_Z_in x2 0 3) = 0 → ∃ (I3 : zI), Cv X d 159 [.ref 57, .int 30] G I (none, G, I3) ∧ ((¬ x2 = 0 → (¬ x2 = 1 → (¬ x2 = 2 → ∃ (r10 : Int32) (I8 : zI), Cv X d 166 [.ref 57, .int x1, .int 0, .int 0] G I3 (some (.int r10), G, I8) ∧ (res = (some (.int r10), G, I8))) ∧ (x2 = 2 → z_inr x1 4 ∧ (res = (some (.int (I3 77 x1.toNatClampNeg)), G, I3)))) ∧ (x2 = 1 → z_inr x1 4 ∧ (res = (some (.int (I3 76 x1.toNatClampNeg)), G, I3)))) ∧ (x2 = 0 → z_inr x1 4 ∧ (res = (some (.int (I3 75 x1.toNatClampNeg)), G, I3))))) ∧ ((f_Z_in x2 0 3) = 0 → res = (some (.int (-7)), G, I))) ∧ ((f_Z_isShower I x1) = 0 → res = (some (.int (-5)), G, I))) :
    Ev X (d + 1) 165 0 [.ref 57, .int x1, .int x2] [] G I res := by
  refine Ev_aload_n hq_165 (show decode prog_7_method_44_code 0 = .ok (.aload_n 0, 1) by decide +kernel) rfl ?_
  refine Ev_iload_n hq_165 (show decode prog_7_method_44_code 1 = .ok (.iload_n 1, 1) by decide +kernel) rfl ?_
  refine Ev_virt (as := [.int x1]) hq_165 (show decode prog_7_method_44_code 2 = .ok (.invokevirtual 176, 3) by decide +kernel) rfl hq_148 rfl (z_le rfl) ⟨(SGn hS (by decide)), (SGk hS rfl), by decide⟩ (c_Z_isShower (by omega) hS x1) ?_
  refine Ev_if_ne (tgt := 11) hq_165 (show decode prog_7_method_44_code 5 = .ok (.ifCond .ne 6, 3) by decide +kernel) (by decide) (fun c1 => ?_) (fun c1 => ?_)
  · have k := k.1 c1
    refine Ev_iload_n hq_165 (show decode prog_7_method_44_code 11 = .ok (.iload_n 2, 1) by decide +kernel) rfl ?_
    refine Ev_iconst (v := 0) hq_165 (show decode prog_7_method_44_code 12 = .ok (.iconst 0, 1) by decide +kernel) (by decide) ?_
    refine Ev_iconst (v := 3) hq_165 (show decode prog_7_method_44_code 13 = .ok (.iconst 3, 1) by decide +kernel) (by decide) ?_
    refine Ev_stat (as := [.int x2, .int 0, .int 3]) hq_165 (show decode prog_7_method_44_code 14 = .ok (.invokestatic 90, 3) by decide +kernel) rfl (Or.inl rfl) hq_131 rfl (z_le rfl) (c_Z_in x2 0 3) ?_
    refine Ev_if_ne (tgt := 23) hq_165 (show decode prog_7_method_44_code 17 = .ok (.ifCond .ne 6, 3) by decide +kernel) (by decide) (fun c2 => ?_) (fun c2 => ?_)
    · have k := k.1 c2
      refine Ev_aload_n hq_165 (show decode prog_7_method_44_code 23 = .ok (.aload_n 0, 1) by decide +kernel) rfl ?_
      refine Ev_bipush (v := 30) hq_165 (show decode prog_7_method_44_code 24 = .ok (.bipush 30, 2) by decide +kernel) (by decide) ?_
      obtain ⟨I3, h4, k⟩ := k
      refine Ev_virt (as := [.int 30]) hq_165 (show decode prog_7_method_44_code 26 = .ok (.invokevirtual 205, 3) by decide +kernel) rfl hq_159 rfl (z_le rfl) ⟨(SGn hS (by decide)), (SGk hS rfl), by decide⟩ h4 ?_
      refine Ev_iload_n hq_165 (show decode prog_7_method_44_code 29 = .ok (.iload_n 2, 1) by decide +kernel) rfl ?_
      refine Ev_if_ne (tgt := 42) hq_165 (show decode prog_7_method_44_code 30 = .ok (.ifCond .ne 12, 3) by decide +kernel) (by decide) (fun c5 => ?_) (fun c5 => ?_)
      · have k := k.1 c5
        refine Ev_iload_n hq_165 (show decode prog_7_method_44_code 42 = .ok (.iload_n 2, 1) by decide +kernel) rfl ?_
        refine Ev_iconst (v := 1) hq_165 (show decode prog_7_method_44_code 43 = .ok (.iconst 1, 1) by decide +kernel) (by decide) ?_
        refine Ev_icmp_ne (tgt := 56) hq_165 (show decode prog_7_method_44_code 44 = .ok (.if_icmp .ne 12, 3) by decide +kernel) (by decide) (fun c6 => ?_) (fun c6 => ?_)
        · have k := k.1 c6
          refine Ev_iload_n hq_165 (show decode prog_7_method_44_code 56 = .ok (.iload_n 2, 1) by decide +kernel) rfl ?_
          refine Ev_iconst (v := 2) hq_165 (show decode prog_7_method_44_code 57 = .ok (.iconst 2, 1) by decide +kernel) (by decide) ?_
          refine Ev_icmp_ne (tgt := 70) hq_165 (show decode prog_7_method_44_code 58 = .ok (.if_icmp .ne 12, 3) by decide +kernel) (by decide) (fun c7 => ?_) (fun c7 => ?_)
          · have k := k.1 c7
            refine Ev_aload_n hq_165 (show decode prog_7_method_44_code 70 = .ok (.aload_n 0, 1) by decide +kernel) rfl ?_
            refine Ev_iload_n hq_165 (show decode prog_7_method_44_code 71 = .ok (.iload_n 1, 1) by decide +kernel) rfl ?_
            refine Ev_iconst (v := 0) hq_165 (show decode prog_7_method_44_code 72 = .ok (.iconst 0, 1) by decide +kernel) (by decide) ?_
            refine Ev_iconst (v := 0) hq_165 (show decode prog_7_method_44_code 73 = .ok (.iconst 0, 1) by decide +kernel) (by decide) ?_
            obtain ⟨r10, I8, h9, k⟩ := k
            refine Ev_virt (as := [.int x1, .int 0, .int 0]) hq_165 (show decode prog_7_method_44_code 74 = .ok (.invokevirtual 213, 3) by decide +kernel) rfl hq_166 rfl (z_le rfl) ⟨(SGn hS (by decide)), (SGk hS rfl), by decide⟩ h9 ?_
            exact Ev_iret hq_165 (show decode prog_7_method_44_code 77 = .ok (.ireturn, 1) by decide +kernel) rfl k
          · have k := k.2 (Classical.not_not.mp c7)
            refine Ev_aload_n hq_165 (show decode prog_7_method_44_code 61 = .ok (.aload_n 0, 1) by decide +kernel) rfl ?_
            refine Ev_getR hq_165 (show decode prog_7_method_44_code 62 = .ok (.getfield 67, 3) by decide +kernel) rfl (SGn hS (by decide)) (SGk hS rfl) (by decide) rfl (SGr hS rfl) ?_
            refine Ev_iload_n hq_165 (show decode prog_7_method_44_code 65 = .ok (.iload_n 1, 1) by decide +kernel) rfl ?_
            obtain ⟨h11, k⟩ := k
            refine Ev_iald hq_165 (show decode prog_7_method_44_code 66 = .ok (.iaload, 1) by decide +kernel) (SGn hS (by decide)) (SGk hS rfl) (SGi hS rfl h11) ?_
            refine Ev_goto (tgt := 77) hq_165 (show decode prog_7_method_44_code 67 = .ok (.goto 10, 3) by decide +kernel) (by decide) ?_
            exact Ev_iret hq_165 (show decode prog_7_method_44_code 77 = .ok (.ireturn, 1) by decide +kernel) rfl k
        · have k := k.2 (Classical.not_not.mp c6)
          refine Ev_aload_n hq_165 (show decode prog_7_method_44_code 47 = .ok (.aload_n 0, 1) by decide +kernel) rfl ?_
          refine Ev_getR hq_165 (show decode prog_7_method_44_code 48 = .ok (.getfield 64, 3) by decide +kernel) rfl (SGn hS (by decide)) (SGk hS rfl) (by decide) rfl (SGr hS rfl) ?_
          refine Ev_iload_n hq_165 (show decode prog_7_method_44_code 51 = .ok (.iload_n 1, 1) by decide +kernel) rfl ?_
          obtain ⟨h12, k⟩ := k
          refine Ev_iald hq_165 (show decode prog_7_method_44_code 52 = .ok (.iaload, 1) by decide +kernel) (SGn hS (by decide)) (SGk hS rfl) (SGi hS rfl h12) ?_
          refine Ev_goto (tgt := 77) hq_165 (show decode prog_7_method_44_code 53 = .ok (.goto 24, 3) by decide +kernel) (by decide) ?_
          exact Ev_iret hq_165 (show decode prog_7_method_44_code 77 = .ok (.ireturn, 1) by decide +kernel) rfl k
      · have k := k.2 (Classical.not_not.mp c5)
        refine Ev_aload_n hq_165 (show decode prog_7_method_44_code 33 = .ok (.aload_n 0, 1) by decide +kernel) rfl ?_
        refine Ev_getR hq_165 (show decode prog_7_method_44_code 34 = .ok (.getfield 61, 3) by decide +kernel) rfl (SGn hS (by decide)) (SGk hS rfl) (by decide) rfl (SGr hS rfl) ?_
        refine Ev_iload_n hq_165 (show decode prog_7_method_44_code 37 = .ok (.iload_n 1, 1) by decide +kernel) rfl ?_
        obtain ⟨h13, k⟩ := k
        refine Ev_iald hq_165 (show decode prog_7_method_44_code 38 = .ok (.iaload, 1) by decide +kernel) (SGn hS (by decide)) (SGk hS rfl) (SGi hS rfl h13) ?_
        refine Ev_goto (tgt := 77) hq_165 (show decode prog_7_method_44_code 39 = .ok (.goto 38, 3) by decide +kernel) (by decide) ?_
        exact Ev_iret hq_165 (show decode prog_7_method_44_code 77 = .ok (.ireturn, 1) by decide +kernel) rfl k
    · have k := k.2 (Classical.not_not.mp c2)
      refine Ev_bipush (v := (-7)) hq_165 (show decode prog_7_method_44_code 20 = .ok (.bipush (-7), 2) by decide +kernel) (by decide) ?_
      exact Ev_iret hq_165 (show decode prog_7_method_44_code 22 = .ok (.ireturn, 1) by decide +kernel) rfl k
  · have k := k.2 (Classical.not_not.mp c1)
    refine Ev_bipush (v := (-5)) hq_165 (show decode prog_7_method_44_code 8 = .ok (.bipush (-5), 2) by decide +kernel) (by decide) ?_
    exact Ev_iret hq_165 (show decode prog_7_method_44_code 10 = .ok (.ireturn, 1) by decide +kernel) rfl k
set_option maxRecDepth 20000 in
theorem wp_Z_isNear {X : Nat × (Nat → Int32)} {d : Nat} {G : zG} {I : zI} {res : Option Value × zG × zI} (x0 : Int32) 
    (k : res = (some (.int (f_Z_in x0 0 999)), G, I)) :
    Ev X (d + 1) 168 0 [.int x0] [] G I res := by
  refine Ev_iload_n hq_168 (show decode prog_7_method_7_code 0 = .ok (.iload_n 0, 1) by decide +kernel) rfl ?_
  refine Ev_iconst (v := 0) hq_168 (show decode prog_7_method_7_code 1 = .ok (.iconst 0, 1) by decide +kernel) (by decide) ?_
  refine Ev_sipush (v := 999) hq_168 (show decode prog_7_method_7_code 2 = .ok (.sipush 999, 3) by decide +kernel) (by decide) ?_
  refine Ev_stat (as := [.int x0, .int 0, .int 999]) hq_168 (show decode prog_7_method_7_code 5 = .ok (.invokestatic 90, 3) by decide +kernel) rfl (Or.inl rfl) hq_131 rfl (z_le rfl) (c_Z_in x0 0 999) ?_
  exact Ev_iret hq_168 (show decode prog_7_method_7_code 8 = .ok (.ireturn, 1) by decide +kernel) (z_nb (b_Z_in x0 0 999)) k
def f_Z_isNear (x0 : Int32) : Int32 := (f_Z_in x0 0 999)
theorem c_Z_isNear {X : Nat × (Nat → Int32)} {d : Nat} {G : zG} {I : zI} (hd : 1 ≤ d) (x0 : Int32) : Cv X d 168 [.int x0] G I (some (.int (f_Z_isNear x0)), G, I) := by
  obtain ⟨d, rfl⟩ : ∃ e, d = e + 1 := ⟨d - 1, by omega⟩
  exact Cv.of hq_168 (z_le rfl) rfl (wp_Z_isNear x0 (by rfl))
theorem b_Z_isNear (x0 : Int32) : f_Z_isNear x0 = 0 ∨ f_Z_isNear x0 = 1 := by
  unfold f_Z_isNear
  repeat (any_goals split)
  all_goals first | exact Or.inl rfl | exact Or.inr rfl | exact b_Z_in ..
set_option maxRecDepth 20000 in
theorem wp_Z_restsBy {X : Nat × (Nat → Int32)} {d : Nat} {G : zG} {I : zI} {res : Option Value × zG × zI} (x1 : Int32) (x2 : Int32) 
    (k : Ev X d 170 6 [.ref 57, .int x1, .int x2, .int (-1), .int 29] [] G I res) :
    Ev X d 170 0 [.ref 57, .int x1, .int x2, zU, zU] [] G I res := by
  refine Ev_iconst (v := (-1)) hq_170 (show decode prog_7_method_45_code 0 = .ok (.iconst (-1), 1) by decide +kernel) (by decide) ?_
  refine Ev_istore_n (lo2 := [.ref 57, .int x1, .int x2, .int (-1), zU]) hq_170 (show decode prog_7_method_45_code 1 = .ok (.istore_n 3, 1) by decide +kernel) (z_le rfl) rfl ?_
  refine Ev_bipush (v := 29) hq_170 (show decode prog_7_method_45_code 2 = .ok (.bipush 29, 2) by decide +kernel) (by decide) ?_
  refine Ev_istore (lo2 := [.ref 57, .int x1, .int x2, .int (-1), .int 29]) hq_170 (show decode prog_7_method_45_code 4 = .ok (.istore 4, 2) by decide +kernel) (z_le rfl) rfl ?_
  exact k
set_option maxRecDepth 20000 in
theorem wp_Z_restsBy_6 {X : Nat × (Nat → Int32)} {d : Nat} {G : zG} {I : zI} {res : Option Value × zG × zI} (x1 : Int32) (x2 : Int32) (x3 : Int32) (x4 : Int32) (hS : SG G) 
    (k : (x4 < 0 → res = (some (.int x3), G, I)) ∧ (¬ x4 < 0 → z_inr ((5 * x1) + 1) 20 ∧ (z_inr ((4 * x4) + x1) 120 ∧ (((f_Z_far ((I 60 ((5 * x1) + 1).toNatClampNeg) - (I 74 ((4 * x4) + x1).toNatClampNeg))) ≤ x2 → ∀ y5 : Int32, y5 = x4 + (-1) → Ev X (d + 1) 170 6 [.ref 57, .int x1, .int x2, .int x4, .int y5] [] G I res) ∧ (¬ (f_Z_far ((I 60 ((5 * x1) + 1).toNatClampNeg) - (I 74 ((4 * x4) + x1).toNatClampNeg))) ≤ x2 → res = (some (.int x3), G, I)))))) :
    Ev X (d + 1) 170 6 [.ref 57, .int x1, .int x2, .int x3, .int x4] [] G I res := by
  refine Ev_iload hq_170 (show decode prog_7_method_45_code 6 = .ok (.iload 4, 2) by decide +kernel) rfl ?_
  refine Ev_if_lt (tgt := 51) hq_170 (show decode prog_7_method_45_code 8 = .ok (.ifCond .lt 43, 3) by decide +kernel) (by decide) (fun c1 => ?_) (fun c1 => ?_)
  · have k := k.1 c1
    refine Ev_iload_n hq_170 (show decode prog_7_method_45_code 51 = .ok (.iload_n 3, 1) by decide +kernel) rfl ?_
    exact Ev_iret hq_170 (show decode prog_7_method_45_code 52 = .ok (.ireturn, 1) by decide +kernel) rfl k
  · have k := k.2 c1
    refine Ev_aload_n hq_170 (show decode prog_7_method_45_code 11 = .ok (.aload_n 0, 1) by decide +kernel) rfl ?_
    refine Ev_getR hq_170 (show decode prog_7_method_45_code 12 = .ok (.getfield 16, 3) by decide +kernel) rfl (SGn hS (by decide)) (SGk hS rfl) (by decide) rfl (SGr hS rfl) ?_
    refine Ev_iconst (v := 5) hq_170 (show decode prog_7_method_45_code 15 = .ok (.iconst 5, 1) by decide +kernel) (by decide) ?_
    refine Ev_iload_n hq_170 (show decode prog_7_method_45_code 16 = .ok (.iload_n 1, 1) by decide +kernel) rfl ?_
    refine Ev_imul hq_170 (show decode prog_7_method_45_code 17 = .ok (.imul, 1) by decide +kernel) ?_
    refine Ev_iconst (v := 1) hq_170 (show decode prog_7_method_45_code 18 = .ok (.iconst 1, 1) by decide +kernel) (by decide) ?_
    refine Ev_iadd hq_170 (show decode prog_7_method_45_code 19 = .ok (.iadd, 1) by decide +kernel) ?_
    obtain ⟨h2, k⟩ := k
    refine Ev_iald hq_170 (show decode prog_7_method_45_code 20 = .ok (.iaload, 1) by decide +kernel) (SGn hS (by decide)) (SGk hS rfl) (SGi hS rfl h2) ?_
    refine Ev_aload_n hq_170 (show decode prog_7_method_45_code 21 = .ok (.aload_n 0, 1) by decide +kernel) rfl ?_
    refine Ev_getR hq_170 (show decode prog_7_method_45_code 22 = .ok (.getfield 58, 3) by decide +kernel) rfl (SGn hS (by decide)) (SGk hS rfl) (by decide) rfl (SGr hS rfl) ?_
    refine Ev_iconst (v := 4) hq_170 (show decode prog_7_method_45_code 25 = .ok (.iconst 4, 1) by decide +kernel) (by decide) ?_
    refine Ev_iload hq_170 (show decode prog_7_method_45_code 26 = .ok (.iload 4, 2) by decide +kernel) rfl ?_
    refine Ev_imul hq_170 (show decode prog_7_method_45_code 28 = .ok (.imul, 1) by decide +kernel) ?_
    refine Ev_iload_n hq_170 (show decode prog_7_method_45_code 29 = .ok (.iload_n 1, 1) by decide +kernel) rfl ?_
    refine Ev_iadd hq_170 (show decode prog_7_method_45_code 30 = .ok (.iadd, 1) by decide +kernel) ?_
    obtain ⟨h3, k⟩ := k
    refine Ev_iald hq_170 (show decode prog_7_method_45_code 31 = .ok (.iaload, 1) by decide +kernel) (SGn hS (by decide)) (SGk hS rfl) (SGi hS rfl h3) ?_
    refine Ev_isub hq_170 (show decode prog_7_method_45_code 32 = .ok (.isub, 1) by decide +kernel) ?_
    refine Ev_stat (as := [.int ((I 60 ((5 * x1) + 1).toNatClampNeg) - (I 74 ((4 * x4) + x1).toNatClampNeg))]) hq_170 (show decode prog_7_method_45_code 33 = .ok (.invokestatic 193, 3) by decide +kernel) rfl (Or.inl rfl) hq_164 rfl (z_le rfl) (c_Z_far ((I 60 ((5 * x1) + 1).toNatClampNeg) - (I 74 ((4 * x4) + x1).toNatClampNeg))) ?_
    refine Ev_iload_n hq_170 (show decode prog_7_method_45_code 36 = .ok (.iload_n 2, 1) by decide +kernel) rfl ?_
    refine Ev_icmp_le (tgt := 42) hq_170 (show decode prog_7_method_45_code 37 = .ok (.if_icmp .le 5, 3) by decide +kernel) (by decide) (fun c4 => ?_) (fun c4 => ?_)
    · have k := k.1 c4
      refine Ev_iload hq_170 (show decode prog_7_method_45_code 42 = .ok (.iload 4, 2) by decide +kernel) rfl ?_
      refine Ev_istore_n (lo2 := [.ref 57, .int x1, .int x2, .int x4, .int x4]) hq_170 (show decode prog_7_method_45_code 44 = .ok (.istore_n 3, 1) by decide +kernel) (z_le rfl) rfl ?_
      obtain ⟨y5, ey5⟩ : ∃ y5 : Int32, y5 = x4 + (-1) := ⟨_, rfl⟩
      have k := k y5 ey5
      refine Ev_iinc (v := y5) (lo2 := [.ref 57, .int x1, .int x2, .int x4, .int y5]) hq_170 (show decode prog_7_method_45_code 45 = .ok (.iinc 4 (-1), 3) by decide +kernel) rfl (by rw [ey5]; rfl) rfl ?_
      refine Ev_goto (tgt := 6) hq_170 (show decode prog_7_method_45_code 48 = .ok (.goto (-42), 3) by decide +kernel) (by decide) ?_
      exact k
    · have k := k.2 c4
      refine Ev_iload_n hq_170 (show decode prog_7_method_45_code 40 = .ok (.iload_n 3, 1) by decide +kernel) rfl ?_
      exact Ev_iret hq_170 (show decode prog_7_method_45_code 41 = .ok (.ireturn, 1) by decide +kernel) rfl k
set_option maxRecDepth 20000 in
theorem wp_Z_restsNow {X : Nat × (Nat → Int32)} {d : Nat} {G : zG} {I : zI} {res : Option Value × zG × zI} (x1 : Int32) (x2 : Int32) (hS : SG G) 
    (k : ∃ (I1 : zI), Cv X d 159 [.ref 57, .int 30] G I (none, G, I1) ∧ (∃ (r5 : Int32) (I3 : zI), Cv X d 170 [.ref 57, .int x1, .int x2] G I1 (some (.int r5), G, I3) ∧ (res = (some (.int r5), G, I3)))) :
    Ev X (d + 1) 169 0 [.ref 57, .int x1, .int x2] [] G I res := by
  refine Ev_aload_n hq_169 (show decode prog_7_method_46_code 0 = .ok (.aload_n 0, 1) by decide +kernel) rfl ?_
  refine Ev_bipush (v := 30) hq_169 (show decode prog_7_method_46_code 1 = .ok (.bipush 30, 2) by decide +kernel) (by decide) ?_
  obtain ⟨I1, h2, k⟩ := k
  refine Ev_virt (as := [.int 30]) hq_169 (show decode prog_7_method_46_code 3 = .ok (.invokevirtual 205, 3) by decide +kernel) rfl hq_159 rfl (z_le rfl) ⟨(SGn hS (by decide)), (SGk hS rfl), by decide⟩ h2 ?_
  refine Ev_aload_n hq_169 (show decode prog_7_method_46_code 6 = .ok (.aload_n 0, 1) by decide +kernel) rfl ?_
  refine Ev_iload_n hq_169 (show decode prog_7_method_46_code 7 = .ok (.iload_n 1, 1) by decide +kernel) rfl ?_
  refine Ev_iload_n hq_169 (show decode prog_7_method_46_code 8 = .ok (.iload_n 2, 1) by decide +kernel) rfl ?_
  obtain ⟨r5, I3, h4, k⟩ := k
  refine Ev_virt (as := [.int x1, .int x2]) hq_169 (show decode prog_7_method_46_code 9 = .ok (.invokevirtual 217, 3) by decide +kernel) rfl hq_170 rfl (z_le rfl) ⟨(SGn hS (by decide)), (SGk hS rfl), by decide⟩ h4 ?_
  exact Ev_iret hq_169 (show decode prog_7_method_46_code 12 = .ok (.ireturn, 1) by decide +kernel) rfl k
set_option maxRecDepth 20000 in
theorem wp_Z_rests {X : Nat × (Nat → Int32)} {d : Nat} {G : zG} {I : zI} {res : Option Value × zG × zI} (x1 : Int32) (x2 : Int32) (hd : 1 ≤ d) (hS : SG G) 
    (k : (¬ (f_Z_isShower I x1) = 0 → ((f_Z_isNear x2) = 0 → res = (some (.int (-7)), G, I)) ∧ (¬ (f_Z_isNear x2) = 0 → ∃ (r5 : Int32) (I3 : zI), Cv X d 169 [.ref 57, .int x1, .int x2] G I (some (.int r5), G, I3) ∧ (res = (some (.int r5), G, I3)))) ∧ ((f_Z_isShower I x1) = 0 → res = (some (.int (-5)), G, I))) :
    Ev X (d + 1) 167 0 [.ref 57, .int x1, .int x2] [] G I res := by
  refine Ev_aload_n hq_167 (show decode prog_7_method_47_code 0 = .ok (.aload_n 0, 1) by decide +kernel) rfl ?_
  refine Ev_iload_n hq_167 (show decode prog_7_method_47_code 1 = .ok (.iload_n 1, 1) by decide +kernel) rfl ?_
  refine Ev_virt (as := [.int x1]) hq_167 (show decode prog_7_method_47_code 2 = .ok (.invokevirtual 176, 3) by decide +kernel) rfl hq_148 rfl (z_le rfl) ⟨(SGn hS (by decide)), (SGk hS rfl), by decide⟩ (c_Z_isShower (by omega) hS x1) ?_
  refine Ev_if_ne (tgt := 11) hq_167 (show decode prog_7_method_47_code 5 = .ok (.ifCond .ne 6, 3) by decide +kernel) (by decide) (fun c1 => ?_) (fun c1 => ?_)
  · have k := k.1 c1
    refine Ev_iload_n hq_167 (show decode prog_7_method_47_code 11 = .ok (.iload_n 2, 1) by decide +kernel) rfl ?_
    refine Ev_stat (as := [.int x2]) hq_167 (show decode prog_7_method_47_code 12 = .ok (.invokestatic 220, 3) by decide +kernel) rfl (Or.inl rfl) hq_168 rfl (z_le rfl) (c_Z_isNear (by omega) x2) ?_
    refine Ev_if_eq (tgt := 27) hq_167 (show decode prog_7_method_47_code 15 = .ok (.ifCond .eq 12, 3) by decide +kernel) (by decide) (fun c2 => ?_) (fun c2 => ?_)
    · have k := k.1 c2
      refine Ev_bipush (v := (-7)) hq_167 (show decode prog_7_method_47_code 27 = .ok (.bipush (-7), 2) by decide +kernel) (by decide) ?_
      exact Ev_iret hq_167 (show decode prog_7_method_47_code 29 = .ok (.ireturn, 1) by decide +kernel) rfl k
    · have k := k.2 c2
      refine Ev_aload_n hq_167 (show decode prog_7_method_47_code 18 = .ok (.aload_n 0, 1) by decide +kernel) rfl ?_
      refine Ev_iload_n hq_167 (show decode prog_7_method_47_code 19 = .ok (.iload_n 1, 1) by decide +kernel) rfl ?_
      refine Ev_iload_n hq_167 (show decode prog_7_method_47_code 20 = .ok (.iload_n 2, 1) by decide +kernel) rfl ?_
      obtain ⟨r5, I3, h4, k⟩ := k
      refine Ev_virt (as := [.int x1, .int x2]) hq_167 (show decode prog_7_method_47_code 21 = .ok (.invokevirtual 223, 3) by decide +kernel) rfl hq_169 rfl (z_le rfl) ⟨(SGn hS (by decide)), (SGk hS rfl), by decide⟩ h4 ?_
      refine Ev_goto (tgt := 29) hq_167 (show decode prog_7_method_47_code 24 = .ok (.goto 5, 3) by decide +kernel) (by decide) ?_
      exact Ev_iret hq_167 (show decode prog_7_method_47_code 29 = .ok (.ireturn, 1) by decide +kernel) rfl k
  · have k := k.2 (Classical.not_not.mp c1)
    refine Ev_bipush (v := (-5)) hq_167 (show decode prog_7_method_47_code 8 = .ok (.bipush (-5), 2) by decide +kernel) (by decide) ?_
    exact Ev_iret hq_167 (show decode prog_7_method_47_code 10 = .ok (.ireturn, 1) by decide +kernel) rfl k
set_option maxRecDepth 20000 in
theorem wp_Z_sways {X : Nat × (Nat → Int32)} {d : Nat} {G : zG} {I : zI} {res : Option Value × zG × zI} (x1 : Int32) (hd : 1 ≤ d) (hS : SG G) 
    (k : (¬ (f_Z_isShower I x1) = 0 → ∃ (I2 : zI), Cv X d 159 [.ref 57, .int 30] G I (none, G, I2) ∧ (∃ (r6 : Int32) (I4 : zI), Cv X d 166 [.ref 57, .int x1, .int 20, .int 0] G I2 (some (.int r6), G, I4) ∧ (∃ (r9 : Int32) (I7 : zI), Cv X d 166 [.ref 57, .int x1, .int 20, .int 1] G I4 (some (.int r9), G, I7) ∧ (res = (some (.int (r6 - r9)), G, I7))))) ∧ ((f_Z_isShower I x1) = 0 → res = (some (.int (-5)), G, I))) :
    Ev X (d + 1) 171 0 [.ref 57, .int x1] [] G I res := by
  refine Ev_aload_n hq_171 (show decode prog_7_method_48_code 0 = .ok (.aload_n 0, 1) by decide +kernel) rfl ?_
  refine Ev_iload_n hq_171 (show decode prog_7_method_48_code 1 = .ok (.iload_n 1, 1) by decide +kernel) rfl ?_
  refine Ev_virt (as := [.int x1]) hq_171 (show decode prog_7_method_48_code 2 = .ok (.invokevirtual 176, 3) by decide +kernel) rfl hq_148 rfl (z_le rfl) ⟨(SGn hS (by decide)), (SGk hS rfl), by decide⟩ (c_Z_isShower (by omega) hS x1) ?_
  refine Ev_if_ne (tgt := 11) hq_171 (show decode prog_7_method_48_code 5 = .ok (.ifCond .ne 6, 3) by decide +kernel) (by decide) (fun c1 => ?_) (fun c1 => ?_)
  · have k := k.1 c1
    refine Ev_aload_n hq_171 (show decode prog_7_method_48_code 11 = .ok (.aload_n 0, 1) by decide +kernel) rfl ?_
    refine Ev_bipush (v := 30) hq_171 (show decode prog_7_method_48_code 12 = .ok (.bipush 30, 2) by decide +kernel) (by decide) ?_
    obtain ⟨I2, h3, k⟩ := k
    refine Ev_virt (as := [.int 30]) hq_171 (show decode prog_7_method_48_code 14 = .ok (.invokevirtual 205, 3) by decide +kernel) rfl hq_159 rfl (z_le rfl) ⟨(SGn hS (by decide)), (SGk hS rfl), by decide⟩ h3 ?_
    refine Ev_aload_n hq_171 (show decode prog_7_method_48_code 17 = .ok (.aload_n 0, 1) by decide +kernel) rfl ?_
    refine Ev_iload_n hq_171 (show decode prog_7_method_48_code 18 = .ok (.iload_n 1, 1) by decide +kernel) rfl ?_
    refine Ev_bipush (v := 20) hq_171 (show decode prog_7_method_48_code 19 = .ok (.bipush 20, 2) by decide +kernel) (by decide) ?_
    refine Ev_iconst (v := 0) hq_171 (show decode prog_7_method_48_code 21 = .ok (.iconst 0, 1) by decide +kernel) (by decide) ?_
    obtain ⟨r6, I4, h5, k⟩ := k
    refine Ev_virt (as := [.int x1, .int 20, .int 0]) hq_171 (show decode prog_7_method_48_code 22 = .ok (.invokevirtual 213, 3) by decide +kernel) rfl hq_166 rfl (z_le rfl) ⟨(SGn hS (by decide)), (SGk hS rfl), by decide⟩ h5 ?_
    refine Ev_aload_n hq_171 (show decode prog_7_method_48_code 25 = .ok (.aload_n 0, 1) by decide +kernel) rfl ?_
    refine Ev_iload_n hq_171 (show decode prog_7_method_48_code 26 = .ok (.iload_n 1, 1) by decide +kernel) rfl ?_
    refine Ev_bipush (v := 20) hq_171 (show decode prog_7_method_48_code 27 = .ok (.bipush 20, 2) by decide +kernel) (by decide) ?_
    refine Ev_iconst (v := 1) hq_171 (show decode prog_7_method_48_code 29 = .ok (.iconst 1, 1) by decide +kernel) (by decide) ?_
    obtain ⟨r9, I7, h8, k⟩ := k
    refine Ev_virt (as := [.int x1, .int 20, .int 1]) hq_171 (show decode prog_7_method_48_code 30 = .ok (.invokevirtual 213, 3) by decide +kernel) rfl hq_166 rfl (z_le rfl) ⟨(SGn hS (by decide)), (SGk hS rfl), by decide⟩ h8 ?_
    refine Ev_isub hq_171 (show decode prog_7_method_48_code 33 = .ok (.isub, 1) by decide +kernel) ?_
    exact Ev_iret hq_171 (show decode prog_7_method_48_code 34 = .ok (.ireturn, 1) by decide +kernel) rfl k
  · have k := k.2 (Classical.not_not.mp c1)
    refine Ev_bipush (v := (-5)) hq_171 (show decode prog_7_method_48_code 8 = .ok (.bipush (-5), 2) by decide +kernel) (by decide) ?_
    exact Ev_iret hq_171 (show decode prog_7_method_48_code 10 = .ok (.ireturn, 1) by decide +kernel) rfl k
set_option maxRecDepth 20000 in
theorem wp_Z_costNow {X : Nat × (Nat → Int32)} {d : Nat} {G : zG} {I : zI} {res : Option Value × zG × zI}  
    (k : Ev X d 173 4 [.ref 57, .int 0, .int 0] [] G I res) :
    Ev X d 173 0 [.ref 57, zU, zU] [] G I res := by
  refine Ev_iconst (v := 0) hq_173 (show decode prog_7_method_40_code 0 = .ok (.iconst 0, 1) by decide +kernel) (by decide) ?_
  refine Ev_istore_n (lo2 := [.ref 57, .int 0, zU]) hq_173 (show decode prog_7_method_40_code 1 = .ok (.istore_n 1, 1) by decide +kernel) (z_le rfl) rfl ?_
  refine Ev_iconst (v := 0) hq_173 (show decode prog_7_method_40_code 2 = .ok (.iconst 0, 1) by decide +kernel) (by decide) ?_
  refine Ev_istore_n (lo2 := [.ref 57, .int 0, .int 0]) hq_173 (show decode prog_7_method_40_code 3 = .ok (.istore_n 2, 1) by decide +kernel) (z_le rfl) rfl ?_
  exact k
set_option maxRecDepth 20000 in
theorem wp_Z_costNow_4 {X : Nat × (Nat → Int32)} {d : Nat} {G : zG} {I : zI} {res : Option Value × zG × zI} (x1 : Int32) (x2 : Int32) (hS : SG G) 
    (k : ((I 57 0) ≤ x2 → res = (some (.int x1), G, I)) ∧ (¬ (I 57 0) ≤ x2 → z_inr x2 4 ∧ (∀ y3 : Int32, y3 = (x1 + (I 75 x2.toNatClampNeg)) → ∀ y4 : Int32, y4 = x2 + 1 → Ev X d 173 4 [.ref 57, .int y3, .int y4] [] G I res))) :
    Ev X d 173 4 [.ref 57, .int x1, .int x2] [] G I res := by
  refine Ev_iload_n hq_173 (show decode prog_7_method_40_code 4 = .ok (.iload_n 2, 1) by decide +kernel) rfl ?_
  refine Ev_aload_n hq_173 (show decode prog_7_method_40_code 5 = .ok (.aload_n 0, 1) by decide +kernel) rfl ?_
  refine Ev_getI hq_173 (show decode prog_7_method_40_code 6 = .ok (.getfield 87, 3) by decide +kernel) rfl (SGn hS (by decide)) (SGk hS rfl) (by decide) rfl ?_
  refine Ev_icmp_ge (tgt := 27) hq_173 (show decode prog_7_method_40_code 9 = .ok (.if_icmp .ge 18, 3) by decide +kernel) (by decide) (fun c1 => ?_) (fun c1 => ?_)
  · have k := k.1 c1
    refine Ev_iload_n hq_173 (show decode prog_7_method_40_code 27 = .ok (.iload_n 1, 1) by decide +kernel) rfl ?_
    exact Ev_iret hq_173 (show decode prog_7_method_40_code 28 = .ok (.ireturn, 1) by decide +kernel) rfl k
  · have k := k.2 c1
    refine Ev_iload_n hq_173 (show decode prog_7_method_40_code 12 = .ok (.iload_n 1, 1) by decide +kernel) rfl ?_
    refine Ev_aload_n hq_173 (show decode prog_7_method_40_code 13 = .ok (.aload_n 0, 1) by decide +kernel) rfl ?_
    refine Ev_getR hq_173 (show decode prog_7_method_40_code 14 = .ok (.getfield 61, 3) by decide +kernel) rfl (SGn hS (by decide)) (SGk hS rfl) (by decide) rfl (SGr hS rfl) ?_
    refine Ev_iload_n hq_173 (show decode prog_7_method_40_code 17 = .ok (.iload_n 2, 1) by decide +kernel) rfl ?_
    obtain ⟨h2, k⟩ := k
    refine Ev_iald hq_173 (show decode prog_7_method_40_code 18 = .ok (.iaload, 1) by decide +kernel) (SGn hS (by decide)) (SGk hS rfl) (SGi hS rfl h2) ?_
    refine Ev_iadd hq_173 (show decode prog_7_method_40_code 19 = .ok (.iadd, 1) by decide +kernel) ?_
    obtain ⟨y3, ey3⟩ : ∃ y3 : Int32, y3 = (x1 + (I 75 x2.toNatClampNeg)) := ⟨_, rfl⟩
    have k := k y3 ey3
    rw [← ey3]
    refine Ev_istore_n (lo2 := [.ref 57, .int y3, .int x2]) hq_173 (show decode prog_7_method_40_code 20 = .ok (.istore_n 1, 1) by decide +kernel) (z_le rfl) rfl ?_
    obtain ⟨y4, ey4⟩ : ∃ y4 : Int32, y4 = x2 + 1 := ⟨_, rfl⟩
    have k := k y4 ey4
    refine Ev_iinc (v := y4) (lo2 := [.ref 57, .int y3, .int y4]) hq_173 (show decode prog_7_method_40_code 21 = .ok (.iinc 2 1, 3) by decide +kernel) rfl (by rw [ey4]; rfl) rfl ?_
    refine Ev_goto (tgt := 4) hq_173 (show decode prog_7_method_40_code 24 = .ok (.goto (-20), 3) by decide +kernel) (by decide) ?_
    exact k
set_option maxRecDepth 20000 in
theorem wp_Z_criersNow {X : Nat × (Nat → Int32)} {d : Nat} {G : zG} {I : zI} {res : Option Value × zG × zI}  
    (k : Ev X d 174 4 [.ref 57, .int 0, .int 0] [] G I res) :
    Ev X d 174 0 [.ref 57, zU, zU] [] G I res := by
  refine Ev_iconst (v := 0) hq_174 (show decode prog_7_method_49_code 0 = .ok (.iconst 0, 1) by decide +kernel) (by decide) ?_
  refine Ev_istore_n (lo2 := [.ref 57, .int 0, zU]) hq_174 (show decode prog_7_method_49_code 1 = .ok (.istore_n 1, 1) by decide +kernel) (z_le rfl) rfl ?_
  refine Ev_iconst (v := 0) hq_174 (show decode prog_7_method_49_code 2 = .ok (.iconst 0, 1) by decide +kernel) (by decide) ?_
  refine Ev_istore_n (lo2 := [.ref 57, .int 0, .int 0]) hq_174 (show decode prog_7_method_49_code 3 = .ok (.istore_n 2, 1) by decide +kernel) (z_le rfl) rfl ?_
  exact k
set_option maxRecDepth 20000 in
theorem wp_Z_criersNow_4 {X : Nat × (Nat → Int32)} {d : Nat} {G : zG} {I : zI} {res : Option Value × zG × zI} (x1 : Int32) (x2 : Int32) (hS : SG G) 
    (k : ((I 57 0) ≤ x2 → res = (some (.int x1), G, I)) ∧ (¬ (I 57 0) ≤ x2 → z_inr x2 4 ∧ (((I 76 x2.toNatClampNeg) = 0 → ∀ y4 : Int32, y4 = (x1 ||| 0) → ∀ y5 : Int32, y5 = x2 + 1 → Ev X d 174 4 [.ref 57, .int y4, .int y5] [] G I res) ∧ (¬ (I 76 x2.toNatClampNeg) = 0 → ∀ y6 : Int32, y6 = (x1 ||| (1 <<< (x2 &&& 31))) → ∀ y7 : Int32, y7 = x2 + 1 → Ev X d 174 4 [.ref 57, .int y6, .int y7] [] G I res)))) :
    Ev X d 174 4 [.ref 57, .int x1, .int x2] [] G I res := by
  refine Ev_iload_n hq_174 (show decode prog_7_method_49_code 4 = .ok (.iload_n 2, 1) by decide +kernel) rfl ?_
  refine Ev_aload_n hq_174 (show decode prog_7_method_49_code 5 = .ok (.aload_n 0, 1) by decide +kernel) rfl ?_
  refine Ev_getI hq_174 (show decode prog_7_method_49_code 6 = .ok (.getfield 87, 3) by decide +kernel) rfl (SGn hS (by decide)) (SGk hS rfl) (by decide) rfl ?_
  refine Ev_icmp_ge (tgt := 37) hq_174 (show decode prog_7_method_49_code 9 = .ok (.if_icmp .ge 28, 3) by decide +kernel) (by decide) (fun c1 => ?_) (fun c1 => ?_)
  · have k := k.1 c1
    refine Ev_iload_n hq_174 (show decode prog_7_method_49_code 37 = .ok (.iload_n 1, 1) by decide +kernel) rfl ?_
    exact Ev_iret hq_174 (show decode prog_7_method_49_code 38 = .ok (.ireturn, 1) by decide +kernel) rfl k
  · have k := k.2 c1
    refine Ev_iload_n hq_174 (show decode prog_7_method_49_code 12 = .ok (.iload_n 1, 1) by decide +kernel) rfl ?_
    refine Ev_aload_n hq_174 (show decode prog_7_method_49_code 13 = .ok (.aload_n 0, 1) by decide +kernel) rfl ?_
    refine Ev_getR hq_174 (show decode prog_7_method_49_code 14 = .ok (.getfield 64, 3) by decide +kernel) rfl (SGn hS (by decide)) (SGk hS rfl) (by decide) rfl (SGr hS rfl) ?_
    refine Ev_iload_n hq_174 (show decode prog_7_method_49_code 17 = .ok (.iload_n 2, 1) by decide +kernel) rfl ?_
    obtain ⟨h2, k⟩ := k
    refine Ev_iald hq_174 (show decode prog_7_method_49_code 18 = .ok (.iaload, 1) by decide +kernel) (SGn hS (by decide)) (SGk hS rfl) (SGi hS rfl h2) ?_
    refine Ev_if_eq (tgt := 28) hq_174 (show decode prog_7_method_49_code 19 = .ok (.ifCond .eq 9, 3) by decide +kernel) (by decide) (fun c3 => ?_) (fun c3 => ?_)
    · have k := k.1 c3
      refine Ev_iconst (v := 0) hq_174 (show decode prog_7_method_49_code 28 = .ok (.iconst 0, 1) by decide +kernel) (by decide) ?_
      refine Ev_ior hq_174 (show decode prog_7_method_49_code 29 = .ok (.ior, 1) by decide +kernel) ?_
      obtain ⟨y4, ey4⟩ : ∃ y4 : Int32, y4 = (x1 ||| 0) := ⟨_, rfl⟩
      have k := k y4 ey4
      rw [← ey4]
      refine Ev_istore_n (lo2 := [.ref 57, .int y4, .int x2]) hq_174 (show decode prog_7_method_49_code 30 = .ok (.istore_n 1, 1) by decide +kernel) (z_le rfl) rfl ?_
      obtain ⟨y5, ey5⟩ : ∃ y5 : Int32, y5 = x2 + 1 := ⟨_, rfl⟩
      have k := k y5 ey5
      refine Ev_iinc (v := y5) (lo2 := [.ref 57, .int y4, .int y5]) hq_174 (show decode prog_7_method_49_code 31 = .ok (.iinc 2 1, 3) by decide +kernel) rfl (by rw [ey5]; rfl) rfl ?_
      refine Ev_goto (tgt := 4) hq_174 (show decode prog_7_method_49_code 34 = .ok (.goto (-30), 3) by decide +kernel) (by decide) ?_
      exact k
    · have k := k.2 c3
      refine Ev_iconst (v := 1) hq_174 (show decode prog_7_method_49_code 22 = .ok (.iconst 1, 1) by decide +kernel) (by decide) ?_
      refine Ev_iload_n hq_174 (show decode prog_7_method_49_code 23 = .ok (.iload_n 2, 1) by decide +kernel) rfl ?_
      refine Ev_ishl hq_174 (show decode prog_7_method_49_code 24 = .ok (.ishl, 1) by decide +kernel) ?_
      refine Ev_goto (tgt := 29) hq_174 (show decode prog_7_method_49_code 25 = .ok (.goto 4, 3) by decide +kernel) (by decide) ?_
      refine Ev_ior hq_174 (show decode prog_7_method_49_code 29 = .ok (.ior, 1) by decide +kernel) ?_
      obtain ⟨y6, ey6⟩ : ∃ y6 : Int32, y6 = (x1 ||| (1 <<< (x2 &&& 31))) := ⟨_, rfl⟩
      have k := k y6 ey6
      rw [← ey6]
      refine Ev_istore_n (lo2 := [.ref 57, .int y6, .int x2]) hq_174 (show decode prog_7_method_49_code 30 = .ok (.istore_n 1, 1) by decide +kernel) (z_le rfl) rfl ?_
      obtain ⟨y7, ey7⟩ : ∃ y7 : Int32, y7 = x2 + 1 := ⟨_, rfl⟩
      have k := k y7 ey7
      refine Ev_iinc (v := y7) (lo2 := [.ref 57, .int y6, .int y7]) hq_174 (show decode prog_7_method_49_code 31 = .ok (.iinc 2 1, 3) by decide +kernel) rfl (by rw [ey7]; rfl) rfl ?_
      refine Ev_goto (tgt := 4) hq_174 (show decode prog_7_method_49_code 34 = .ok (.goto (-30), 3) by decide +kernel) (by decide) ?_
      exact k
set_option maxRecDepth 20000 in
theorem wp_Z_loudest {X : Nat × (Nat → Int32)} {d : Nat} {G : zG} {I : zI} {res : Option Value × zG × zI}  
    (k : Ev X d 175 6 [.ref 57, .int (-1), .int 0, .int 0, zU, zU] [] G I res) :
    Ev X d 175 0 [.ref 57, zU, zU, zU, zU, zU] [] G I res := by
  refine Ev_iconst (v := (-1)) hq_175 (show decode prog_7_method_50_code 0 = .ok (.iconst (-1), 1) by decide +kernel) (by decide) ?_
  refine Ev_istore_n (lo2 := [.ref 57, .int (-1), zU, zU, zU, zU]) hq_175 (show decode prog_7_method_50_code 1 = .ok (.istore_n 1, 1) by decide +kernel) (z_le rfl) rfl ?_
  refine Ev_iconst (v := 0) hq_175 (show decode prog_7_method_50_code 2 = .ok (.iconst 0, 1) by decide +kernel) (by decide) ?_
  refine Ev_istore_n (lo2 := [.ref 57, .int (-1), .int 0, zU, zU, zU]) hq_175 (show decode prog_7_method_50_code 3 = .ok (.istore_n 2, 1) by decide +kernel) (z_le rfl) rfl ?_
  refine Ev_iconst (v := 0) hq_175 (show decode prog_7_method_50_code 4 = .ok (.iconst 0, 1) by decide +kernel) (by decide) ?_
  refine Ev_istore_n (lo2 := [.ref 57, .int (-1), .int 0, .int 0, zU, zU]) hq_175 (show decode prog_7_method_50_code 5 = .ok (.istore_n 3, 1) by decide +kernel) (z_le rfl) rfl ?_
  exact k
set_option maxRecDepth 20000 in
theorem wp_Z_loudest_6 {X : Nat × (Nat → Int32)} {d : Nat} {G : zG} {I : zI} {res : Option Value × zG × zI} (x1 : Int32) (x2 : Int32) (x3 : Int32) (v4 : Value) (cv4 : v4.category = 1) (v5 : Value) (cv5 : v5.category = 1) 
    (k : (30 ≤ x3 → res = (some (.int x1), G, I)) ∧ (¬ 30 ≤ x3 → Ev X d 175 18 [.ref 57, .int x1, .int x2, .int x3, .int 0, .int 0] [] G I res)) :
    Ev X d 175 6 [.ref 57, .int x1, .int x2, .int x3, v4, v5] [] G I res := by
  refine Ev_iload_n hq_175 (show decode prog_7_method_50_code 6 = .ok (.iload_n 3, 1) by decide +kernel) rfl ?_
  refine Ev_bipush (v := 30) hq_175 (show decode prog_7_method_50_code 7 = .ok (.bipush 30, 2) by decide +kernel) (by decide) ?_
  refine Ev_icmp_ge (tgt := 80) hq_175 (show decode prog_7_method_50_code 9 = .ok (.if_icmp .ge 71, 3) by decide +kernel) (by decide) (fun c1 => ?_) (fun c1 => ?_)
  · have k := k.1 c1
    refine Ev_iload_n hq_175 (show decode prog_7_method_50_code 80 = .ok (.iload_n 1, 1) by decide +kernel) rfl ?_
    exact Ev_iret hq_175 (show decode prog_7_method_50_code 81 = .ok (.ireturn, 1) by decide +kernel) rfl k
  · have k := k.2 c1
    refine Ev_iconst (v := 0) hq_175 (show decode prog_7_method_50_code 12 = .ok (.iconst 0, 1) by decide +kernel) (by decide) ?_
    refine Ev_istore (lo2 := [.ref 57, .int x1, .int x2, .int x3, .int 0, v5]) hq_175 (show decode prog_7_method_50_code 13 = .ok (.istore 4, 2) by decide +kernel) (z_le rfl) rfl ?_
    refine Ev_iconst (v := 0) hq_175 (show decode prog_7_method_50_code 15 = .ok (.iconst 0, 1) by decide +kernel) (by decide) ?_
    refine Ev_istore (lo2 := [.ref 57, .int x1, .int x2, .int x3, .int 0, .int 0]) hq_175 (show decode prog_7_method_50_code 16 = .ok (.istore 5, 2) by decide +kernel) (z_le rfl) rfl ?_
    exact k
set_option maxRecDepth 20000 in
theorem wp_Z_loudest_18 {X : Nat × (Nat → Int32)} {d : Nat} {G : zG} {I : zI} {res : Option Value × zG × zI} (x1 : Int32) (x2 : Int32) (x3 : Int32) (x4 : Int32) (x5 : Int32) (hS : SG G) 
    (k : ((I 57 0) ≤ x5 → (x4 ≤ x2 → (x4 ≤ x2 → ∀ y4 : Int32, y4 = x3 + 1 → Ev X d 175 6 [.ref 57, .int x1, .int x2, .int y4, .int x4, .int x5] [] G I res) ∧ (¬ x4 ≤ x2 → ∀ y5 : Int32, y5 = x3 + 1 → Ev X d 175 6 [.ref 57, .int x1, .int x4, .int y5, .int x4, .int x5] [] G I res)) ∧ (¬ x4 ≤ x2 → (x4 ≤ x2 → ∀ y7 : Int32, y7 = x3 + 1 → Ev X d 175 6 [.ref 57, .int x3, .int x2, .int y7, .int x4, .int x5] [] G I res) ∧ (¬ x4 ≤ x2 → ∀ y8 : Int32, y8 = x3 + 1 → Ev X d 175 6 [.ref 57, .int x3, .int x4, .int y8, .int x4, .int x5] [] G I res))) ∧ (¬ (I 57 0) ≤ x5 → z_inr x5 4 ∧ (∀ y10 : Int32, y10 = (x4 + (((I 76 x5.toNatClampNeg) >>> (x3 &&& 31)) &&& 1)) → ∀ y11 : Int32, y11 = x5 + 1 → Ev X d 175 18 [.ref 57, .int x1, .int x2, .int x3, .int y10, .int y11] [] G I res))) :
    Ev X d 175 18 [.ref 57, .int x1, .int x2, .int x3, .int x4, .int x5] [] G I res := by
  refine Ev_iload hq_175 (show decode prog_7_method_50_code 18 = .ok (.iload 5, 2) by decide +kernel) rfl ?_
  refine Ev_aload_n hq_175 (show decode prog_7_method_50_code 20 = .ok (.aload_n 0, 1) by decide +kernel) rfl ?_
  refine Ev_getI hq_175 (show decode prog_7_method_50_code 21 = .ok (.getfield 87, 3) by decide +kernel) rfl (SGn hS (by decide)) (SGk hS rfl) (by decide) rfl ?_
  refine Ev_icmp_ge (tgt := 49) hq_175 (show decode prog_7_method_50_code 24 = .ok (.if_icmp .ge 25, 3) by decide +kernel) (by decide) (fun c1 => ?_) (fun c1 => ?_)
  · have k := k.1 c1
    refine Ev_iload hq_175 (show decode prog_7_method_50_code 49 = .ok (.iload 4, 2) by decide +kernel) rfl ?_
    refine Ev_iload_n hq_175 (show decode prog_7_method_50_code 51 = .ok (.iload_n 2, 1) by decide +kernel) rfl ?_
    refine Ev_icmp_le (tgt := 59) hq_175 (show decode prog_7_method_50_code 52 = .ok (.if_icmp .le 7, 3) by decide +kernel) (by decide) (fun c2 => ?_) (fun c2 => ?_)
    · have k := k.1 c2
      refine Ev_iload_n hq_175 (show decode prog_7_method_50_code 59 = .ok (.iload_n 1, 1) by decide +kernel) rfl ?_
      refine Ev_istore_n (lo2 := [.ref 57, .int x1, .int x2, .int x3, .int x4, .int x5]) hq_175 (show decode prog_7_method_50_code 60 = .ok (.istore_n 1, 1) by decide +kernel) (z_le rfl) rfl ?_
      refine Ev_iload hq_175 (show decode prog_7_method_50_code 61 = .ok (.iload 4, 2) by decide +kernel) rfl ?_
      refine Ev_iload_n hq_175 (show decode prog_7_method_50_code 63 = .ok (.iload_n 2, 1) by decide +kernel) rfl ?_
      refine Ev_icmp_le (tgt := 72) hq_175 (show decode prog_7_method_50_code 64 = .ok (.if_icmp .le 8, 3) by decide +kernel) (by decide) (fun c3 => ?_) (fun c3 => ?_)
      · have k := k.1 c3
        refine Ev_iload_n hq_175 (show decode prog_7_method_50_code 72 = .ok (.iload_n 2, 1) by decide +kernel) rfl ?_
        refine Ev_istore_n (lo2 := [.ref 57, .int x1, .int x2, .int x3, .int x4, .int x5]) hq_175 (show decode prog_7_method_50_code 73 = .ok (.istore_n 2, 1) by decide +kernel) (z_le rfl) rfl ?_
        obtain ⟨y4, ey4⟩ : ∃ y4 : Int32, y4 = x3 + 1 := ⟨_, rfl⟩
        have k := k y4 ey4
        refine Ev_iinc (v := y4) (lo2 := [.ref 57, .int x1, .int x2, .int y4, .int x4, .int x5]) hq_175 (show decode prog_7_method_50_code 74 = .ok (.iinc 3 1, 3) by decide +kernel) rfl (by rw [ey4]; rfl) rfl ?_
        refine Ev_goto (tgt := 6) hq_175 (show decode prog_7_method_50_code 77 = .ok (.goto (-71), 3) by decide +kernel) (by decide) ?_
        exact k
      · have k := k.2 c3
        refine Ev_iload hq_175 (show decode prog_7_method_50_code 67 = .ok (.iload 4, 2) by decide +kernel) rfl ?_
        refine Ev_goto (tgt := 73) hq_175 (show decode prog_7_method_50_code 69 = .ok (.goto 4, 3) by decide +kernel) (by decide) ?_
        refine Ev_istore_n (lo2 := [.ref 57, .int x1, .int x4, .int x3, .int x4, .int x5]) hq_175 (show decode prog_7_method_50_code 73 = .ok (.istore_n 2, 1) by decide +kernel) (z_le rfl) rfl ?_
        obtain ⟨y5, ey5⟩ : ∃ y5 : Int32, y5 = x3 + 1 := ⟨_, rfl⟩
        have k := k y5 ey5
        refine Ev_iinc (v := y5) (lo2 := [.ref 57, .int x1, .int x4, .int y5, .int x4, .int x5]) hq_175 (show decode prog_7_method_50_code 74 = .ok (.iinc 3 1, 3) by decide +kernel) rfl (by rw [ey5]; rfl) rfl ?_
        refine Ev_goto (tgt := 6) hq_175 (show decode prog_7_method_50_code 77 = .ok (.goto (-71), 3) by decide +kernel) (by decide) ?_
        exact k
    · have k := k.2 c2
      refine Ev_iload_n hq_175 (show decode prog_7_method_50_code 55 = .ok (.iload_n 3, 1) by decide +kernel) rfl ?_
      refine Ev_goto (tgt := 60) hq_175 (show decode prog_7_method_50_code 56 = .ok (.goto 4, 3) by decide +kernel) (by decide) ?_
      refine Ev_istore_n (lo2 := [.ref 57, .int x3, .int x2, .int x3, .int x4, .int x5]) hq_175 (show decode prog_7_method_50_code 60 = .ok (.istore_n 1, 1) by decide +kernel) (z_le rfl) rfl ?_
      refine Ev_iload hq_175 (show decode prog_7_method_50_code 61 = .ok (.iload 4, 2) by decide +kernel) rfl ?_
      refine Ev_iload_n hq_175 (show decode prog_7_method_50_code 63 = .ok (.iload_n 2, 1) by decide +kernel) rfl ?_
      refine Ev_icmp_le (tgt := 72) hq_175 (show decode prog_7_method_50_code 64 = .ok (.if_icmp .le 8, 3) by decide +kernel) (by decide) (fun c6 => ?_) (fun c6 => ?_)
      · have k := k.1 c6
        refine Ev_iload_n hq_175 (show decode prog_7_method_50_code 72 = .ok (.iload_n 2, 1) by decide +kernel) rfl ?_
        refine Ev_istore_n (lo2 := [.ref 57, .int x3, .int x2, .int x3, .int x4, .int x5]) hq_175 (show decode prog_7_method_50_code 73 = .ok (.istore_n 2, 1) by decide +kernel) (z_le rfl) rfl ?_
        obtain ⟨y7, ey7⟩ : ∃ y7 : Int32, y7 = x3 + 1 := ⟨_, rfl⟩
        have k := k y7 ey7
        refine Ev_iinc (v := y7) (lo2 := [.ref 57, .int x3, .int x2, .int y7, .int x4, .int x5]) hq_175 (show decode prog_7_method_50_code 74 = .ok (.iinc 3 1, 3) by decide +kernel) rfl (by rw [ey7]; rfl) rfl ?_
        refine Ev_goto (tgt := 6) hq_175 (show decode prog_7_method_50_code 77 = .ok (.goto (-71), 3) by decide +kernel) (by decide) ?_
        exact k
      · have k := k.2 c6
        refine Ev_iload hq_175 (show decode prog_7_method_50_code 67 = .ok (.iload 4, 2) by decide +kernel) rfl ?_
        refine Ev_goto (tgt := 73) hq_175 (show decode prog_7_method_50_code 69 = .ok (.goto 4, 3) by decide +kernel) (by decide) ?_
        refine Ev_istore_n (lo2 := [.ref 57, .int x3, .int x4, .int x3, .int x4, .int x5]) hq_175 (show decode prog_7_method_50_code 73 = .ok (.istore_n 2, 1) by decide +kernel) (z_le rfl) rfl ?_
        obtain ⟨y8, ey8⟩ : ∃ y8 : Int32, y8 = x3 + 1 := ⟨_, rfl⟩
        have k := k y8 ey8
        refine Ev_iinc (v := y8) (lo2 := [.ref 57, .int x3, .int x4, .int y8, .int x4, .int x5]) hq_175 (show decode prog_7_method_50_code 74 = .ok (.iinc 3 1, 3) by decide +kernel) rfl (by rw [ey8]; rfl) rfl ?_
        refine Ev_goto (tgt := 6) hq_175 (show decode prog_7_method_50_code 77 = .ok (.goto (-71), 3) by decide +kernel) (by decide) ?_
        exact k
  · have k := k.2 c1
    refine Ev_iload hq_175 (show decode prog_7_method_50_code 27 = .ok (.iload 4, 2) by decide +kernel) rfl ?_
    refine Ev_aload_n hq_175 (show decode prog_7_method_50_code 29 = .ok (.aload_n 0, 1) by decide +kernel) rfl ?_
    refine Ev_getR hq_175 (show decode prog_7_method_50_code 30 = .ok (.getfield 64, 3) by decide +kernel) rfl (SGn hS (by decide)) (SGk hS rfl) (by decide) rfl (SGr hS rfl) ?_
    refine Ev_iload hq_175 (show decode prog_7_method_50_code 33 = .ok (.iload 5, 2) by decide +kernel) rfl ?_
    obtain ⟨h9, k⟩ := k
    refine Ev_iald hq_175 (show decode prog_7_method_50_code 35 = .ok (.iaload, 1) by decide +kernel) (SGn hS (by decide)) (SGk hS rfl) (SGi hS rfl h9) ?_
    refine Ev_iload_n hq_175 (show decode prog_7_method_50_code 36 = .ok (.iload_n 3, 1) by decide +kernel) rfl ?_
    refine Ev_ishr hq_175 (show decode prog_7_method_50_code 37 = .ok (.ishr, 1) by decide +kernel) ?_
    refine Ev_iconst (v := 1) hq_175 (show decode prog_7_method_50_code 38 = .ok (.iconst 1, 1) by decide +kernel) (by decide) ?_
    refine Ev_iand hq_175 (show decode prog_7_method_50_code 39 = .ok (.iand, 1) by decide +kernel) ?_
    refine Ev_iadd hq_175 (show decode prog_7_method_50_code 40 = .ok (.iadd, 1) by decide +kernel) ?_
    obtain ⟨y10, ey10⟩ : ∃ y10 : Int32, y10 = (x4 + (((I 76 x5.toNatClampNeg) >>> (x3 &&& 31)) &&& 1)) := ⟨_, rfl⟩
    have k := k y10 ey10
    rw [← ey10]
    refine Ev_istore (lo2 := [.ref 57, .int x1, .int x2, .int x3, .int y10, .int x5]) hq_175 (show decode prog_7_method_50_code 41 = .ok (.istore 4, 2) by decide +kernel) (z_le rfl) rfl ?_
    obtain ⟨y11, ey11⟩ : ∃ y11 : Int32, y11 = x5 + 1 := ⟨_, rfl⟩
    have k := k y11 ey11
    refine Ev_iinc (v := y11) (lo2 := [.ref 57, .int x1, .int x2, .int x3, .int y10, .int y11]) hq_175 (show decode prog_7_method_50_code 43 = .ok (.iinc 5 1, 3) by decide +kernel) rfl (by rw [ey11]; rfl) rfl ?_
    refine Ev_goto (tgt := 18) hq_175 (show decode prog_7_method_50_code 46 = .ok (.goto (-28), 3) by decide +kernel) (by decide) ?_
    exact k
set_option maxRecDepth 20000 in
theorem wp_Z_house {X : Nat × (Nat → Int32)} {d : Nat} {G : zG} {I : zI} {res : Option Value × zG × zI} (x1 : Int32) (hS : SG G) 
    (k : (¬ (f_Z_in x1 0 2) = 0 → ∃ (I2 : zI), Cv X d 159 [.ref 57, .int 30] G I (none, G, I2) ∧ ((¬ x1 = 0 → (¬ x1 = 1 → ∃ (r8 : Int32) (I6 : zI), Cv X d 175 [.ref 57] G I2 (some (.int r8), G, I6) ∧ (res = (some (.int r8), G, I6))) ∧ (x1 = 1 → ∃ (r11 : Int32) (I9 : zI), Cv X d 174 [.ref 57] G I2 (some (.int r11), G, I9) ∧ (res = (some (.int r11), G, I9)))) ∧ (x1 = 0 → ∃ (r14 : Int32) (I12 : zI), Cv X d 173 [.ref 57] G I2 (some (.int r14), G, I12) ∧ (res = (some (.int r14), G, I12))))) ∧ ((f_Z_in x1 0 2) = 0 → res = (some (.int (-2)), G, I))) :
    Ev X (d + 1) 172 0 [.ref 57, .int x1] [] G I res := by
  refine Ev_iload_n hq_172 (show decode prog_7_method_51_code 0 = .ok (.iload_n 1, 1) by decide +kernel) rfl ?_
  refine Ev_iconst (v := 0) hq_172 (show decode prog_7_method_51_code 1 = .ok (.iconst 0, 1) by decide +kernel) (by decide) ?_
  refine Ev_iconst (v := 2) hq_172 (show decode prog_7_method_51_code 2 = .ok (.iconst 2, 1) by decide +kernel) (by decide) ?_
  refine Ev_stat (as := [.int x1, .int 0, .int 2]) hq_172 (show decode prog_7_method_51_code 3 = .ok (.invokestatic 90, 3) by decide +kernel) rfl (Or.inl rfl) hq_131 rfl (z_le rfl) (c_Z_in x1 0 2) ?_
  refine Ev_if_ne (tgt := 12) hq_172 (show decode prog_7_method_51_code 6 = .ok (.ifCond .ne 6, 3) by decide +kernel) (by decide) (fun c1 => ?_) (fun c1 => ?_)
  · have k := k.1 c1
    refine Ev_aload_n hq_172 (show decode prog_7_method_51_code 12 = .ok (.aload_n 0, 1) by decide +kernel) rfl ?_
    refine Ev_bipush (v := 30) hq_172 (show decode prog_7_method_51_code 13 = .ok (.bipush 30, 2) by decide +kernel) (by decide) ?_
    obtain ⟨I2, h3, k⟩ := k
    refine Ev_virt (as := [.int 30]) hq_172 (show decode prog_7_method_51_code 15 = .ok (.invokevirtual 205, 3) by decide +kernel) rfl hq_159 rfl (z_le rfl) ⟨(SGn hS (by decide)), (SGk hS rfl), by decide⟩ h3 ?_
    refine Ev_iload_n hq_172 (show decode prog_7_method_51_code 18 = .ok (.iload_n 1, 1) by decide +kernel) rfl ?_
    refine Ev_if_ne (tgt := 29) hq_172 (show decode prog_7_method_51_code 19 = .ok (.ifCond .ne 10, 3) by decide +kernel) (by decide) (fun c4 => ?_) (fun c4 => ?_)
    · have k := k.1 c4
      refine Ev_iload_n hq_172 (show decode prog_7_method_51_code 29 = .ok (.iload_n 1, 1) by decide +kernel) rfl ?_
      refine Ev_iconst (v := 1) hq_172 (show decode prog_7_method_51_code 30 = .ok (.iconst 1, 1) by decide +kernel) (by decide) ?_
      refine Ev_icmp_ne (tgt := 41) hq_172 (show decode prog_7_method_51_code 31 = .ok (.if_icmp .ne 10, 3) by decide +kernel) (by decide) (fun c5 => ?_) (fun c5 => ?_)
      · have k := k.1 c5
        refine Ev_aload_n hq_172 (show decode prog_7_method_51_code 41 = .ok (.aload_n 0, 1) by decide +kernel) rfl ?_
        obtain ⟨r8, I6, h7, k⟩ := k
        refine Ev_virt (as := []) hq_172 (show decode prog_7_method_51_code 42 = .ok (.invokevirtual 229, 3) by decide +kernel) rfl hq_175 rfl (z_le rfl) ⟨(SGn hS (by decide)), (SGk hS rfl), by decide⟩ h7 ?_
        exact Ev_iret hq_172 (show decode prog_7_method_51_code 45 = .ok (.ireturn, 1) by decide +kernel) rfl k
      · have k := k.2 (Classical.not_not.mp c5)
        refine Ev_aload_n hq_172 (show decode prog_7_method_51_code 34 = .ok (.aload_n 0, 1) by decide +kernel) rfl ?_
        obtain ⟨r11, I9, h10, k⟩ := k
        refine Ev_virt (as := []) hq_172 (show decode prog_7_method_51_code 35 = .ok (.invokevirtual 226, 3) by decide +kernel) rfl hq_174 rfl (z_le rfl) ⟨(SGn hS (by decide)), (SGk hS rfl), by decide⟩ h10 ?_
        refine Ev_goto (tgt := 45) hq_172 (show decode prog_7_method_51_code 38 = .ok (.goto 7, 3) by decide +kernel) (by decide) ?_
        exact Ev_iret hq_172 (show decode prog_7_method_51_code 45 = .ok (.ireturn, 1) by decide +kernel) rfl k
    · have k := k.2 (Classical.not_not.mp c4)
      refine Ev_aload_n hq_172 (show decode prog_7_method_51_code 22 = .ok (.aload_n 0, 1) by decide +kernel) rfl ?_
      obtain ⟨r14, I12, h13, k⟩ := k
      refine Ev_virt (as := []) hq_172 (show decode prog_7_method_51_code 23 = .ok (.invokevirtual 208, 3) by decide +kernel) rfl hq_173 rfl (z_le rfl) ⟨(SGn hS (by decide)), (SGk hS rfl), by decide⟩ h13 ?_
      refine Ev_goto (tgt := 45) hq_172 (show decode prog_7_method_51_code 26 = .ok (.goto 19, 3) by decide +kernel) (by decide) ?_
      exact Ev_iret hq_172 (show decode prog_7_method_51_code 45 = .ok (.ireturn, 1) by decide +kernel) rfl k
  · have k := k.2 (Classical.not_not.mp c1)
    refine Ev_bipush (v := (-2)) hq_172 (show decode prog_7_method_51_code 9 = .ok (.bipush (-2), 2) by decide +kernel) (by decide) ?_
    exact Ev_iret hq_172 (show decode prog_7_method_51_code 11 = .ok (.ireturn, 1) by decide +kernel) rfl k
set_option maxRecDepth 20000 in
theorem wp_Z_pass {X : Nat × (Nat → Int32)} {d : Nat} {G : zG} {I : zI} {res : Option Value × zG × zI} (x1 : Int32) (hS : SG G) 
    (k : (¬ (f_Z_in x1 0 30) = 0 → ∃ (I2 : zI), Cv X d 159 [.ref 57, .int x1] G I (none, G, I2) ∧ (Ev X (d + 1) 176 20 [.ref 57, .int x1, .int 0] [] G I2 res)) ∧ ((f_Z_in x1 0 30) = 0 → res = (some (.int (-2)), G, I))) :
    Ev X (d + 1) 176 0 [.ref 57, .int x1, zU] [] G I res := by
  refine Ev_iload_n hq_176 (show decode prog_7_method_52_code 0 = .ok (.iload_n 1, 1) by decide +kernel) rfl ?_
  refine Ev_iconst (v := 0) hq_176 (show decode prog_7_method_52_code 1 = .ok (.iconst 0, 1) by decide +kernel) (by decide) ?_
  refine Ev_bipush (v := 30) hq_176 (show decode prog_7_method_52_code 2 = .ok (.bipush 30, 2) by decide +kernel) (by decide) ?_
  refine Ev_stat (as := [.int x1, .int 0, .int 30]) hq_176 (show decode prog_7_method_52_code 4 = .ok (.invokestatic 90, 3) by decide +kernel) rfl (Or.inl rfl) hq_131 rfl (z_le rfl) (c_Z_in x1 0 30) ?_
  refine Ev_if_ne (tgt := 13) hq_176 (show decode prog_7_method_52_code 7 = .ok (.ifCond .ne 6, 3) by decide +kernel) (by decide) (fun c1 => ?_) (fun c1 => ?_)
  · have k := k.1 c1
    refine Ev_aload_n hq_176 (show decode prog_7_method_52_code 13 = .ok (.aload_n 0, 1) by decide +kernel) rfl ?_
    refine Ev_iload_n hq_176 (show decode prog_7_method_52_code 14 = .ok (.iload_n 1, 1) by decide +kernel) rfl ?_
    obtain ⟨I2, h3, k⟩ := k
    refine Ev_virt (as := [.int x1]) hq_176 (show decode prog_7_method_52_code 15 = .ok (.invokevirtual 205, 3) by decide +kernel) rfl hq_159 rfl (z_le rfl) ⟨(SGn hS (by decide)), (SGk hS rfl), by decide⟩ h3 ?_
    refine Ev_iconst (v := 0) hq_176 (show decode prog_7_method_52_code 18 = .ok (.iconst 0, 1) by decide +kernel) (by decide) ?_
    refine Ev_istore_n (lo2 := [.ref 57, .int x1, .int 0]) hq_176 (show decode prog_7_method_52_code 19 = .ok (.istore_n 2, 1) by decide +kernel) (z_le rfl) rfl ?_
    exact k
  · have k := k.2 (Classical.not_not.mp c1)
    refine Ev_bipush (v := (-2)) hq_176 (show decode prog_7_method_52_code 10 = .ok (.bipush (-2), 2) by decide +kernel) (by decide) ?_
    exact Ev_iret hq_176 (show decode prog_7_method_52_code 12 = .ok (.ireturn, 1) by decide +kernel) rfl k
set_option maxRecDepth 20000 in
theorem wp_Z_pass_20 {X : Nat × (Nat → Int32)} {d : Nat} {G : zG} {I : zI} {res : Option Value × zG × zI} (x1 : Int32) (x2 : Int32) (hS : SG G) 
    (k : ((I 57 0) ≤ x2 → ∃ (r4 : Int32) (I2 : zI), Cv X d 173 [.ref 57] G I (some (.int r4), G, I2) ∧ (res = (some (.int r4), G, I2))) ∧ (¬ (I 57 0) ≤ x2 → z_inr ((4 * x1) + x2) 124 ∧ (z_inr ((5 * x2) + 2) 20 ∧ (∀ I7 : zI, I7 = z_up I 60 ((5 * x2) + 2).toNatClampNeg (I 73 ((4 * x1) + x2).toNatClampNeg) → ∀ y8 : Int32, y8 = x2 + 1 → Ev X (d + 1) 176 20 [.ref 57, .int x1, .int y8] [] G I7 res)))) :
    Ev X (d + 1) 176 20 [.ref 57, .int x1, .int x2] [] G I res := by
  refine Ev_iload_n hq_176 (show decode prog_7_method_52_code 20 = .ok (.iload_n 2, 1) by decide +kernel) rfl ?_
  refine Ev_aload_n hq_176 (show decode prog_7_method_52_code 21 = .ok (.aload_n 0, 1) by decide +kernel) rfl ?_
  refine Ev_getI hq_176 (show decode prog_7_method_52_code 22 = .ok (.getfield 87, 3) by decide +kernel) rfl (SGn hS (by decide)) (SGk hS rfl) (by decide) rfl ?_
  refine Ev_icmp_ge (tgt := 54) hq_176 (show decode prog_7_method_52_code 25 = .ok (.if_icmp .ge 29, 3) by decide +kernel) (by decide) (fun c1 => ?_) (fun c1 => ?_)
  · have k := k.1 c1
    refine Ev_aload_n hq_176 (show decode prog_7_method_52_code 54 = .ok (.aload_n 0, 1) by decide +kernel) rfl ?_
    obtain ⟨r4, I2, h3, k⟩ := k
    refine Ev_virt (as := []) hq_176 (show decode prog_7_method_52_code 55 = .ok (.invokevirtual 208, 3) by decide +kernel) rfl hq_173 rfl (z_le rfl) ⟨(SGn hS (by decide)), (SGk hS rfl), by decide⟩ h3 ?_
    exact Ev_iret hq_176 (show decode prog_7_method_52_code 58 = .ok (.ireturn, 1) by decide +kernel) rfl k
  · have k := k.2 c1
    refine Ev_aload_n hq_176 (show decode prog_7_method_52_code 28 = .ok (.aload_n 0, 1) by decide +kernel) rfl ?_
    refine Ev_getR hq_176 (show decode prog_7_method_52_code 29 = .ok (.getfield 16, 3) by decide +kernel) rfl (SGn hS (by decide)) (SGk hS rfl) (by decide) rfl (SGr hS rfl) ?_
    refine Ev_iconst (v := 5) hq_176 (show decode prog_7_method_52_code 32 = .ok (.iconst 5, 1) by decide +kernel) (by decide) ?_
    refine Ev_iload_n hq_176 (show decode prog_7_method_52_code 33 = .ok (.iload_n 2, 1) by decide +kernel) rfl ?_
    refine Ev_imul hq_176 (show decode prog_7_method_52_code 34 = .ok (.imul, 1) by decide +kernel) ?_
    refine Ev_iconst (v := 2) hq_176 (show decode prog_7_method_52_code 35 = .ok (.iconst 2, 1) by decide +kernel) (by decide) ?_
    refine Ev_iadd hq_176 (show decode prog_7_method_52_code 36 = .ok (.iadd, 1) by decide +kernel) ?_
    refine Ev_aload_n hq_176 (show decode prog_7_method_52_code 37 = .ok (.aload_n 0, 1) by decide +kernel) rfl ?_
    refine Ev_getR hq_176 (show decode prog_7_method_52_code 38 = .ok (.getfield 55, 3) by decide +kernel) rfl (SGn hS (by decide)) (SGk hS rfl) (by decide) rfl (SGr hS rfl) ?_
    refine Ev_iconst (v := 4) hq_176 (show decode prog_7_method_52_code 41 = .ok (.iconst 4, 1) by decide +kernel) (by decide) ?_
    refine Ev_iload_n hq_176 (show decode prog_7_method_52_code 42 = .ok (.iload_n 1, 1) by decide +kernel) rfl ?_
    refine Ev_imul hq_176 (show decode prog_7_method_52_code 43 = .ok (.imul, 1) by decide +kernel) ?_
    refine Ev_iload_n hq_176 (show decode prog_7_method_52_code 44 = .ok (.iload_n 2, 1) by decide +kernel) rfl ?_
    refine Ev_iadd hq_176 (show decode prog_7_method_52_code 45 = .ok (.iadd, 1) by decide +kernel) ?_
    obtain ⟨h5, k⟩ := k
    refine Ev_iald hq_176 (show decode prog_7_method_52_code 46 = .ok (.iaload, 1) by decide +kernel) (SGn hS (by decide)) (SGk hS rfl) (SGi hS rfl h5) ?_
    obtain ⟨h6, k⟩ := k
    refine Ev_iast hq_176 (show decode prog_7_method_52_code 47 = .ok (.iastore, 1) by decide +kernel) (SGn hS (by decide)) (SGk hS rfl) (SGi hS rfl h6) ?_
    obtain ⟨I7, eI7⟩ : ∃ I7 : zI, I7 = z_up I 60 ((5 * x2) + 2).toNatClampNeg (I 73 ((4 * x1) + x2).toNatClampNeg) := ⟨_, rfl⟩
    have k := k I7 eI7
    rw [← eI7]
    obtain ⟨y8, ey8⟩ : ∃ y8 : Int32, y8 = x2 + 1 := ⟨_, rfl⟩
    have k := k y8 ey8
    refine Ev_iinc (v := y8) (lo2 := [.ref 57, .int x1, .int y8]) hq_176 (show decode prog_7_method_52_code 48 = .ok (.iinc 2 1, 3) by decide +kernel) rfl (by rw [ey8]; rfl) rfl ?_
    refine Ev_goto (tgt := 20) hq_176 (show decode prog_7_method_52_code 51 = .ok (.goto (-31), 3) by decide +kernel) (by decide) ?_
    exact k
set_option maxRecDepth 20000 in
theorem wp_Z_costOf {X : Nat × (Nat → Int32)} {d : Nat} {G : zG} {I : zI} {res : Option Value × zG × zI} (x1 : Int32) (hS : SG G) 
    (k : ∃ (I1 : zI), Cv X d 159 [.ref 57, .int 30] G I (none, G, I1) ∧ (z_inr x1 4 ∧ (res = (some (.int (I1 75 x1.toNatClampNeg)), G, I1)))) :
    Ev X (d + 1) 179 0 [.ref 57, .int x1] [] G I res := by
  refine Ev_aload_n hq_179 (show decode prog_7_method_39_code 0 = .ok (.aload_n 0, 1) by decide +kernel) rfl ?_
  refine Ev_bipush (v := 30) hq_179 (show decode prog_7_method_39_code 1 = .ok (.bipush 30, 2) by decide +kernel) (by decide) ?_
  obtain ⟨I1, h2, k⟩ := k
  refine Ev_virt (as := [.int 30]) hq_179 (show decode prog_7_method_39_code 3 = .ok (.invokevirtual 205, 3) by decide +kernel) rfl hq_159 rfl (z_le rfl) ⟨(SGn hS (by decide)), (SGk hS rfl), by decide⟩ h2 ?_
  refine Ev_aload_n hq_179 (show decode prog_7_method_39_code 6 = .ok (.aload_n 0, 1) by decide +kernel) rfl ?_
  refine Ev_getR hq_179 (show decode prog_7_method_39_code 7 = .ok (.getfield 61, 3) by decide +kernel) rfl (SGn hS (by decide)) (SGk hS rfl) (by decide) rfl (SGr hS rfl) ?_
  refine Ev_iload_n hq_179 (show decode prog_7_method_39_code 10 = .ok (.iload_n 1, 1) by decide +kernel) rfl ?_
  obtain ⟨h3, k⟩ := k
  refine Ev_iald hq_179 (show decode prog_7_method_39_code 11 = .ok (.iaload, 1) by decide +kernel) (SGn hS (by decide)) (SGk hS rfl) (SGi hS rfl h3) ?_
  exact Ev_iret hq_179 (show decode prog_7_method_39_code 12 = .ok (.ireturn, 1) by decide +kernel) rfl k
set_option maxRecDepth 20000 in
theorem wp_Z_findsBest {X : Nat × (Nat → Int32)} {d : Nat} {G : zG} {I : zI} {res : Option Value × zG × zI} (x1 : Int32) (hS : SG G) 
    (k : z_inr ((5 * x1) + 3) 20 ∧ (∀ y2 : Int32, y2 = (I 60 ((5 * x1) + 3).toNatClampNeg) → (∀ I3 : zI, I3 = z_up I 57 35 (-1) → Ev X d 178 18 [.ref 57, .int x1, .int y2, .int 0, zU, zU] [] G I3 res))) :
    Ev X d 178 0 [.ref 57, .int x1, zU, zU, zU, zU] [] G I res := by
  refine Ev_aload_n hq_178 (show decode prog_7_method_53_code 0 = .ok (.aload_n 0, 1) by decide +kernel) rfl ?_
  refine Ev_getR hq_178 (show decode prog_7_method_53_code 1 = .ok (.getfield 16, 3) by decide +kernel) rfl (SGn hS (by decide)) (SGk hS rfl) (by decide) rfl (SGr hS rfl) ?_
  refine Ev_iconst (v := 5) hq_178 (show decode prog_7_method_53_code 4 = .ok (.iconst 5, 1) by decide +kernel) (by decide) ?_
  refine Ev_iload_n hq_178 (show decode prog_7_method_53_code 5 = .ok (.iload_n 1, 1) by decide +kernel) rfl ?_
  refine Ev_imul hq_178 (show decode prog_7_method_53_code 6 = .ok (.imul, 1) by decide +kernel) ?_
  refine Ev_iconst (v := 3) hq_178 (show decode prog_7_method_53_code 7 = .ok (.iconst 3, 1) by decide +kernel) (by decide) ?_
  refine Ev_iadd hq_178 (show decode prog_7_method_53_code 8 = .ok (.iadd, 1) by decide +kernel) ?_
  obtain ⟨h1, k⟩ := k
  refine Ev_iald hq_178 (show decode prog_7_method_53_code 9 = .ok (.iaload, 1) by decide +kernel) (SGn hS (by decide)) (SGk hS rfl) (SGi hS rfl h1) ?_
  obtain ⟨y2, ey2⟩ : ∃ y2 : Int32, y2 = (I 60 ((5 * x1) + 3).toNatClampNeg) := ⟨_, rfl⟩
  have k := k y2 ey2
  rw [← ey2]
  refine Ev_istore_n (lo2 := [.ref 57, .int x1, .int y2, zU, zU, zU]) hq_178 (show decode prog_7_method_53_code 10 = .ok (.istore_n 2, 1) by decide +kernel) (z_le rfl) rfl ?_
  refine Ev_aload_n hq_178 (show decode prog_7_method_53_code 11 = .ok (.aload_n 0, 1) by decide +kernel) rfl ?_
  refine Ev_iconst (v := (-1)) hq_178 (show decode prog_7_method_53_code 12 = .ok (.iconst (-1), 1) by decide +kernel) (by decide) ?_
  refine Ev_putI hq_178 (show decode prog_7_method_53_code 13 = .ok (.putfield 232, 3) by decide +kernel) rfl (SGn hS (by decide)) (SGk hS rfl) (by decide) (by decide) rfl (fun hz => by cases hz) ?_
  obtain ⟨I3, eI3⟩ : ∃ I3 : zI, I3 = z_up I 57 35 (-1) := ⟨_, rfl⟩
  have k := k I3 eI3
  rw [← eI3]
  refine Ev_iconst (v := 0) hq_178 (show decode prog_7_method_53_code 16 = .ok (.iconst 0, 1) by decide +kernel) (by decide) ?_
  refine Ev_istore_n (lo2 := [.ref 57, .int x1, .int y2, .int 0, zU, zU]) hq_178 (show decode prog_7_method_53_code 17 = .ok (.istore_n 3, 1) by decide +kernel) (z_le rfl) rfl ?_
  exact k
set_option maxRecDepth 20000 in
theorem wp_Z_findsBest_18 {X : Nat × (Nat → Int32)} {d : Nat} {G : zG} {I : zI} {res : Option Value × zG × zI} (x1 : Int32) (x2 : Int32) (x3 : Int32) (v4 : Value) (cv4 : v4.category = 1) (v5 : Value) (cv5 : v5.category = 1) (hS : SG G) 
    (k : (16 < x3 → z_inr ((5 * x1) + 3) 20 ∧ (∀ I3 : zI, I3 = z_up I 60 ((5 * x1) + 3).toNatClampNeg x2 → res = (none, G, I3))) ∧ (¬ 16 < x3 → z_inr ((5 * x1) + 3) 20 ∧ (∀ I5 : zI, I5 = z_up I 60 ((5 * x1) + 3).toNatClampNeg x3 → ∃ (r8 : Int32) (I6 : zI), Cv X d 179 [.ref 57, .int x1] G I5 (some (.int r8), G, I6) ∧ (((I6 57 35) = (-1) → (∀ I10 : zI, I10 = z_up I6 57 35 x3 → (∀ I11 : zI, I11 = z_up I10 57 36 r8 → ∀ y12 : Int32, y12 = x3 + 1 → Ev X (d + 1) 178 18 [.ref 57, .int x1, .int x2, .int y12, .int r8, .int 1] [] G I11 res))) ∧ (¬ (I6 57 35) = (-1) → ((I6 57 36) ≤ r8 → (∀ I14 : zI, I14 = z_up I6 57 35 (I6 57 35) → (∀ I15 : zI, I15 = z_up I14 57 36 (I14 57 36) → ∀ y16 : Int32, y16 = x3 + 1 → Ev X (d + 1) 178 18 [.ref 57, .int x1, .int x2, .int y16, .int r8, .int 0] [] G I15 res))) ∧ (¬ (I6 57 36) ≤ r8 → (∀ I17 : zI, I17 = z_up I6 57 35 x3 → (∀ I18 : zI, I18 = z_up I17 57 36 r8 → ∀ y19 : Int32, y19 = x3 + 1 → Ev X (d + 1) 178 18 [.ref 57, .int x1, .int x2, .int y19, .int r8, .int 1] [] G I18 res)))))))) :
    Ev X (d + 1) 178 18 [.ref 57, .int x1, .int x2, .int x3, v4, v5] [] G I res := by
  refine Ev_iload_n hq_178 (show decode prog_7_method_53_code 18 = .ok (.iload_n 3, 1) by decide +kernel) rfl ?_
  refine Ev_bipush (v := 16) hq_178 (show decode prog_7_method_53_code 19 = .ok (.bipush 16, 2) by decide +kernel) (by decide) ?_
  refine Ev_icmp_gt (tgt := 107) hq_178 (show decode prog_7_method_53_code 21 = .ok (.if_icmp .gt 86, 3) by decide +kernel) (by decide) (fun c1 => ?_) (fun c1 => ?_)
  · have k := k.1 c1
    refine Ev_aload_n hq_178 (show decode prog_7_method_53_code 107 = .ok (.aload_n 0, 1) by decide +kernel) rfl ?_
    refine Ev_getR hq_178 (show decode prog_7_method_53_code 108 = .ok (.getfield 16, 3) by decide +kernel) rfl (SGn hS (by decide)) (SGk hS rfl) (by decide) rfl (SGr hS rfl) ?_
    refine Ev_iconst (v := 5) hq_178 (show decode prog_7_method_53_code 111 = .ok (.iconst 5, 1) by decide +kernel) (by decide) ?_
    refine Ev_iload_n hq_178 (show decode prog_7_method_53_code 112 = .ok (.iload_n 1, 1) by decide +kernel) rfl ?_
    refine Ev_imul hq_178 (show decode prog_7_method_53_code 113 = .ok (.imul, 1) by decide +kernel) ?_
    refine Ev_iconst (v := 3) hq_178 (show decode prog_7_method_53_code 114 = .ok (.iconst 3, 1) by decide +kernel) (by decide) ?_
    refine Ev_iadd hq_178 (show decode prog_7_method_53_code 115 = .ok (.iadd, 1) by decide +kernel) ?_
    refine Ev_iload_n hq_178 (show decode prog_7_method_53_code 116 = .ok (.iload_n 2, 1) by decide +kernel) rfl ?_
    obtain ⟨h2, k⟩ := k
    refine Ev_iast hq_178 (show decode prog_7_method_53_code 117 = .ok (.iastore, 1) by decide +kernel) (SGn hS (by decide)) (SGk hS rfl) (SGi hS rfl h2) ?_
    obtain ⟨I3, eI3⟩ : ∃ I3 : zI, I3 = z_up I 60 ((5 * x1) + 3).toNatClampNeg x2 := ⟨_, rfl⟩
    have k := k I3 eI3
    rw [← eI3]
    exact Ev_vret hq_178 (show decode prog_7_method_53_code 118 = .ok (.return_, 1) by decide +kernel) k
  · have k := k.2 c1
    refine Ev_aload_n hq_178 (show decode prog_7_method_53_code 24 = .ok (.aload_n 0, 1) by decide +kernel) rfl ?_
    refine Ev_getR hq_178 (show decode prog_7_method_53_code 25 = .ok (.getfield 16, 3) by decide +kernel) rfl (SGn hS (by decide)) (SGk hS rfl) (by decide) rfl (SGr hS rfl) ?_
    refine Ev_iconst (v := 5) hq_178 (show decode prog_7_method_53_code 28 = .ok (.iconst 5, 1) by decide +kernel) (by decide) ?_
    refine Ev_iload_n hq_178 (show decode prog_7_method_53_code 29 = .ok (.iload_n 1, 1) by decide +kernel) rfl ?_
    refine Ev_imul hq_178 (show decode prog_7_method_53_code 30 = .ok (.imul, 1) by decide +kernel) ?_
    refine Ev_iconst (v := 3) hq_178 (show decode prog_7_method_53_code 31 = .ok (.iconst 3, 1) by decide +kernel) (by decide) ?_
    refine Ev_iadd hq_178 (show decode prog_7_method_53_code 32 = .ok (.iadd, 1) by decide +kernel) ?_
    refine Ev_iload_n hq_178 (show decode prog_7_method_53_code 33 = .ok (.iload_n 3, 1) by decide +kernel) rfl ?_
    obtain ⟨h4, k⟩ := k
    refine Ev_iast hq_178 (show decode prog_7_method_53_code 34 = .ok (.iastore, 1) by decide +kernel) (SGn hS (by decide)) (SGk hS rfl) (SGi hS rfl h4) ?_
    obtain ⟨I5, eI5⟩ : ∃ I5 : zI, I5 = z_up I 60 ((5 * x1) + 3).toNatClampNeg x3 := ⟨_, rfl⟩
    have k := k I5 eI5
    rw [← eI5]
    refine Ev_aload_n hq_178 (show decode prog_7_method_53_code 35 = .ok (.aload_n 0, 1) by decide +kernel) rfl ?_
    refine Ev_iload_n hq_178 (show decode prog_7_method_53_code 36 = .ok (.iload_n 1, 1) by decide +kernel) rfl ?_
    obtain ⟨r8, I6, h7, k⟩ := k
    refine Ev_virt (as := [.int x1]) hq_178 (show decode prog_7_method_53_code 37 = .ok (.invokevirtual 235, 3) by decide +kernel) rfl hq_179 rfl (z_le rfl) ⟨(SGn hS (by decide)), (SGk hS rfl), by decide⟩ h7 ?_
    refine Ev_istore (lo2 := [.ref 57, .int x1, .int x2, .int x3, .int r8, v5]) hq_178 (show decode prog_7_method_53_code 40 = .ok (.istore 4, 2) by decide +kernel) (z_le rfl) rfl ?_
    refine Ev_aload_n hq_178 (show decode prog_7_method_53_code 42 = .ok (.aload_n 0, 1) by decide +kernel) rfl ?_
    refine Ev_getI hq_178 (show decode prog_7_method_53_code 43 = .ok (.getfield 232, 3) by decide +kernel) rfl (SGn hS (by decide)) (SGk hS rfl) (by decide) rfl ?_
    refine Ev_iconst (v := (-1)) hq_178 (show decode prog_7_method_53_code 46 = .ok (.iconst (-1), 1) by decide +kernel) (by decide) ?_
    refine Ev_icmp_eq (tgt := 59) hq_178 (show decode prog_7_method_53_code 47 = .ok (.if_icmp .eq 12, 3) by decide +kernel) (by decide) (fun c9 => ?_) (fun c9 => ?_)
    · have k := k.1 c9
      refine Ev_iconst (v := 1) hq_178 (show decode prog_7_method_53_code 59 = .ok (.iconst 1, 1) by decide +kernel) (by decide) ?_
      refine Ev_goto (tgt := 64) hq_178 (show decode prog_7_method_53_code 60 = .ok (.goto 4, 3) by decide +kernel) (by decide) ?_
      refine Ev_istore (lo2 := [.ref 57, .int x1, .int x2, .int x3, .int r8, .int 1]) hq_178 (show decode prog_7_method_53_code 64 = .ok (.istore 5, 2) by decide +kernel) (z_le rfl) rfl ?_
      refine Ev_aload_n hq_178 (show decode prog_7_method_53_code 66 = .ok (.aload_n 0, 1) by decide +kernel) rfl ?_
      refine Ev_iload hq_178 (show decode prog_7_method_53_code 67 = .ok (.iload 5, 2) by decide +kernel) rfl ?_
      refine Ev_if_eq (tgt := 76) hq_178 (show decode prog_7_method_53_code 69 = .ok (.ifCond .eq 7, 3) by decide +kernel) (by decide) (fun hz => absurd hz (by decide)) (fun _ => ?_)
      refine Ev_iload_n hq_178 (show decode prog_7_method_53_code 72 = .ok (.iload_n 3, 1) by decide +kernel) rfl ?_
      refine Ev_goto (tgt := 80) hq_178 (show decode prog_7_method_53_code 73 = .ok (.goto 7, 3) by decide +kernel) (by decide) ?_
      refine Ev_putI hq_178 (show decode prog_7_method_53_code 80 = .ok (.putfield 232, 3) by decide +kernel) rfl (SGn hS (by decide)) (SGk hS rfl) (by decide) (by decide) rfl (fun hz => by cases hz) ?_
      obtain ⟨I10, eI10⟩ : ∃ I10 : zI, I10 = z_up I6 57 35 x3 := ⟨_, rfl⟩
      have k := k I10 eI10
      rw [← eI10]
      refine Ev_aload_n hq_178 (show decode prog_7_method_53_code 83 = .ok (.aload_n 0, 1) by decide +kernel) rfl ?_
      refine Ev_iload hq_178 (show decode prog_7_method_53_code 84 = .ok (.iload 5, 2) by decide +kernel) rfl ?_
      refine Ev_if_eq (tgt := 94) hq_178 (show decode prog_7_method_53_code 86 = .ok (.ifCond .eq 8, 3) by decide +kernel) (by decide) (fun hz => absurd hz (by decide)) (fun _ => ?_)
      refine Ev_iload hq_178 (show decode prog_7_method_53_code 89 = .ok (.iload 4, 2) by decide +kernel) rfl ?_
      refine Ev_goto (tgt := 98) hq_178 (show decode prog_7_method_53_code 91 = .ok (.goto 7, 3) by decide +kernel) (by decide) ?_
      refine Ev_putI hq_178 (show decode prog_7_method_53_code 98 = .ok (.putfield 238, 3) by decide +kernel) rfl (SGn hS (by decide)) (SGk hS rfl) (by decide) (by decide) rfl (fun hz => by cases hz) ?_
      obtain ⟨I11, eI11⟩ : ∃ I11 : zI, I11 = z_up I10 57 36 r8 := ⟨_, rfl⟩
      have k := k I11 eI11
      rw [← eI11]
      obtain ⟨y12, ey12⟩ : ∃ y12 : Int32, y12 = x3 + 1 := ⟨_, rfl⟩
      have k := k y12 ey12
      refine Ev_iinc (v := y12) (lo2 := [.ref 57, .int x1, .int x2, .int y12, .int r8, .int 1]) hq_178 (show decode prog_7_method_53_code 101 = .ok (.iinc 3 1, 3) by decide +kernel) rfl (by rw [ey12]; rfl) rfl ?_
      refine Ev_goto (tgt := 18) hq_178 (show decode prog_7_method_53_code 104 = .ok (.goto (-86), 3) by decide +kernel) (by decide) ?_
      exact k
    · have k := k.2 c9
      refine Ev_iload hq_178 (show decode prog_7_method_53_code 50 = .ok (.iload 4, 2) by decide +kernel) rfl ?_
      refine Ev_aload_n hq_178 (show decode prog_7_method_53_code 52 = .ok (.aload_n 0, 1) by decide +kernel) rfl ?_
      refine Ev_getI hq_178 (show decode prog_7_method_53_code 53 = .ok (.getfield 238, 3) by decide +kernel) rfl (SGn hS (by decide)) (SGk hS rfl) (by decide) rfl ?_
      refine Ev_icmp_ge (tgt := 63) hq_178 (show decode prog_7_method_53_code 56 = .ok (.if_icmp .ge 7, 3) by decide +kernel) (by decide) (fun c13 => ?_) (fun c13 => ?_)
      · have k := k.1 c13
        refine Ev_iconst (v := 0) hq_178 (show decode prog_7_method_53_code 63 = .ok (.iconst 0, 1) by decide +kernel) (by decide) ?_
        refine Ev_istore (lo2 := [.ref 57, .int x1, .int x2, .int x3, .int r8, .int 0]) hq_178 (show decode prog_7_method_53_code 64 = .ok (.istore 5, 2) by decide +kernel) (z_le rfl) rfl ?_
        refine Ev_aload_n hq_178 (show decode prog_7_method_53_code 66 = .ok (.aload_n 0, 1) by decide +kernel) rfl ?_
        refine Ev_iload hq_178 (show decode prog_7_method_53_code 67 = .ok (.iload 5, 2) by decide +kernel) rfl ?_
        refine Ev_if_eq (tgt := 76) hq_178 (show decode prog_7_method_53_code 69 = .ok (.ifCond .eq 7, 3) by decide +kernel) (by decide) (fun _ => ?_) (fun hz => absurd (by decide) hz)
        refine Ev_aload_n hq_178 (show decode prog_7_method_53_code 76 = .ok (.aload_n 0, 1) by decide +kernel) rfl ?_
        refine Ev_getI hq_178 (show decode prog_7_method_53_code 77 = .ok (.getfield 232, 3) by decide +kernel) rfl (SGn hS (by decide)) (SGk hS rfl) (by decide) rfl ?_
        refine Ev_putI hq_178 (show decode prog_7_method_53_code 80 = .ok (.putfield 232, 3) by decide +kernel) rfl (SGn hS (by decide)) (SGk hS rfl) (by decide) (by decide) rfl (fun hz => by cases hz) ?_
        obtain ⟨I14, eI14⟩ : ∃ I14 : zI, I14 = z_up I6 57 35 (I6 57 35) := ⟨_, rfl⟩
        have k := k I14 eI14
        rw [← eI14]
        refine Ev_aload_n hq_178 (show decode prog_7_method_53_code 83 = .ok (.aload_n 0, 1) by decide +kernel) rfl ?_
        refine Ev_iload hq_178 (show decode prog_7_method_53_code 84 = .ok (.iload 5, 2) by decide +kernel) rfl ?_
        refine Ev_if_eq (tgt := 94) hq_178 (show decode prog_7_method_53_code 86 = .ok (.ifCond .eq 8, 3) by decide +kernel) (by decide) (fun _ => ?_) (fun hz => absurd (by decide) hz)
        refine Ev_aload_n hq_178 (show decode prog_7_method_53_code 94 = .ok (.aload_n 0, 1) by decide +kernel) rfl ?_
        refine Ev_getI hq_178 (show decode prog_7_method_53_code 95 = .ok (.getfield 238, 3) by decide +kernel) rfl (SGn hS (by decide)) (SGk hS rfl) (by decide) rfl ?_
        refine Ev_putI hq_178 (show decode prog_7_method_53_code 98 = .ok (.putfield 238, 3) by decide +kernel) rfl (SGn hS (by decide)) (SGk hS rfl) (by decide) (by decide) rfl (fun hz => by cases hz) ?_
        obtain ⟨I15, eI15⟩ : ∃ I15 : zI, I15 = z_up I14 57 36 (I14 57 36) := ⟨_, rfl⟩
        have k := k I15 eI15
        rw [← eI15]
        obtain ⟨y16, ey16⟩ : ∃ y16 : Int32, y16 = x3 + 1 := ⟨_, rfl⟩
        have k := k y16 ey16
        refine Ev_iinc (v := y16) (lo2 := [.ref 57, .int x1, .int x2, .int y16, .int r8, .int 0]) hq_178 (show decode prog_7_method_53_code 101 = .ok (.iinc 3 1, 3) by decide +kernel) rfl (by rw [ey16]; rfl) rfl ?_
        refine Ev_goto (tgt := 18) hq_178 (show decode prog_7_method_53_code 104 = .ok (.goto (-86), 3) by decide +kernel) (by decide) ?_
        exact k
      · have k := k.2 c13
        refine Ev_iconst (v := 1) hq_178 (show decode prog_7_method_53_code 59 = .ok (.iconst 1, 1) by decide +kernel) (by decide) ?_
        refine Ev_goto (tgt := 64) hq_178 (show decode prog_7_method_53_code 60 = .ok (.goto 4, 3) by decide +kernel) (by decide) ?_
        refine Ev_istore (lo2 := [.ref 57, .int x1, .int x2, .int x3, .int r8, .int 1]) hq_178 (show decode prog_7_method_53_code 64 = .ok (.istore 5, 2) by decide +kernel) (z_le rfl) rfl ?_
        refine Ev_aload_n hq_178 (show decode prog_7_method_53_code 66 = .ok (.aload_n 0, 1) by decide +kernel) rfl ?_
        refine Ev_iload hq_178 (show decode prog_7_method_53_code 67 = .ok (.iload 5, 2) by decide +kernel) rfl ?_
        refine Ev_if_eq (tgt := 76) hq_178 (show decode prog_7_method_53_code 69 = .ok (.ifCond .eq 7, 3) by decide +kernel) (by decide) (fun hz => absurd hz (by decide)) (fun _ => ?_)
        refine Ev_iload_n hq_178 (show decode prog_7_method_53_code 72 = .ok (.iload_n 3, 1) by decide +kernel) rfl ?_
        refine Ev_goto (tgt := 80) hq_178 (show decode prog_7_method_53_code 73 = .ok (.goto 7, 3) by decide +kernel) (by decide) ?_
        refine Ev_putI hq_178 (show decode prog_7_method_53_code 80 = .ok (.putfield 232, 3) by decide +kernel) rfl (SGn hS (by decide)) (SGk hS rfl) (by decide) (by decide) rfl (fun hz => by cases hz) ?_
        obtain ⟨I17, eI17⟩ : ∃ I17 : zI, I17 = z_up I6 57 35 x3 := ⟨_, rfl⟩
        have k := k I17 eI17
        rw [← eI17]
        refine Ev_aload_n hq_178 (show decode prog_7_method_53_code 83 = .ok (.aload_n 0, 1) by decide +kernel) rfl ?_
        refine Ev_iload hq_178 (show decode prog_7_method_53_code 84 = .ok (.iload 5, 2) by decide +kernel) rfl ?_
        refine Ev_if_eq (tgt := 94) hq_178 (show decode prog_7_method_53_code 86 = .ok (.ifCond .eq 8, 3) by decide +kernel) (by decide) (fun hz => absurd hz (by decide)) (fun _ => ?_)
        refine Ev_iload hq_178 (show decode prog_7_method_53_code 89 = .ok (.iload 4, 2) by decide +kernel) rfl ?_
        refine Ev_goto (tgt := 98) hq_178 (show decode prog_7_method_53_code 91 = .ok (.goto 7, 3) by decide +kernel) (by decide) ?_
        refine Ev_putI hq_178 (show decode prog_7_method_53_code 98 = .ok (.putfield 238, 3) by decide +kernel) rfl (SGn hS (by decide)) (SGk hS rfl) (by decide) (by decide) rfl (fun hz => by cases hz) ?_
        obtain ⟨I18, eI18⟩ : ∃ I18 : zI, I18 = z_up I17 57 36 r8 := ⟨_, rfl⟩
        have k := k I18 eI18
        rw [← eI18]
        obtain ⟨y19, ey19⟩ : ∃ y19 : Int32, y19 = x3 + 1 := ⟨_, rfl⟩
        have k := k y19 ey19
        refine Ev_iinc (v := y19) (lo2 := [.ref 57, .int x1, .int x2, .int y19, .int r8, .int 1]) hq_178 (show decode prog_7_method_53_code 101 = .ok (.iinc 3 1, 3) by decide +kernel) rfl (by rw [ey19]; rfl) rfl ?_
        refine Ev_goto (tgt := 18) hq_178 (show decode prog_7_method_53_code 104 = .ok (.goto (-86), 3) by decide +kernel) (by decide) ?_
        exact k
