set_option maxRecDepth 20000 in
theorem wp_Z_higher {X : Nat × (Nat → Int32)} {d : Nat} {G : zG} {I : zI} {res : Option Value × zG × zI} (x1 : Int32) (x2 : Int32) 
    (k : Ev X d 162 5 [.ref 57, .int x1, .int x2, .int 0, .int 0] [] G I res) :
    Ev X d 162 0 [.ref 57, .int x1, .int x2, zU, zU] [] G I res := by
  refine Ev_iconst (v := 0) hq_162 (show decode prog_7_method_34_code 0 = .ok (.iconst 0, 1) by decide +kernel) (by decide) ?_
  refine Ev_istore_n (lo2 := [.ref 57, .int x1, .int x2, .int 0, zU]) hq_162 (show decode prog_7_method_34_code 1 = .ok (.istore_n 3, 1) by decide +kernel) (z_le rfl) rfl ?_
  refine Ev_iconst (v := 0) hq_162 (show decode prog_7_method_34_code 2 = .ok (.iconst 0, 1) by decide +kernel) (by decide) ?_
  refine Ev_istore (lo2 := [.ref 57, .int x1, .int x2, .int 0, .int 0]) hq_162 (show decode prog_7_method_34_code 3 = .ok (.istore 4, 2) by decide +kernel) (z_le rfl) rfl ?_
  exact k
set_option maxRecDepth 20000 in
theorem wp_Z_higher_5 {X : Nat × (Nat → Int32)} {d : Nat} {G : zG} {I : zI} {res : Option Value × zG × zI} (x1 : Int32) (x2 : Int32) (x3 : Int32) (x4 : Int32) (hS : SG G) 
    (k : ((I 57 0) ≤ x4 → res = (some (.int x3), G, I)) ∧ (¬ (I 57 0) ≤ x4 → (x4 = x1 → ∀ y3 : Int32, y3 = (x3 + 0) → ∀ y4 : Int32, y4 = x4 + 1 → Ev X (d + 1) 162 5 [.ref 57, .int x1, .int x2, .int y3, .int y4] [] G I res) ∧ (¬ x4 = x1 → ∃ (r7 : Int32) (I5 : zI), Cv X d 143 [.ref 57, .int x4] G I (some (.int r7), G, I5) ∧ ((r7 = 0 → ∀ y9 : Int32, y9 = (x3 + 0) → ∀ y10 : Int32, y10 = x4 + 1 → Ev X (d + 1) 162 5 [.ref 57, .int x1, .int x2, .int y9, .int y10] [] G I5 res) ∧ (¬ r7 = 0 → z_inr ((4 * x2) + x4) 124 ∧ (z_inr ((4 * x2) + x1) 124 ∧ (((I5 73 ((4 * x2) + x4).toNatClampNeg) ≤ (I5 73 ((4 * x2) + x1).toNatClampNeg) → ∀ y14 : Int32, y14 = (x3 + 0) → ∀ y15 : Int32, y15 = x4 + 1 → Ev X (d + 1) 162 5 [.ref 57, .int x1, .int x2, .int y14, .int y15] [] G I5 res) ∧ (¬ (I5 73 ((4 * x2) + x4).toNatClampNeg) ≤ (I5 73 ((4 * x2) + x1).toNatClampNeg) → ∀ y16 : Int32, y16 = (x3 + 1) → ∀ y17 : Int32, y17 = x4 + 1 → Ev X (d + 1) 162 5 [.ref 57, .int x1, .int x2, .int y16, .int y17] [] G I5 res)))))))) :
    Ev X (d + 1) 162 5 [.ref 57, .int x1, .int x2, .int x3, .int x4] [] G I res := by
  refine Ev_iload hq_162 (show decode prog_7_method_34_code 5 = .ok (.iload 4, 2) by decide +kernel) rfl ?_
  refine Ev_aload_n hq_162 (show decode prog_7_method_34_code 7 = .ok (.aload_n 0, 1) by decide +kernel) rfl ?_
  refine Ev_getI hq_162 (show decode prog_7_method_34_code 8 = .ok (.getfield 87, 3) by decide +kernel) rfl (SGn hS (by decide)) (SGk hS rfl) (by decide) rfl ?_
  refine Ev_icmp_ge (tgt := 67) hq_162 (show decode prog_7_method_34_code 11 = .ok (.if_icmp .ge 56, 3) by decide +kernel) (by decide) (fun c1 => ?_) (fun c1 => ?_)
  · have k := k.1 c1
    refine Ev_iload_n hq_162 (show decode prog_7_method_34_code 67 = .ok (.iload_n 3, 1) by decide +kernel) rfl ?_
    exact Ev_iret hq_162 (show decode prog_7_method_34_code 68 = .ok (.ireturn, 1) by decide +kernel) rfl k
  · have k := k.2 c1
    refine Ev_iload_n hq_162 (show decode prog_7_method_34_code 14 = .ok (.iload_n 3, 1) by decide +kernel) rfl ?_
    refine Ev_iload hq_162 (show decode prog_7_method_34_code 15 = .ok (.iload 4, 2) by decide +kernel) rfl ?_
    refine Ev_iload_n hq_162 (show decode prog_7_method_34_code 17 = .ok (.iload_n 1, 1) by decide +kernel) rfl ?_
    refine Ev_icmp_eq (tgt := 58) hq_162 (show decode prog_7_method_34_code 18 = .ok (.if_icmp .eq 40, 3) by decide +kernel) (by decide) (fun c2 => ?_) (fun c2 => ?_)
    · have k := k.1 c2
      refine Ev_iconst (v := 0) hq_162 (show decode prog_7_method_34_code 58 = .ok (.iconst 0, 1) by decide +kernel) (by decide) ?_
      refine Ev_iadd hq_162 (show decode prog_7_method_34_code 59 = .ok (.iadd, 1) by decide +kernel) ?_
      obtain ⟨y3, ey3⟩ : ∃ y3 : Int32, y3 = (x3 + 0) := ⟨_, rfl⟩
      have k := k y3 ey3
      rw [← ey3]
      refine Ev_istore_n (lo2 := [.ref 57, .int x1, .int x2, .int y3, .int x4]) hq_162 (show decode prog_7_method_34_code 60 = .ok (.istore_n 3, 1) by decide +kernel) (z_le rfl) rfl ?_
      obtain ⟨y4, ey4⟩ : ∃ y4 : Int32, y4 = x4 + 1 := ⟨_, rfl⟩
      have k := k y4 ey4
      refine Ev_iinc (v := y4) (lo2 := [.ref 57, .int x1, .int x2, .int y3, .int y4]) hq_162 (show decode prog_7_method_34_code 61 = .ok (.iinc 4 1, 3) by decide +kernel) rfl (by rw [ey4]; rfl) rfl ?_
      refine Ev_goto (tgt := 5) hq_162 (show decode prog_7_method_34_code 64 = .ok (.goto (-59), 3) by decide +kernel) (by decide) ?_
      exact k
    · have k := k.2 c2
      refine Ev_aload_n hq_162 (show decode prog_7_method_34_code 21 = .ok (.aload_n 0, 1) by decide +kernel) rfl ?_
      refine Ev_iload hq_162 (show decode prog_7_method_34_code 22 = .ok (.iload 4, 2) by decide +kernel) rfl ?_
      obtain ⟨r7, I5, h6, k⟩ := k
      refine Ev_virt (as := [.int x4]) hq_162 (show decode prog_7_method_34_code 24 = .ok (.invokevirtual 94, 3) by decide +kernel) rfl hq_143 rfl (z_le rfl) ⟨(SGn hS (by decide)), (SGk hS rfl), by decide⟩ h6 ?_
      refine Ev_if_eq (tgt := 58) hq_162 (show decode prog_7_method_34_code 27 = .ok (.ifCond .eq 31, 3) by decide +kernel) (by decide) (fun c8 => ?_) (fun c8 => ?_)
      · have k := k.1 c8
        refine Ev_iconst (v := 0) hq_162 (show decode prog_7_method_34_code 58 = .ok (.iconst 0, 1) by decide +kernel) (by decide) ?_
        refine Ev_iadd hq_162 (show decode prog_7_method_34_code 59 = .ok (.iadd, 1) by decide +kernel) ?_
        obtain ⟨y9, ey9⟩ : ∃ y9 : Int32, y9 = (x3 + 0) := ⟨_, rfl⟩
        have k := k y9 ey9
        rw [← ey9]
        refine Ev_istore_n (lo2 := [.ref 57, .int x1, .int x2, .int y9, .int x4]) hq_162 (show decode prog_7_method_34_code 60 = .ok (.istore_n 3, 1) by decide +kernel) (z_le rfl) rfl ?_
        obtain ⟨y10, ey10⟩ : ∃ y10 : Int32, y10 = x4 + 1 := ⟨_, rfl⟩
        have k := k y10 ey10
        refine Ev_iinc (v := y10) (lo2 := [.ref 57, .int x1, .int x2, .int y9, .int y10]) hq_162 (show decode prog_7_method_34_code 61 = .ok (.iinc 4 1, 3) by decide +kernel) rfl (by rw [ey10]; rfl) rfl ?_
        refine Ev_goto (tgt := 5) hq_162 (show decode prog_7_method_34_code 64 = .ok (.goto (-59), 3) by decide +kernel) (by decide) ?_
        exact k
      · have k := k.2 c8
        refine Ev_aload_n hq_162 (show decode prog_7_method_34_code 30 = .ok (.aload_n 0, 1) by decide +kernel) rfl ?_
        refine Ev_getR hq_162 (show decode prog_7_method_34_code 31 = .ok (.getfield 55, 3) by decide +kernel) rfl (SGn hS (by decide)) (SGk hS rfl) (by decide) rfl (SGr hS rfl) ?_
        refine Ev_iconst (v := 4) hq_162 (show decode prog_7_method_34_code 34 = .ok (.iconst 4, 1) by decide +kernel) (by decide) ?_
        refine Ev_iload_n hq_162 (show decode prog_7_method_34_code 35 = .ok (.iload_n 2, 1) by decide +kernel) rfl ?_
        refine Ev_imul hq_162 (show decode prog_7_method_34_code 36 = .ok (.imul, 1) by decide +kernel) ?_
        refine Ev_iload hq_162 (show decode prog_7_method_34_code 37 = .ok (.iload 4, 2) by decide +kernel) rfl ?_
        refine Ev_iadd hq_162 (show decode prog_7_method_34_code 39 = .ok (.iadd, 1) by decide +kernel) ?_
        obtain ⟨h11, k⟩ := k
        refine Ev_iald hq_162 (show decode prog_7_method_34_code 40 = .ok (.iaload, 1) by decide +kernel) (SGn hS (by decide)) (SGk hS rfl) (SGi hS rfl h11) ?_
        refine Ev_aload_n hq_162 (show decode prog_7_method_34_code 41 = .ok (.aload_n 0, 1) by decide +kernel) rfl ?_
        refine Ev_getR hq_162 (show decode prog_7_method_34_code 42 = .ok (.getfield 55, 3) by decide +kernel) rfl (SGn hS (by decide)) (SGk hS rfl) (by decide) rfl (SGr hS rfl) ?_
        refine Ev_iconst (v := 4) hq_162 (show decode prog_7_method_34_code 45 = .ok (.iconst 4, 1) by decide +kernel) (by decide) ?_
        refine Ev_iload_n hq_162 (show decode prog_7_method_34_code 46 = .ok (.iload_n 2, 1) by decide +kernel) rfl ?_
        refine Ev_imul hq_162 (show decode prog_7_method_34_code 47 = .ok (.imul, 1) by decide +kernel) ?_
        refine Ev_iload_n hq_162 (show decode prog_7_method_34_code 48 = .ok (.iload_n 1, 1) by decide +kernel) rfl ?_
        refine Ev_iadd hq_162 (show decode prog_7_method_34_code 49 = .ok (.iadd, 1) by decide +kernel) ?_
        obtain ⟨h12, k⟩ := k
        refine Ev_iald hq_162 (show decode prog_7_method_34_code 50 = .ok (.iaload, 1) by decide +kernel) (SGn hS (by decide)) (SGk hS rfl) (SGi hS rfl h12) ?_
        refine Ev_icmp_le (tgt := 58) hq_162 (show decode prog_7_method_34_code 51 = .ok (.if_icmp .le 7, 3) by decide +kernel) (by decide) (fun c13 => ?_) (fun c13 => ?_)
        · have k := k.1 c13
          refine Ev_iconst (v := 0) hq_162 (show decode prog_7_method_34_code 58 = .ok (.iconst 0, 1) by decide +kernel) (by decide) ?_
          refine Ev_iadd hq_162 (show decode prog_7_method_34_code 59 = .ok (.iadd, 1) by decide +kernel) ?_
          obtain ⟨y14, ey14⟩ : ∃ y14 : Int32, y14 = (x3 + 0) := ⟨_, rfl⟩
          have k := k y14 ey14
          rw [← ey14]
          refine Ev_istore_n (lo2 := [.ref 57, .int x1, .int x2, .int y14, .int x4]) hq_162 (show decode prog_7_method_34_code 60 = .ok (.istore_n 3, 1) by decide +kernel) (z_le rfl) rfl ?_
          obtain ⟨y15, ey15⟩ : ∃ y15 : Int32, y15 = x4 + 1 := ⟨_, rfl⟩
          have k := k y15 ey15
          refine Ev_iinc (v := y15) (lo2 := [.ref 57, .int x1, .int x2, .int y14, .int y15]) hq_162 (show decode prog_7_method_34_code 61 = .ok (.iinc 4 1, 3) by decide +kernel) rfl (by rw [ey15]; rfl) rfl ?_
          refine Ev_goto (tgt := 5) hq_162 (show decode prog_7_method_34_code 64 = .ok (.goto (-59), 3) by decide +kernel) (by decide) ?_
          exact k
        · have k := k.2 c13
          refine Ev_iconst (v := 1) hq_162 (show decode prog_7_method_34_code 54 = .ok (.iconst 1, 1) by decide +kernel) (by decide) ?_
          refine Ev_goto (tgt := 59) hq_162 (show decode prog_7_method_34_code 55 = .ok (.goto 4, 3) by decide +kernel) (by decide) ?_
          refine Ev_iadd hq_162 (show decode prog_7_method_34_code 59 = .ok (.iadd, 1) by decide +kernel) ?_
          obtain ⟨y16, ey16⟩ : ∃ y16 : Int32, y16 = (x3 + 1) := ⟨_, rfl⟩
          have k := k y16 ey16
          rw [← ey16]
          refine Ev_istore_n (lo2 := [.ref 57, .int x1, .int x2, .int y16, .int x4]) hq_162 (show decode prog_7_method_34_code 60 = .ok (.istore_n 3, 1) by decide +kernel) (z_le rfl) rfl ?_
          obtain ⟨y17, ey17⟩ : ∃ y17 : Int32, y17 = x4 + 1 := ⟨_, rfl⟩
          have k := k y17 ey17
          refine Ev_iinc (v := y17) (lo2 := [.ref 57, .int x1, .int x2, .int y16, .int y17]) hq_162 (show decode prog_7_method_34_code 61 = .ok (.iinc 4 1, 3) by decide +kernel) rfl (by rw [ey17]; rfl) rfl ?_
          refine Ev_goto (tgt := 5) hq_162 (show decode prog_7_method_34_code 64 = .ok (.goto (-59), 3) by decide +kernel) (by decide) ?_
          exact k
set_option maxRecDepth 20000 in
theorem wp_Z_turnedBy {X : Nat × (Nat → Int32)} {d : Nat} {G : zG} {I : zI} {res : Option Value × zG × zI} (x1 : Int32) (x2 : Int32) (hS : SG G) 
    (k : z_inr ((5 * x1) + 3) 20 ∧ (∀ y2 : Int32, y2 = ((x2 * (I 60 ((5 * x1) + 3).toNatClampNeg)) / 8) → z_inr x1 4 ∧ (∀ y4 : Int32, y4 = (I 58 x1.toNatClampNeg) → z_inr x1 4 ∧ (∀ y6 : Int32, y6 = ((I 59 x1.toNatClampNeg) + 1) → (x1 = (I 57 34) → res = (some (.int 0), G, I)) ∧ (¬ x1 = (I 57 34) → (y4 = 5 → res = (some (.int 0), G, I)) ∧ (¬ y4 = 5 → (¬ y4 = 4 → (y4 = 2 → (¬ y6 = 0) ∧ (res = (some (.int ((y2 / y6) * y6)), G, I))) ∧ (¬ y4 = 2 → (¬ y4 = 4 → res = (some (.int y2), G, I)) ∧ (y4 = 4 → (¬ y6 = 0) ∧ (res = (some (.int ((y2 / y6) * y6)), G, I))))) ∧ (y4 = 4 → ∃ (r16 : Int32) (I14 : zI), Cv X d 164 [.int y2] G I (some (.int r16), G, I14) ∧ (z_inr x1 4 ∧ (((3 * (I14 59 x1.toNatClampNeg)) ≤ r16 → (y4 = 2 → (¬ y6 = 0) ∧ (res = (some (.int ((y2 / y6) * y6)), G, I14))) ∧ (¬ y4 = 2 → (¬ y4 = 4 → res = (some (.int y2), G, I14)) ∧ (y4 = 4 → (¬ y6 = 0) ∧ (res = (some (.int ((y2 / y6) * y6)), G, I14))))) ∧ (¬ (3 * (I14 59 x1.toNatClampNeg)) ≤ r16 → res = (some (.int 0), G, I14))))))))))) :
    Ev X (d + 1) 163 0 [.ref 57, .int x1, .int x2, zU, zU, zU] [] G I res := by
  refine Ev_iload_n hq_163 (show decode prog_7_method_36_code 0 = .ok (.iload_n 2, 1) by decide +kernel) rfl ?_
  refine Ev_aload_n hq_163 (show decode prog_7_method_36_code 1 = .ok (.aload_n 0, 1) by decide +kernel) rfl ?_
  refine Ev_getR hq_163 (show decode prog_7_method_36_code 2 = .ok (.getfield 16, 3) by decide +kernel) rfl (SGn hS (by decide)) (SGk hS rfl) (by decide) rfl (SGr hS rfl) ?_
  refine Ev_iconst (v := 5) hq_163 (show decode prog_7_method_36_code 5 = .ok (.iconst 5, 1) by decide +kernel) (by decide) ?_
  refine Ev_iload_n hq_163 (show decode prog_7_method_36_code 6 = .ok (.iload_n 1, 1) by decide +kernel) rfl ?_
  refine Ev_imul hq_163 (show decode prog_7_method_36_code 7 = .ok (.imul, 1) by decide +kernel) ?_
  refine Ev_iconst (v := 3) hq_163 (show decode prog_7_method_36_code 8 = .ok (.iconst 3, 1) by decide +kernel) (by decide) ?_
  refine Ev_iadd hq_163 (show decode prog_7_method_36_code 9 = .ok (.iadd, 1) by decide +kernel) ?_
  obtain ⟨h1, k⟩ := k
  refine Ev_iald hq_163 (show decode prog_7_method_36_code 10 = .ok (.iaload, 1) by decide +kernel) (SGn hS (by decide)) (SGk hS rfl) (SGi hS rfl h1) ?_
  refine Ev_imul hq_163 (show decode prog_7_method_36_code 11 = .ok (.imul, 1) by decide +kernel) ?_
  refine Ev_bipush (v := 8) hq_163 (show decode prog_7_method_36_code 12 = .ok (.bipush 8, 2) by decide +kernel) (by decide) ?_
  refine Ev_idiv hq_163 (show decode prog_7_method_36_code 14 = .ok (.idiv, 1) by decide +kernel) (by decide) ?_
  obtain ⟨y2, ey2⟩ : ∃ y2 : Int32, y2 = ((x2 * (I 60 ((5 * x1) + 3).toNatClampNeg)) / 8) := ⟨_, rfl⟩
  have k := k y2 ey2
  rw [← ey2]
  refine Ev_istore_n (lo2 := [.ref 57, .int x1, .int x2, .int y2, zU, zU]) hq_163 (show decode prog_7_method_36_code 15 = .ok (.istore_n 3, 1) by decide +kernel) (z_le rfl) rfl ?_
  refine Ev_aload_n hq_163 (show decode prog_7_method_36_code 16 = .ok (.aload_n 0, 1) by decide +kernel) rfl ?_
  refine Ev_getR hq_163 (show decode prog_7_method_36_code 17 = .ok (.getfield 7, 3) by decide +kernel) rfl (SGn hS (by decide)) (SGk hS rfl) (by decide) rfl (SGr hS rfl) ?_
  refine Ev_iload_n hq_163 (show decode prog_7_method_36_code 20 = .ok (.iload_n 1, 1) by decide +kernel) rfl ?_
  obtain ⟨h3, k⟩ := k
  refine Ev_iald hq_163 (show decode prog_7_method_36_code 21 = .ok (.iaload, 1) by decide +kernel) (SGn hS (by decide)) (SGk hS rfl) (SGi hS rfl h3) ?_
  obtain ⟨y4, ey4⟩ : ∃ y4 : Int32, y4 = (I 58 x1.toNatClampNeg) := ⟨_, rfl⟩
  have k := k y4 ey4
  rw [← ey4]
  refine Ev_istore (lo2 := [.ref 57, .int x1, .int x2, .int y2, .int y4, zU]) hq_163 (show decode prog_7_method_36_code 22 = .ok (.istore 4, 2) by decide +kernel) (z_le rfl) rfl ?_
  refine Ev_aload_n hq_163 (show decode prog_7_method_36_code 24 = .ok (.aload_n 0, 1) by decide +kernel) rfl ?_
  refine Ev_getR hq_163 (show decode prog_7_method_36_code 25 = .ok (.getfield 13, 3) by decide +kernel) rfl (SGn hS (by decide)) (SGk hS rfl) (by decide) rfl (SGr hS rfl) ?_
  refine Ev_iload_n hq_163 (show decode prog_7_method_36_code 28 = .ok (.iload_n 1, 1) by decide +kernel) rfl ?_
  obtain ⟨h5, k⟩ := k
  refine Ev_iald hq_163 (show decode prog_7_method_36_code 29 = .ok (.iaload, 1) by decide +kernel) (SGn hS (by decide)) (SGk hS rfl) (SGi hS rfl h5) ?_
  refine Ev_iconst (v := 1) hq_163 (show decode prog_7_method_36_code 30 = .ok (.iconst 1, 1) by decide +kernel) (by decide) ?_
  refine Ev_iadd hq_163 (show decode prog_7_method_36_code 31 = .ok (.iadd, 1) by decide +kernel) ?_
  obtain ⟨y6, ey6⟩ : ∃ y6 : Int32, y6 = ((I 59 x1.toNatClampNeg) + 1) := ⟨_, rfl⟩
  have k := k y6 ey6
  rw [← ey6]
  refine Ev_istore (lo2 := [.ref 57, .int x1, .int x2, .int y2, .int y4, .int y6]) hq_163 (show decode prog_7_method_36_code 32 = .ok (.istore 5, 2) by decide +kernel) (z_le rfl) rfl ?_
  refine Ev_iload_n hq_163 (show decode prog_7_method_36_code 34 = .ok (.iload_n 1, 1) by decide +kernel) rfl ?_
  refine Ev_aload_n hq_163 (show decode prog_7_method_36_code 35 = .ok (.aload_n 0, 1) by decide +kernel) rfl ?_
  refine Ev_getI hq_163 (show decode prog_7_method_36_code 36 = .ok (.getfield 70, 3) by decide +kernel) rfl (SGn hS (by decide)) (SGk hS rfl) (by decide) rfl ?_
  refine Ev_icmp_eq (tgt := 69) hq_163 (show decode prog_7_method_36_code 39 = .ok (.if_icmp .eq 30, 3) by decide +kernel) (by decide) (fun c7 => ?_) (fun c7 => ?_)
  · have k := k.1 c7
    refine Ev_iconst (v := 0) hq_163 (show decode prog_7_method_36_code 69 = .ok (.iconst 0, 1) by decide +kernel) (by decide) ?_
    exact Ev_iret hq_163 (show decode prog_7_method_36_code 70 = .ok (.ireturn, 1) by decide +kernel) rfl k
  · have k := k.2 c7
    refine Ev_iload hq_163 (show decode prog_7_method_36_code 42 = .ok (.iload 4, 2) by decide +kernel) rfl ?_
    refine Ev_iconst (v := 5) hq_163 (show decode prog_7_method_36_code 44 = .ok (.iconst 5, 1) by decide +kernel) (by decide) ?_
    refine Ev_icmp_eq (tgt := 69) hq_163 (show decode prog_7_method_36_code 45 = .ok (.if_icmp .eq 24, 3) by decide +kernel) (by decide) (fun c8 => ?_) (fun c8 => ?_)
    · have k := k.1 c8
      refine Ev_iconst (v := 0) hq_163 (show decode prog_7_method_36_code 69 = .ok (.iconst 0, 1) by decide +kernel) (by decide) ?_
      exact Ev_iret hq_163 (show decode prog_7_method_36_code 70 = .ok (.ireturn, 1) by decide +kernel) rfl k
    · have k := k.2 c8
      refine Ev_iload hq_163 (show decode prog_7_method_36_code 48 = .ok (.iload 4, 2) by decide +kernel) rfl ?_
      refine Ev_iconst (v := 4) hq_163 (show decode prog_7_method_36_code 50 = .ok (.iconst 4, 1) by decide +kernel) (by decide) ?_
      refine Ev_icmp_ne (tgt := 71) hq_163 (show decode prog_7_method_36_code 51 = .ok (.if_icmp .ne 20, 3) by decide +kernel) (by decide) (fun c9 => ?_) (fun c9 => ?_)
      · have k := k.1 c9
        refine Ev_iload hq_163 (show decode prog_7_method_36_code 71 = .ok (.iload 4, 2) by decide +kernel) rfl ?_
        refine Ev_iconst (v := 2) hq_163 (show decode prog_7_method_36_code 73 = .ok (.iconst 2, 1) by decide +kernel) (by decide) ?_
        refine Ev_icmp_eq (tgt := 83) hq_163 (show decode prog_7_method_36_code 74 = .ok (.if_icmp .eq 9, 3) by decide +kernel) (by decide) (fun c10 => ?_) (fun c10 => ?_)
        · have k := k.1 c10
          refine Ev_iload_n hq_163 (show decode prog_7_method_36_code 83 = .ok (.iload_n 3, 1) by decide +kernel) rfl ?_
          refine Ev_iload hq_163 (show decode prog_7_method_36_code 84 = .ok (.iload 5, 2) by decide +kernel) rfl ?_
          obtain ⟨h11, k⟩ := k
          refine Ev_idiv hq_163 (show decode prog_7_method_36_code 86 = .ok (.idiv, 1) by decide +kernel) h11 ?_
          refine Ev_iload hq_163 (show decode prog_7_method_36_code 87 = .ok (.iload 5, 2) by decide +kernel) rfl ?_
          refine Ev_imul hq_163 (show decode prog_7_method_36_code 89 = .ok (.imul, 1) by decide +kernel) ?_
          refine Ev_goto (tgt := 94) hq_163 (show decode prog_7_method_36_code 90 = .ok (.goto 4, 3) by decide +kernel) (by decide) ?_
          exact Ev_iret hq_163 (show decode prog_7_method_36_code 94 = .ok (.ireturn, 1) by decide +kernel) rfl k
        · have k := k.2 c10
          refine Ev_iload hq_163 (show decode prog_7_method_36_code 77 = .ok (.iload 4, 2) by decide +kernel) rfl ?_
          refine Ev_iconst (v := 4) hq_163 (show decode prog_7_method_36_code 79 = .ok (.iconst 4, 1) by decide +kernel) (by decide) ?_
          refine Ev_icmp_ne (tgt := 93) hq_163 (show decode prog_7_method_36_code 80 = .ok (.if_icmp .ne 13, 3) by decide +kernel) (by decide) (fun c12 => ?_) (fun c12 => ?_)
          · have k := k.1 c12
            refine Ev_iload_n hq_163 (show decode prog_7_method_36_code 93 = .ok (.iload_n 3, 1) by decide +kernel) rfl ?_
            exact Ev_iret hq_163 (show decode prog_7_method_36_code 94 = .ok (.ireturn, 1) by decide +kernel) rfl k
          · have k := k.2 (Classical.not_not.mp c12)
            refine Ev_iload_n hq_163 (show decode prog_7_method_36_code 83 = .ok (.iload_n 3, 1) by decide +kernel) rfl ?_
            refine Ev_iload hq_163 (show decode prog_7_method_36_code 84 = .ok (.iload 5, 2) by decide +kernel) rfl ?_
            obtain ⟨h13, k⟩ := k
            refine Ev_idiv hq_163 (show decode prog_7_method_36_code 86 = .ok (.idiv, 1) by decide +kernel) h13 ?_
            refine Ev_iload hq_163 (show decode prog_7_method_36_code 87 = .ok (.iload 5, 2) by decide +kernel) rfl ?_
            refine Ev_imul hq_163 (show decode prog_7_method_36_code 89 = .ok (.imul, 1) by decide +kernel) ?_
            refine Ev_goto (tgt := 94) hq_163 (show decode prog_7_method_36_code 90 = .ok (.goto 4, 3) by decide +kernel) (by decide) ?_
            exact Ev_iret hq_163 (show decode prog_7_method_36_code 94 = .ok (.ireturn, 1) by decide +kernel) rfl k
      · have k := k.2 (Classical.not_not.mp c9)
        refine Ev_iload_n hq_163 (show decode prog_7_method_36_code 54 = .ok (.iload_n 3, 1) by decide +kernel) rfl ?_
        obtain ⟨r16, I14, h15, k⟩ := k
        refine Ev_stat (as := [.int y2]) hq_163 (show decode prog_7_method_36_code 55 = .ok (.invokestatic 193, 3) by decide +kernel) rfl (Or.inl rfl) hq_164 rfl (z_le rfl) h15 ?_
        refine Ev_iconst (v := 3) hq_163 (show decode prog_7_method_36_code 58 = .ok (.iconst 3, 1) by decide +kernel) (by decide) ?_
        refine Ev_aload_n hq_163 (show decode prog_7_method_36_code 59 = .ok (.aload_n 0, 1) by decide +kernel) rfl ?_
        refine Ev_getR hq_163 (show decode prog_7_method_36_code 60 = .ok (.getfield 13, 3) by decide +kernel) rfl (SGn hS (by decide)) (SGk hS rfl) (by decide) rfl (SGr hS rfl) ?_
        refine Ev_iload_n hq_163 (show decode prog_7_method_36_code 63 = .ok (.iload_n 1, 1) by decide +kernel) rfl ?_
        obtain ⟨h17, k⟩ := k
        refine Ev_iald hq_163 (show decode prog_7_method_36_code 64 = .ok (.iaload, 1) by decide +kernel) (SGn hS (by decide)) (SGk hS rfl) (SGi hS rfl h17) ?_
        refine Ev_imul hq_163 (show decode prog_7_method_36_code 65 = .ok (.imul, 1) by decide +kernel) ?_
        refine Ev_icmp_ge (tgt := 71) hq_163 (show decode prog_7_method_36_code 66 = .ok (.if_icmp .ge 5, 3) by decide +kernel) (by decide) (fun c18 => ?_) (fun c18 => ?_)
        · have k := k.1 c18
          refine Ev_iload hq_163 (show decode prog_7_method_36_code 71 = .ok (.iload 4, 2) by decide +kernel) rfl ?_
          refine Ev_iconst (v := 2) hq_163 (show decode prog_7_method_36_code 73 = .ok (.iconst 2, 1) by decide +kernel) (by decide) ?_
          refine Ev_icmp_eq (tgt := 83) hq_163 (show decode prog_7_method_36_code 74 = .ok (.if_icmp .eq 9, 3) by decide +kernel) (by decide) (fun c19 => ?_) (fun c19 => ?_)
          · have k := k.1 c19
            refine Ev_iload_n hq_163 (show decode prog_7_method_36_code 83 = .ok (.iload_n 3, 1) by decide +kernel) rfl ?_
            refine Ev_iload hq_163 (show decode prog_7_method_36_code 84 = .ok (.iload 5, 2) by decide +kernel) rfl ?_
            obtain ⟨h20, k⟩ := k
            refine Ev_idiv hq_163 (show decode prog_7_method_36_code 86 = .ok (.idiv, 1) by decide +kernel) h20 ?_
            refine Ev_iload hq_163 (show decode prog_7_method_36_code 87 = .ok (.iload 5, 2) by decide +kernel) rfl ?_
            refine Ev_imul hq_163 (show decode prog_7_method_36_code 89 = .ok (.imul, 1) by decide +kernel) ?_
            refine Ev_goto (tgt := 94) hq_163 (show decode prog_7_method_36_code 90 = .ok (.goto 4, 3) by decide +kernel) (by decide) ?_
            exact Ev_iret hq_163 (show decode prog_7_method_36_code 94 = .ok (.ireturn, 1) by decide +kernel) rfl k
          · have k := k.2 c19
            refine Ev_iload hq_163 (show decode prog_7_method_36_code 77 = .ok (.iload 4, 2) by decide +kernel) rfl ?_
            refine Ev_iconst (v := 4) hq_163 (show decode prog_7_method_36_code 79 = .ok (.iconst 4, 1) by decide +kernel) (by decide) ?_
            refine Ev_icmp_ne (tgt := 93) hq_163 (show decode prog_7_method_36_code 80 = .ok (.if_icmp .ne 13, 3) by decide +kernel) (by decide) (fun c21 => ?_) (fun c21 => ?_)
            · have k := k.1 c21
              refine Ev_iload_n hq_163 (show decode prog_7_method_36_code 93 = .ok (.iload_n 3, 1) by decide +kernel) rfl ?_
              exact Ev_iret hq_163 (show decode prog_7_method_36_code 94 = .ok (.ireturn, 1) by decide +kernel) rfl k
            · have k := k.2 (Classical.not_not.mp c21)
              refine Ev_iload_n hq_163 (show decode prog_7_method_36_code 83 = .ok (.iload_n 3, 1) by decide +kernel) rfl ?_
              refine Ev_iload hq_163 (show decode prog_7_method_36_code 84 = .ok (.iload 5, 2) by decide +kernel) rfl ?_
              obtain ⟨h22, k⟩ := k
              refine Ev_idiv hq_163 (show decode prog_7_method_36_code 86 = .ok (.idiv, 1) by decide +kernel) h22 ?_
              refine Ev_iload hq_163 (show decode prog_7_method_36_code 87 = .ok (.iload 5, 2) by decide +kernel) rfl ?_
              refine Ev_imul hq_163 (show decode prog_7_method_36_code 89 = .ok (.imul, 1) by decide +kernel) ?_
              refine Ev_goto (tgt := 94) hq_163 (show decode prog_7_method_36_code 90 = .ok (.goto 4, 3) by decide +kernel) (by decide) ?_
              exact Ev_iret hq_163 (show decode prog_7_method_36_code 94 = .ok (.ireturn, 1) by decide +kernel) rfl k
        · have k := k.2 c18
          refine Ev_iconst (v := 0) hq_163 (show decode prog_7_method_36_code 69 = .ok (.iconst 0, 1) by decide +kernel) (by decide) ?_
          exact Ev_iret hq_163 (show decode prog_7_method_36_code 70 = .ok (.ireturn, 1) by decide +kernel) rfl k
set_option maxRecDepth 20000 in
theorem wp_Z_far {X : Nat × (Nat → Int32)} {d : Nat} {G : zG} {I : zI} {res : Option Value × zG × zI} (x0 : Int32) 
    (k : (0 ≤ x0 → res = (some (.int x0), G, I)) ∧ (¬ 0 ≤ x0 → res = (some (.int (-x0)), G, I))) :
    Ev X d 164 0 [.int x0] [] G I res := by
  refine Ev_iload_n hq_164 (show decode prog_7_method_5_code 0 = .ok (.iload_n 0, 1) by decide +kernel) rfl ?_
  refine Ev_if_ge (tgt := 9) hq_164 (show decode prog_7_method_5_code 1 = .ok (.ifCond .ge 8, 3) by decide +kernel) (by decide) (fun c1 => ?_) (fun c1 => ?_)
  · have k := k.1 c1
    refine Ev_iload_n hq_164 (show decode prog_7_method_5_code 9 = .ok (.iload_n 0, 1) by decide +kernel) rfl ?_
    exact Ev_iret hq_164 (show decode prog_7_method_5_code 10 = .ok (.ireturn, 1) by decide +kernel) rfl k
  · have k := k.2 c1
    refine Ev_iload_n hq_164 (show decode prog_7_method_5_code 4 = .ok (.iload_n 0, 1) by decide +kernel) rfl ?_
    refine Ev_ineg hq_164 (show decode prog_7_method_5_code 5 = .ok (.ineg, 1) by decide +kernel) ?_
    refine Ev_goto (tgt := 10) hq_164 (show decode prog_7_method_5_code 6 = .ok (.goto 4, 3) by decide +kernel) (by decide) ?_
    exact Ev_iret hq_164 (show decode prog_7_method_5_code 10 = .ok (.ireturn, 1) by decide +kernel) rfl k
set_option maxRecDepth 20000 in
theorem wp_Z_day {X : Nat × (Nat → Int32)} {d : Nat} {G : zG} {I : zI} {res : Option Value × zG × zI} (x1 : Int32) (x2 : Int32) (hS : SG G) 
    (k : ∃ (r3 : Int32) (I1 : zI), Cv X d 148 [.ref 57, .int x1] G I (some (.int r3), G, I1) ∧ ((¬ r3 = 0 → ∃ (r7 : Int32) (I5 : zI), Cv X d 131 [.int x2, .int 0, .int 3] G I1 (some (.int r7), G, I5) ∧ ((¬ r7 = 0 → ∃ (I9 : zI), Cv X d 159 [.ref 57, .int 30] G I5 (none, G, I9) ∧ ((¬ x2 = 0 → (¬ x2 = 1 → (¬ x2 = 2 → ∃ (r16 : Int32) (I14 : zI), Cv X d 166 [.ref 57, .int x1, .int 0, .int 0] G I9 (some (.int r16), G, I14) ∧ (res = (some (.int r16), G, I14))) ∧ (x2 = 2 → z_inr x1 4 ∧ (res = (some (.int (I9 77 x1.toNatClampNeg)), G, I9)))) ∧ (x2 = 1 → z_inr x1 4 ∧ (res = (some (.int (I9 76 x1.toNatClampNeg)), G, I9)))) ∧ (x2 = 0 → z_inr x1 4 ∧ (res = (some (.int (I9 75 x1.toNatClampNeg)), G, I9))))) ∧ (r7 = 0 → res = (some (.int (-7)), G, I5)))) ∧ (r3 = 0 → res = (some (.int (-5)), G, I1)))) :
    Ev X (d + 1) 165 0 [.ref 57, .int x1, .int x2] [] G I res := by
  refine Ev_aload_n hq_165 (show decode prog_7_method_44_code 0 = .ok (.aload_n 0, 1) by decide +kernel) rfl ?_
  refine Ev_iload_n hq_165 (show decode prog_7_method_44_code 1 = .ok (.iload_n 1, 1) by decide +kernel) rfl ?_
  obtain ⟨r3, I1, h2, k⟩ := k
  refine Ev_virt (as := [.int x1]) hq_165 (show decode prog_7_method_44_code 2 = .ok (.invokevirtual 176, 3) by decide +kernel) rfl hq_148 rfl (z_le rfl) ⟨(SGn hS (by decide)), (SGk hS rfl), by decide⟩ h2 ?_
  refine Ev_if_ne (tgt := 11) hq_165 (show decode prog_7_method_44_code 5 = .ok (.ifCond .ne 6, 3) by decide +kernel) (by decide) (fun c4 => ?_) (fun c4 => ?_)
  · have k := k.1 c4
    refine Ev_iload_n hq_165 (show decode prog_7_method_44_code 11 = .ok (.iload_n 2, 1) by decide +kernel) rfl ?_
    refine Ev_iconst (v := 0) hq_165 (show decode prog_7_method_44_code 12 = .ok (.iconst 0, 1) by decide +kernel) (by decide) ?_
    refine Ev_iconst (v := 3) hq_165 (show decode prog_7_method_44_code 13 = .ok (.iconst 3, 1) by decide +kernel) (by decide) ?_
    obtain ⟨r7, I5, h6, k⟩ := k
    refine Ev_stat (as := [.int x2, .int 0, .int 3]) hq_165 (show decode prog_7_method_44_code 14 = .ok (.invokestatic 90, 3) by decide +kernel) rfl (Or.inl rfl) hq_131 rfl (z_le rfl) h6 ?_
    refine Ev_if_ne (tgt := 23) hq_165 (show decode prog_7_method_44_code 17 = .ok (.ifCond .ne 6, 3) by decide +kernel) (by decide) (fun c8 => ?_) (fun c8 => ?_)
    · have k := k.1 c8
      refine Ev_aload_n hq_165 (show decode prog_7_method_44_code 23 = .ok (.aload_n 0, 1) by decide +kernel) rfl ?_
      refine Ev_bipush (v := 30) hq_165 (show decode prog_7_method_44_code 24 = .ok (.bipush 30, 2) by decide +kernel) (by decide) ?_
      obtain ⟨I9, h10, k⟩ := k
      refine Ev_virt (as := [.int 30]) hq_165 (show decode prog_7_method_44_code 26 = .ok (.invokevirtual 205, 3) by decide +kernel) rfl hq_159 rfl (z_le rfl) ⟨(SGn hS (by decide)), (SGk hS rfl), by decide⟩ h10 ?_
      refine Ev_iload_n hq_165 (show decode prog_7_method_44_code 29 = .ok (.iload_n 2, 1) by decide +kernel) rfl ?_
      refine Ev_if_ne (tgt := 42) hq_165 (show decode prog_7_method_44_code 30 = .ok (.ifCond .ne 12, 3) by decide +kernel) (by decide) (fun c11 => ?_) (fun c11 => ?_)
      · have k := k.1 c11
        refine Ev_iload_n hq_165 (show decode prog_7_method_44_code 42 = .ok (.iload_n 2, 1) by decide +kernel) rfl ?_
        refine Ev_iconst (v := 1) hq_165 (show decode prog_7_method_44_code 43 = .ok (.iconst 1, 1) by decide +kernel) (by decide) ?_
        refine Ev_icmp_ne (tgt := 56) hq_165 (show decode prog_7_method_44_code 44 = .ok (.if_icmp .ne 12, 3) by decide +kernel) (by decide) (fun c12 => ?_) (fun c12 => ?_)
        · have k := k.1 c12
          refine Ev_iload_n hq_165 (show decode prog_7_method_44_code 56 = .ok (.iload_n 2, 1) by decide +kernel) rfl ?_
          refine Ev_iconst (v := 2) hq_165 (show decode prog_7_method_44_code 57 = .ok (.iconst 2, 1) by decide +kernel) (by decide) ?_
          refine Ev_icmp_ne (tgt := 70) hq_165 (show decode prog_7_method_44_code 58 = .ok (.if_icmp .ne 12, 3) by decide +kernel) (by decide) (fun c13 => ?_) (fun c13 => ?_)
          · have k := k.1 c13
            refine Ev_aload_n hq_165 (show decode prog_7_method_44_code 70 = .ok (.aload_n 0, 1) by decide +kernel) rfl ?_
            refine Ev_iload_n hq_165 (show decode prog_7_method_44_code 71 = .ok (.iload_n 1, 1) by decide +kernel) rfl ?_
            refine Ev_iconst (v := 0) hq_165 (show decode prog_7_method_44_code 72 = .ok (.iconst 0, 1) by decide +kernel) (by decide) ?_
            refine Ev_iconst (v := 0) hq_165 (show decode prog_7_method_44_code 73 = .ok (.iconst 0, 1) by decide +kernel) (by decide) ?_
            obtain ⟨r16, I14, h15, k⟩ := k
            refine Ev_virt (as := [.int x1, .int 0, .int 0]) hq_165 (show decode prog_7_method_44_code 74 = .ok (.invokevirtual 213, 3) by decide +kernel) rfl hq_166 rfl (z_le rfl) ⟨(SGn hS (by decide)), (SGk hS rfl), by decide⟩ h15 ?_
            exact Ev_iret hq_165 (show decode prog_7_method_44_code 77 = .ok (.ireturn, 1) by decide +kernel) rfl k
          · have k := k.2 (Classical.not_not.mp c13)
            refine Ev_aload_n hq_165 (show decode prog_7_method_44_code 61 = .ok (.aload_n 0, 1) by decide +kernel) rfl ?_
            refine Ev_getR hq_165 (show decode prog_7_method_44_code 62 = .ok (.getfield 67, 3) by decide +kernel) rfl (SGn hS (by decide)) (SGk hS rfl) (by decide) rfl (SGr hS rfl) ?_
            refine Ev_iload_n hq_165 (show decode prog_7_method_44_code 65 = .ok (.iload_n 1, 1) by decide +kernel) rfl ?_
            obtain ⟨h17, k⟩ := k
            refine Ev_iald hq_165 (show decode prog_7_method_44_code 66 = .ok (.iaload, 1) by decide +kernel) (SGn hS (by decide)) (SGk hS rfl) (SGi hS rfl h17) ?_
            refine Ev_goto (tgt := 77) hq_165 (show decode prog_7_method_44_code 67 = .ok (.goto 10, 3) by decide +kernel) (by decide) ?_
            exact Ev_iret hq_165 (show decode prog_7_method_44_code 77 = .ok (.ireturn, 1) by decide +kernel) rfl k
        · have k := k.2 (Classical.not_not.mp c12)
          refine Ev_aload_n hq_165 (show decode prog_7_method_44_code 47 = .ok (.aload_n 0, 1) by decide +kernel) rfl ?_
          refine Ev_getR hq_165 (show decode prog_7_method_44_code 48 = .ok (.getfield 64, 3) by decide +kernel) rfl (SGn hS (by decide)) (SGk hS rfl) (by decide) rfl (SGr hS rfl) ?_
          refine Ev_iload_n hq_165 (show decode prog_7_method_44_code 51 = .ok (.iload_n 1, 1) by decide +kernel) rfl ?_
          obtain ⟨h18, k⟩ := k
          refine Ev_iald hq_165 (show decode prog_7_method_44_code 52 = .ok (.iaload, 1) by decide +kernel) (SGn hS (by decide)) (SGk hS rfl) (SGi hS rfl h18) ?_
          refine Ev_goto (tgt := 77) hq_165 (show decode prog_7_method_44_code 53 = .ok (.goto 24, 3) by decide +kernel) (by decide) ?_
          exact Ev_iret hq_165 (show decode prog_7_method_44_code 77 = .ok (.ireturn, 1) by decide +kernel) rfl k
      · have k := k.2 (Classical.not_not.mp c11)
        refine Ev_aload_n hq_165 (show decode prog_7_method_44_code 33 = .ok (.aload_n 0, 1) by decide +kernel) rfl ?_
        refine Ev_getR hq_165 (show decode prog_7_method_44_code 34 = .ok (.getfield 61, 3) by decide +kernel) rfl (SGn hS (by decide)) (SGk hS rfl) (by decide) rfl (SGr hS rfl) ?_
        refine Ev_iload_n hq_165 (show decode prog_7_method_44_code 37 = .ok (.iload_n 1, 1) by decide +kernel) rfl ?_
        obtain ⟨h19, k⟩ := k
        refine Ev_iald hq_165 (show decode prog_7_method_44_code 38 = .ok (.iaload, 1) by decide +kernel) (SGn hS (by decide)) (SGk hS rfl) (SGi hS rfl h19) ?_
        refine Ev_goto (tgt := 77) hq_165 (show decode prog_7_method_44_code 39 = .ok (.goto 38, 3) by decide +kernel) (by decide) ?_
        exact Ev_iret hq_165 (show decode prog_7_method_44_code 77 = .ok (.ireturn, 1) by decide +kernel) rfl k
    · have k := k.2 (Classical.not_not.mp c8)
      refine Ev_bipush (v := (-7)) hq_165 (show decode prog_7_method_44_code 20 = .ok (.bipush (-7), 2) by decide +kernel) (by decide) ?_
      exact Ev_iret hq_165 (show decode prog_7_method_44_code 22 = .ok (.ireturn, 1) by decide +kernel) rfl k
  · have k := k.2 (Classical.not_not.mp c4)
    refine Ev_bipush (v := (-5)) hq_165 (show decode prog_7_method_44_code 8 = .ok (.bipush (-5), 2) by decide +kernel) (by decide) ?_
    exact Ev_iret hq_165 (show decode prog_7_method_44_code 10 = .ok (.ireturn, 1) by decide +kernel) rfl k
set_option maxRecDepth 20000 in
theorem wp_Z_mostFelt {X : Nat × (Nat → Int32)} {d : Nat} {G : zG} {I : zI} {res : Option Value × zG × zI} (x1 : Int32) (x2 : Int32) (x3 : Int32) (hS : SG G) 
    (k : z_inr ((4 * x2) + x1) 120 ∧ (∀ y2 : Int32, y2 = (I 74 ((4 * x2) + x1).toNatClampNeg) → Ev X d 166 15 [.ref 57, .int x1, .int x2, .int x3, .int y2, .int x2, zU] [] G I res)) :
    Ev X d 166 0 [.ref 57, .int x1, .int x2, .int x3, zU, zU, zU] [] G I res := by
  refine Ev_aload_n hq_166 (show decode prog_7_method_43_code 0 = .ok (.aload_n 0, 1) by decide +kernel) rfl ?_
  refine Ev_getR hq_166 (show decode prog_7_method_43_code 1 = .ok (.getfield 58, 3) by decide +kernel) rfl (SGn hS (by decide)) (SGk hS rfl) (by decide) rfl (SGr hS rfl) ?_
  refine Ev_iconst (v := 4) hq_166 (show decode prog_7_method_43_code 4 = .ok (.iconst 4, 1) by decide +kernel) (by decide) ?_
  refine Ev_iload_n hq_166 (show decode prog_7_method_43_code 5 = .ok (.iload_n 2, 1) by decide +kernel) rfl ?_
  refine Ev_imul hq_166 (show decode prog_7_method_43_code 6 = .ok (.imul, 1) by decide +kernel) ?_
  refine Ev_iload_n hq_166 (show decode prog_7_method_43_code 7 = .ok (.iload_n 1, 1) by decide +kernel) rfl ?_
  refine Ev_iadd hq_166 (show decode prog_7_method_43_code 8 = .ok (.iadd, 1) by decide +kernel) ?_
  obtain ⟨h1, k⟩ := k
  refine Ev_iald hq_166 (show decode prog_7_method_43_code 9 = .ok (.iaload, 1) by decide +kernel) (SGn hS (by decide)) (SGk hS rfl) (SGi hS rfl h1) ?_
  obtain ⟨y2, ey2⟩ : ∃ y2 : Int32, y2 = (I 74 ((4 * x2) + x1).toNatClampNeg) := ⟨_, rfl⟩
  have k := k y2 ey2
  rw [← ey2]
  refine Ev_istore (lo2 := [.ref 57, .int x1, .int x2, .int x3, .int y2, zU, zU]) hq_166 (show decode prog_7_method_43_code 10 = .ok (.istore 4, 2) by decide +kernel) (z_le rfl) rfl ?_
  refine Ev_iload_n hq_166 (show decode prog_7_method_43_code 12 = .ok (.iload_n 2, 1) by decide +kernel) rfl ?_
  refine Ev_istore (lo2 := [.ref 57, .int x1, .int x2, .int x3, .int y2, .int x2, zU]) hq_166 (show decode prog_7_method_43_code 13 = .ok (.istore 5, 2) by decide +kernel) (z_le rfl) rfl ?_
  exact k
set_option maxRecDepth 20000 in
theorem wp_Z_mostFelt_15 {X : Nat × (Nat → Int32)} {d : Nat} {G : zG} {I : zI} {res : Option Value × zG × zI} (x1 : Int32) (x2 : Int32) (x3 : Int32) (x4 : Int32) (x5 : Int32) (v6 : Value) (cv6 : v6.category = 1) (hS : SG G) 
    (k : (30 ≤ x5 → res = (some (.int x4), G, I)) ∧ (¬ 30 ≤ x5 → z_inr ((4 * x5) + x1) 120 ∧ (∀ y3 : Int32, y3 = (I 74 ((4 * x5) + x1).toNatClampNeg) → (x3 = 0 → (y3 ≤ x4 → ∀ y6 : Int32, y6 = x5 + 1 → Ev X d 166 15 [.ref 57, .int x1, .int x2, .int x3, .int x4, .int y6, .int y3] [] G I res) ∧ (¬ y3 ≤ x4 → ∀ y7 : Int32, y7 = x5 + 1 → Ev X d 166 15 [.ref 57, .int x1, .int x2, .int x3, .int y3, .int y7, .int y3] [] G I res)) ∧ (¬ x3 = 0 → (x4 ≤ y3 → ∀ y9 : Int32, y9 = x5 + 1 → Ev X d 166 15 [.ref 57, .int x1, .int x2, .int x3, .int x4, .int y9, .int y3] [] G I res) ∧ (¬ x4 ≤ y3 → ∀ y10 : Int32, y10 = x5 + 1 → Ev X d 166 15 [.ref 57, .int x1, .int x2, .int x3, .int y3, .int y10, .int y3] [] G I res))))) :
    Ev X d 166 15 [.ref 57, .int x1, .int x2, .int x3, .int x4, .int x5, v6] [] G I res := by
  refine Ev_iload hq_166 (show decode prog_7_method_43_code 15 = .ok (.iload 5, 2) by decide +kernel) rfl ?_
  refine Ev_bipush (v := 30) hq_166 (show decode prog_7_method_43_code 17 = .ok (.bipush 30, 2) by decide +kernel) (by decide) ?_
  refine Ev_icmp_ge (tgt := 78) hq_166 (show decode prog_7_method_43_code 19 = .ok (.if_icmp .ge 59, 3) by decide +kernel) (by decide) (fun c1 => ?_) (fun c1 => ?_)
  · have k := k.1 c1
    refine Ev_iload hq_166 (show decode prog_7_method_43_code 78 = .ok (.iload 4, 2) by decide +kernel) rfl ?_
    exact Ev_iret hq_166 (show decode prog_7_method_43_code 80 = .ok (.ireturn, 1) by decide +kernel) rfl k
  · have k := k.2 c1
    refine Ev_aload_n hq_166 (show decode prog_7_method_43_code 22 = .ok (.aload_n 0, 1) by decide +kernel) rfl ?_
    refine Ev_getR hq_166 (show decode prog_7_method_43_code 23 = .ok (.getfield 58, 3) by decide +kernel) rfl (SGn hS (by decide)) (SGk hS rfl) (by decide) rfl (SGr hS rfl) ?_
    refine Ev_iconst (v := 4) hq_166 (show decode prog_7_method_43_code 26 = .ok (.iconst 4, 1) by decide +kernel) (by decide) ?_
    refine Ev_iload hq_166 (show decode prog_7_method_43_code 27 = .ok (.iload 5, 2) by decide +kernel) rfl ?_
    refine Ev_imul hq_166 (show decode prog_7_method_43_code 29 = .ok (.imul, 1) by decide +kernel) ?_
    refine Ev_iload_n hq_166 (show decode prog_7_method_43_code 30 = .ok (.iload_n 1, 1) by decide +kernel) rfl ?_
    refine Ev_iadd hq_166 (show decode prog_7_method_43_code 31 = .ok (.iadd, 1) by decide +kernel) ?_
    obtain ⟨h2, k⟩ := k
    refine Ev_iald hq_166 (show decode prog_7_method_43_code 32 = .ok (.iaload, 1) by decide +kernel) (SGn hS (by decide)) (SGk hS rfl) (SGi hS rfl h2) ?_
    obtain ⟨y3, ey3⟩ : ∃ y3 : Int32, y3 = (I 74 ((4 * x5) + x1).toNatClampNeg) := ⟨_, rfl⟩
    have k := k y3 ey3
    rw [← ey3]
    refine Ev_istore (lo2 := [.ref 57, .int x1, .int x2, .int x3, .int x4, .int x5, .int y3]) hq_166 (show decode prog_7_method_43_code 33 = .ok (.istore 6, 2) by decide +kernel) (z_le rfl) rfl ?_
    refine Ev_iload_n hq_166 (show decode prog_7_method_43_code 35 = .ok (.iload_n 3, 1) by decide +kernel) rfl ?_
    refine Ev_if_eq (tgt := 56) hq_166 (show decode prog_7_method_43_code 36 = .ok (.ifCond .eq 20, 3) by decide +kernel) (by decide) (fun c4 => ?_) (fun c4 => ?_)
    · have k := k.1 c4
      refine Ev_iload hq_166 (show decode prog_7_method_43_code 56 = .ok (.iload 6, 2) by decide +kernel) rfl ?_
      refine Ev_iload hq_166 (show decode prog_7_method_43_code 58 = .ok (.iload 4, 2) by decide +kernel) rfl ?_
      refine Ev_icmp_le (tgt := 68) hq_166 (show decode prog_7_method_43_code 60 = .ok (.if_icmp .le 8, 3) by decide +kernel) (by decide) (fun c5 => ?_) (fun c5 => ?_)
      · have k := k.1 c5
        refine Ev_iload hq_166 (show decode prog_7_method_43_code 68 = .ok (.iload 4, 2) by decide +kernel) rfl ?_
        refine Ev_istore (lo2 := [.ref 57, .int x1, .int x2, .int x3, .int x4, .int x5, .int y3]) hq_166 (show decode prog_7_method_43_code 70 = .ok (.istore 4, 2) by decide +kernel) (z_le rfl) rfl ?_
        obtain ⟨y6, ey6⟩ : ∃ y6 : Int32, y6 = x5 + 1 := ⟨_, rfl⟩
        have k := k y6 ey6
        refine Ev_iinc (v := y6) (lo2 := [.ref 57, .int x1, .int x2, .int x3, .int x4, .int y6, .int y3]) hq_166 (show decode prog_7_method_43_code 72 = .ok (.iinc 5 1, 3) by decide +kernel) rfl (by rw [ey6]; rfl) rfl ?_
        refine Ev_goto (tgt := 15) hq_166 (show decode prog_7_method_43_code 75 = .ok (.goto (-60), 3) by decide +kernel) (by decide) ?_
        exact k
      · have k := k.2 c5
        refine Ev_iload hq_166 (show decode prog_7_method_43_code 63 = .ok (.iload 6, 2) by decide +kernel) rfl ?_
        refine Ev_goto (tgt := 70) hq_166 (show decode prog_7_method_43_code 65 = .ok (.goto 5, 3) by decide +kernel) (by decide) ?_
        refine Ev_istore (lo2 := [.ref 57, .int x1, .int x2, .int x3, .int y3, .int x5, .int y3]) hq_166 (show decode prog_7_method_43_code 70 = .ok (.istore 4, 2) by decide +kernel) (z_le rfl) rfl ?_
        obtain ⟨y7, ey7⟩ : ∃ y7 : Int32, y7 = x5 + 1 := ⟨_, rfl⟩
        have k := k y7 ey7
        refine Ev_iinc (v := y7) (lo2 := [.ref 57, .int x1, .int x2, .int x3, .int y3, .int y7, .int y3]) hq_166 (show decode prog_7_method_43_code 72 = .ok (.iinc 5 1, 3) by decide +kernel) rfl (by rw [ey7]; rfl) rfl ?_
        refine Ev_goto (tgt := 15) hq_166 (show decode prog_7_method_43_code 75 = .ok (.goto (-60), 3) by decide +kernel) (by decide) ?_
        exact k
    · have k := k.2 c4
      refine Ev_iload hq_166 (show decode prog_7_method_43_code 39 = .ok (.iload 6, 2) by decide +kernel) rfl ?_
      refine Ev_iload hq_166 (show decode prog_7_method_43_code 41 = .ok (.iload 4, 2) by decide +kernel) rfl ?_
      refine Ev_icmp_ge (tgt := 51) hq_166 (show decode prog_7_method_43_code 43 = .ok (.if_icmp .ge 8, 3) by decide +kernel) (by decide) (fun c8 => ?_) (fun c8 => ?_)
      · have k := k.1 c8
        refine Ev_iload hq_166 (show decode prog_7_method_43_code 51 = .ok (.iload 4, 2) by decide +kernel) rfl ?_
        refine Ev_goto (tgt := 70) hq_166 (show decode prog_7_method_43_code 53 = .ok (.goto 17, 3) by decide +kernel) (by decide) ?_
        refine Ev_istore (lo2 := [.ref 57, .int x1, .int x2, .int x3, .int x4, .int x5, .int y3]) hq_166 (show decode prog_7_method_43_code 70 = .ok (.istore 4, 2) by decide +kernel) (z_le rfl) rfl ?_
        obtain ⟨y9, ey9⟩ : ∃ y9 : Int32, y9 = x5 + 1 := ⟨_, rfl⟩
        have k := k y9 ey9
        refine Ev_iinc (v := y9) (lo2 := [.ref 57, .int x1, .int x2, .int x3, .int x4, .int y9, .int y3]) hq_166 (show decode prog_7_method_43_code 72 = .ok (.iinc 5 1, 3) by decide +kernel) rfl (by rw [ey9]; rfl) rfl ?_
        refine Ev_goto (tgt := 15) hq_166 (show decode prog_7_method_43_code 75 = .ok (.goto (-60), 3) by decide +kernel) (by decide) ?_
        exact k
      · have k := k.2 c8
        refine Ev_iload hq_166 (show decode prog_7_method_43_code 46 = .ok (.iload 6, 2) by decide +kernel) rfl ?_
        refine Ev_goto (tgt := 70) hq_166 (show decode prog_7_method_43_code 48 = .ok (.goto 22, 3) by decide +kernel) (by decide) ?_
        refine Ev_istore (lo2 := [.ref 57, .int x1, .int x2, .int x3, .int y3, .int x5, .int y3]) hq_166 (show decode prog_7_method_43_code 70 = .ok (.istore 4, 2) by decide +kernel) (z_le rfl) rfl ?_
        obtain ⟨y10, ey10⟩ : ∃ y10 : Int32, y10 = x5 + 1 := ⟨_, rfl⟩
        have k := k y10 ey10
        refine Ev_iinc (v := y10) (lo2 := [.ref 57, .int x1, .int x2, .int x3, .int y3, .int y10, .int y3]) hq_166 (show decode prog_7_method_43_code 72 = .ok (.iinc 5 1, 3) by decide +kernel) rfl (by rw [ey10]; rfl) rfl ?_
        refine Ev_goto (tgt := 15) hq_166 (show decode prog_7_method_43_code 75 = .ok (.goto (-60), 3) by decide +kernel) (by decide) ?_
        exact k
set_option maxRecDepth 20000 in
theorem wp_Z_rests {X : Nat × (Nat → Int32)} {d : Nat} {G : zG} {I : zI} {res : Option Value × zG × zI} (x1 : Int32) (x2 : Int32) (hS : SG G) 
    (k : ∃ (r3 : Int32) (I1 : zI), Cv X d 148 [.ref 57, .int x1] G I (some (.int r3), G, I1) ∧ ((¬ r3 = 0 → ∃ (r7 : Int32) (I5 : zI), Cv X d 168 [.int x2] G I1 (some (.int r7), G, I5) ∧ ((r7 = 0 → res = (some (.int (-7)), G, I5)) ∧ (¬ r7 = 0 → ∃ (r11 : Int32) (I9 : zI), Cv X d 169 [.ref 57, .int x1, .int x2] G I5 (some (.int r11), G, I9) ∧ (res = (some (.int r11), G, I9))))) ∧ (r3 = 0 → res = (some (.int (-5)), G, I1)))) :
    Ev X (d + 1) 167 0 [.ref 57, .int x1, .int x2] [] G I res := by
  refine Ev_aload_n hq_167 (show decode prog_7_method_47_code 0 = .ok (.aload_n 0, 1) by decide +kernel) rfl ?_
  refine Ev_iload_n hq_167 (show decode prog_7_method_47_code 1 = .ok (.iload_n 1, 1) by decide +kernel) rfl ?_
  obtain ⟨r3, I1, h2, k⟩ := k
  refine Ev_virt (as := [.int x1]) hq_167 (show decode prog_7_method_47_code 2 = .ok (.invokevirtual 176, 3) by decide +kernel) rfl hq_148 rfl (z_le rfl) ⟨(SGn hS (by decide)), (SGk hS rfl), by decide⟩ h2 ?_
  refine Ev_if_ne (tgt := 11) hq_167 (show decode prog_7_method_47_code 5 = .ok (.ifCond .ne 6, 3) by decide +kernel) (by decide) (fun c4 => ?_) (fun c4 => ?_)
  · have k := k.1 c4
    refine Ev_iload_n hq_167 (show decode prog_7_method_47_code 11 = .ok (.iload_n 2, 1) by decide +kernel) rfl ?_
    obtain ⟨r7, I5, h6, k⟩ := k
    refine Ev_stat (as := [.int x2]) hq_167 (show decode prog_7_method_47_code 12 = .ok (.invokestatic 220, 3) by decide +kernel) rfl (Or.inl rfl) hq_168 rfl (z_le rfl) h6 ?_
    refine Ev_if_eq (tgt := 27) hq_167 (show decode prog_7_method_47_code 15 = .ok (.ifCond .eq 12, 3) by decide +kernel) (by decide) (fun c8 => ?_) (fun c8 => ?_)
    · have k := k.1 c8
      refine Ev_bipush (v := (-7)) hq_167 (show decode prog_7_method_47_code 27 = .ok (.bipush (-7), 2) by decide +kernel) (by decide) ?_
      exact Ev_iret hq_167 (show decode prog_7_method_47_code 29 = .ok (.ireturn, 1) by decide +kernel) rfl k
    · have k := k.2 c8
      refine Ev_aload_n hq_167 (show decode prog_7_method_47_code 18 = .ok (.aload_n 0, 1) by decide +kernel) rfl ?_
      refine Ev_iload_n hq_167 (show decode prog_7_method_47_code 19 = .ok (.iload_n 1, 1) by decide +kernel) rfl ?_
      refine Ev_iload_n hq_167 (show decode prog_7_method_47_code 20 = .ok (.iload_n 2, 1) by decide +kernel) rfl ?_
      obtain ⟨r11, I9, h10, k⟩ := k
      refine Ev_virt (as := [.int x1, .int x2]) hq_167 (show decode prog_7_method_47_code 21 = .ok (.invokevirtual 223, 3) by decide +kernel) rfl hq_169 rfl (z_le rfl) ⟨(SGn hS (by decide)), (SGk hS rfl), by decide⟩ h10 ?_
      refine Ev_goto (tgt := 29) hq_167 (show decode prog_7_method_47_code 24 = .ok (.goto 5, 3) by decide +kernel) (by decide) ?_
      exact Ev_iret hq_167 (show decode prog_7_method_47_code 29 = .ok (.ireturn, 1) by decide +kernel) rfl k
  · have k := k.2 (Classical.not_not.mp c4)
    refine Ev_bipush (v := (-5)) hq_167 (show decode prog_7_method_47_code 8 = .ok (.bipush (-5), 2) by decide +kernel) (by decide) ?_
    exact Ev_iret hq_167 (show decode prog_7_method_47_code 10 = .ok (.ireturn, 1) by decide +kernel) rfl k
set_option maxRecDepth 20000 in
theorem wp_Z_isNear {X : Nat × (Nat → Int32)} {d : Nat} {G : zG} {I : zI} {res : Option Value × zG × zI} (x0 : Int32) 
    (k : ∃ (r3 : Int32) (I1 : zI), Cv X d 131 [.int x0, .int 0, .int 999] G I (some (.int r3), G, I1) ∧ ((r3 = 0 ∨ r3 = 1) ∧ res = (some (.int r3), G, I1))) :
    Ev X (d + 1) 168 0 [.int x0] [] G I res := by
  refine Ev_iload_n hq_168 (show decode prog_7_method_7_code 0 = .ok (.iload_n 0, 1) by decide +kernel) rfl ?_
  refine Ev_iconst (v := 0) hq_168 (show decode prog_7_method_7_code 1 = .ok (.iconst 0, 1) by decide +kernel) (by decide) ?_
  refine Ev_sipush (v := 999) hq_168 (show decode prog_7_method_7_code 2 = .ok (.sipush 999, 3) by decide +kernel) (by decide) ?_
  obtain ⟨r3, I1, h2, k⟩ := k
  refine Ev_stat (as := [.int x0, .int 0, .int 999]) hq_168 (show decode prog_7_method_7_code 5 = .ok (.invokestatic 90, 3) by decide +kernel) rfl (Or.inl rfl) hq_131 rfl (z_le rfl) h2 ?_
  obtain ⟨h4, k⟩ := k
  exact Ev_iret hq_168 (show decode prog_7_method_7_code 8 = .ok (.ireturn, 1) by decide +kernel) (z_nb h4) k
set_option maxRecDepth 20000 in
theorem wp_Z_restsNow {X : Nat × (Nat → Int32)} {d : Nat} {G : zG} {I : zI} {res : Option Value × zG × zI} (x1 : Int32) (x2 : Int32) (hS : SG G) 
    (k : ∃ (I1 : zI), Cv X d 159 [.ref 57, .int 30] G I (none, G, I1) ∧ (∃ (r5 : Int32) (I3 : zI), Cv X d 170 [.ref 57, .int x1, .int x2] G I1 (some (.int r5), G, I3) ∧ (res = (some (.int r5), G, I3)))) :
    Ev X (d + 1) 169 0 [.ref 57, .int x1, .int x2] [] G I res := by
  refine Ev_aload_n hq_169 (show decode prog_7_method_46_code 0 = .ok (.aload_n 0, 1) by decide +kernel) rfl ?_
  refine Ev_bipush (v := 30) hq_169 (show decode prog_7_method_46_code 1 = .ok (.bipush 30, 2) by decide +kernel) (by decide) ?_
  obtain ⟨I1, h2, k⟩ := k
  refine Ev_virt (as := [.int 30]) hq_169 (show decode prog_7_method_46_code 3 = .ok (.invokevirtual 205, 3) by decide +kernel) rfl hq_159 rfl (z_le rfl) ⟨(SGn hS (by decide)), (SGk hS rfl), by decide⟩ h2 ?_
  refine Ev_aload_n hq_169 (show decode prog_7_method_46_code 6 = .ok (.aload_n 0, 1) by decide +kernel) rfl ?_
  refine Ev_iload_n hq_169 (show decode prog_7_method_46_code 7 = .ok (.iload_n 1, 1) by decide +kernel) rfl ?_
  refine Ev_iload_n hq_169 (show decode prog_7_method_46_code 8 = .ok (.iload_n 2, 1) by decide +kernel) rfl ?_
  obtain ⟨r5, I3, h4, k⟩ := k
  refine Ev_virt (as := [.int x1, .int x2]) hq_169 (show decode prog_7_method_46_code 9 = .ok (.invokevirtual 217, 3) by decide +kernel) rfl hq_170 rfl (z_le rfl) ⟨(SGn hS (by decide)), (SGk hS rfl), by decide⟩ h4 ?_
  exact Ev_iret hq_169 (show decode prog_7_method_46_code 12 = .ok (.ireturn, 1) by decide +kernel) rfl k
set_option maxRecDepth 20000 in
theorem wp_Z_restsBy {X : Nat × (Nat → Int32)} {d : Nat} {G : zG} {I : zI} {res : Option Value × zG × zI} (x1 : Int32) (x2 : Int32) 
    (k : Ev X d 170 6 [.ref 57, .int x1, .int x2, .int (-1), .int 29] [] G I res) :
    Ev X d 170 0 [.ref 57, .int x1, .int x2, zU, zU] [] G I res := by
  refine Ev_iconst (v := (-1)) hq_170 (show decode prog_7_method_45_code 0 = .ok (.iconst (-1), 1) by decide +kernel) (by decide) ?_
  refine Ev_istore_n (lo2 := [.ref 57, .int x1, .int x2, .int (-1), zU]) hq_170 (show decode prog_7_method_45_code 1 = .ok (.istore_n 3, 1) by decide +kernel) (z_le rfl) rfl ?_
  refine Ev_bipush (v := 29) hq_170 (show decode prog_7_method_45_code 2 = .ok (.bipush 29, 2) by decide +kernel) (by decide) ?_
  refine Ev_istore (lo2 := [.ref 57, .int x1, .int x2, .int (-1), .int 29]) hq_170 (show decode prog_7_method_45_code 4 = .ok (.istore 4, 2) by decide +kernel) (z_le rfl) rfl ?_
  exact k
set_option maxRecDepth 20000 in
theorem wp_Z_restsBy_6 {X : Nat × (Nat → Int32)} {d : Nat} {G : zG} {I : zI} {res : Option Value × zG × zI} (x1 : Int32) (x2 : Int32) (x3 : Int32) (x4 : Int32) (hS : SG G) 
    (k : (x4 < 0 → res = (some (.int x3), G, I)) ∧ (¬ x4 < 0 → z_inr ((5 * x1) + 1) 20 ∧ (z_inr ((4 * x4) + x1) 120 ∧ (∃ (r6 : Int32) (I4 : zI), Cv X d 164 [.int ((I 60 ((5 * x1) + 1).toNatClampNeg) - (I 74 ((4 * x4) + x1).toNatClampNeg))] G I (some (.int r6), G, I4) ∧ ((r6 ≤ x2 → ∀ y8 : Int32, y8 = x4 + (-1) → Ev X (d + 1) 170 6 [.ref 57, .int x1, .int x2, .int x4, .int y8] [] G I4 res) ∧ (¬ r6 ≤ x2 → res = (some (.int x3), G, I4))))))) :
    Ev X (d + 1) 170 6 [.ref 57, .int x1, .int x2, .int x3, .int x4] [] G I res := by
  refine Ev_iload hq_170 (show decode prog_7_method_45_code 6 = .ok (.iload 4, 2) by decide +kernel) rfl ?_
  refine Ev_if_lt (tgt := 51) hq_170 (show decode prog_7_method_45_code 8 = .ok (.ifCond .lt 43, 3) by decide +kernel) (by decide) (fun c1 => ?_) (fun c1 => ?_)
  · have k := k.1 c1
    refine Ev_iload_n hq_170 (show decode prog_7_method_45_code 51 = .ok (.iload_n 3, 1) by decide +kernel) rfl ?_
    exact Ev_iret hq_170 (show decode prog_7_method_45_code 52 = .ok (.ireturn, 1) by decide +kernel) rfl k
  · have k := k.2 c1
    refine Ev_aload_n hq_170 (show decode prog_7_method_45_code 11 = .ok (.aload_n 0, 1) by decide +kernel) rfl ?_
    refine Ev_getR hq_170 (show decode prog_7_method_45_code 12 = .ok (.getfield 16, 3) by decide +kernel) rfl (SGn hS (by decide)) (SGk hS rfl) (by decide) rfl (SGr hS rfl) ?_
    refine Ev_iconst (v := 5) hq_170 (show decode prog_7_method_45_code 15 = .ok (.iconst 5, 1) by decide +kernel) (by decide) ?_
    refine Ev_iload_n hq_170 (show decode prog_7_method_45_code 16 = .ok (.iload_n 1, 1) by decide +kernel) rfl ?_
    refine Ev_imul hq_170 (show decode prog_7_method_45_code 17 = .ok (.imul, 1) by decide +kernel) ?_
    refine Ev_iconst (v := 1) hq_170 (show decode prog_7_method_45_code 18 = .ok (.iconst 1, 1) by decide +kernel) (by decide) ?_
    refine Ev_iadd hq_170 (show decode prog_7_method_45_code 19 = .ok (.iadd, 1) by decide +kernel) ?_
    obtain ⟨h2, k⟩ := k
    refine Ev_iald hq_170 (show decode prog_7_method_45_code 20 = .ok (.iaload, 1) by decide +kernel) (SGn hS (by decide)) (SGk hS rfl) (SGi hS rfl h2) ?_
    refine Ev_aload_n hq_170 (show decode prog_7_method_45_code 21 = .ok (.aload_n 0, 1) by decide +kernel) rfl ?_
    refine Ev_getR hq_170 (show decode prog_7_method_45_code 22 = .ok (.getfield 58, 3) by decide +kernel) rfl (SGn hS (by decide)) (SGk hS rfl) (by decide) rfl (SGr hS rfl) ?_
    refine Ev_iconst (v := 4) hq_170 (show decode prog_7_method_45_code 25 = .ok (.iconst 4, 1) by decide +kernel) (by decide) ?_
    refine Ev_iload hq_170 (show decode prog_7_method_45_code 26 = .ok (.iload 4, 2) by decide +kernel) rfl ?_
    refine Ev_imul hq_170 (show decode prog_7_method_45_code 28 = .ok (.imul, 1) by decide +kernel) ?_
    refine Ev_iload_n hq_170 (show decode prog_7_method_45_code 29 = .ok (.iload_n 1, 1) by decide +kernel) rfl ?_
    refine Ev_iadd hq_170 (show decode prog_7_method_45_code 30 = .ok (.iadd, 1) by decide +kernel) ?_
    obtain ⟨h3, k⟩ := k
    refine Ev_iald hq_170 (show decode prog_7_method_45_code 31 = .ok (.iaload, 1) by decide +kernel) (SGn hS (by decide)) (SGk hS rfl) (SGi hS rfl h3) ?_
    refine Ev_isub hq_170 (show decode prog_7_method_45_code 32 = .ok (.isub, 1) by decide +kernel) ?_
    obtain ⟨r6, I4, h5, k⟩ := k
    refine Ev_stat (as := [.int ((I 60 ((5 * x1) + 1).toNatClampNeg) - (I 74 ((4 * x4) + x1).toNatClampNeg))]) hq_170 (show decode prog_7_method_45_code 33 = .ok (.invokestatic 193, 3) by decide +kernel) rfl (Or.inl rfl) hq_164 rfl (z_le rfl) h5 ?_
    refine Ev_iload_n hq_170 (show decode prog_7_method_45_code 36 = .ok (.iload_n 2, 1) by decide +kernel) rfl ?_
    refine Ev_icmp_le (tgt := 42) hq_170 (show decode prog_7_method_45_code 37 = .ok (.if_icmp .le 5, 3) by decide +kernel) (by decide) (fun c7 => ?_) (fun c7 => ?_)
    · have k := k.1 c7
      refine Ev_iload hq_170 (show decode prog_7_method_45_code 42 = .ok (.iload 4, 2) by decide +kernel) rfl ?_
      refine Ev_istore_n (lo2 := [.ref 57, .int x1, .int x2, .int x4, .int x4]) hq_170 (show decode prog_7_method_45_code 44 = .ok (.istore_n 3, 1) by decide +kernel) (z_le rfl) rfl ?_
      obtain ⟨y8, ey8⟩ : ∃ y8 : Int32, y8 = x4 + (-1) := ⟨_, rfl⟩
      have k := k y8 ey8
      refine Ev_iinc (v := y8) (lo2 := [.ref 57, .int x1, .int x2, .int x4, .int y8]) hq_170 (show decode prog_7_method_45_code 45 = .ok (.iinc 4 (-1), 3) by decide +kernel) rfl (by rw [ey8]; rfl) rfl ?_
      refine Ev_goto (tgt := 6) hq_170 (show decode prog_7_method_45_code 48 = .ok (.goto (-42), 3) by decide +kernel) (by decide) ?_
      exact k
    · have k := k.2 c7
      refine Ev_iload_n hq_170 (show decode prog_7_method_45_code 40 = .ok (.iload_n 3, 1) by decide +kernel) rfl ?_
      exact Ev_iret hq_170 (show decode prog_7_method_45_code 41 = .ok (.ireturn, 1) by decide +kernel) rfl k
set_option maxRecDepth 20000 in
theorem wp_Z_sways {X : Nat × (Nat → Int32)} {d : Nat} {G : zG} {I : zI} {res : Option Value × zG × zI} (x1 : Int32) (hS : SG G) 
    (k : ∃ (r3 : Int32) (I1 : zI), Cv X d 148 [.ref 57, .int x1] G I (some (.int r3), G, I1) ∧ ((¬ r3 = 0 → ∃ (I5 : zI), Cv X d 159 [.ref 57, .int 30] G I1 (none, G, I5) ∧ (∃ (r9 : Int32) (I7 : zI), Cv X d 166 [.ref 57, .int x1, .int 20, .int 0] G I5 (some (.int r9), G, I7) ∧ (∃ (r12 : Int32) (I10 : zI), Cv X d 166 [.ref 57, .int x1, .int 20, .int 1] G I7 (some (.int r12), G, I10) ∧ (res = (some (.int (r9 - r12)), G, I10))))) ∧ (r3 = 0 → res = (some (.int (-5)), G, I1)))) :
    Ev X (d + 1) 171 0 [.ref 57, .int x1] [] G I res := by
  refine Ev_aload_n hq_171 (show decode prog_7_method_48_code 0 = .ok (.aload_n 0, 1) by decide +kernel) rfl ?_
  refine Ev_iload_n hq_171 (show decode prog_7_method_48_code 1 = .ok (.iload_n 1, 1) by decide +kernel) rfl ?_
  obtain ⟨r3, I1, h2, k⟩ := k
  refine Ev_virt (as := [.int x1]) hq_171 (show decode prog_7_method_48_code 2 = .ok (.invokevirtual 176, 3) by decide +kernel) rfl hq_148 rfl (z_le rfl) ⟨(SGn hS (by decide)), (SGk hS rfl), by decide⟩ h2 ?_
  refine Ev_if_ne (tgt := 11) hq_171 (show decode prog_7_method_48_code 5 = .ok (.ifCond .ne 6, 3) by decide +kernel) (by decide) (fun c4 => ?_) (fun c4 => ?_)
  · have k := k.1 c4
    refine Ev_aload_n hq_171 (show decode prog_7_method_48_code 11 = .ok (.aload_n 0, 1) by decide +kernel) rfl ?_
    refine Ev_bipush (v := 30) hq_171 (show decode prog_7_method_48_code 12 = .ok (.bipush 30, 2) by decide +kernel) (by decide) ?_
    obtain ⟨I5, h6, k⟩ := k
    refine Ev_virt (as := [.int 30]) hq_171 (show decode prog_7_method_48_code 14 = .ok (.invokevirtual 205, 3) by decide +kernel) rfl hq_159 rfl (z_le rfl) ⟨(SGn hS (by decide)), (SGk hS rfl), by decide⟩ h6 ?_
    refine Ev_aload_n hq_171 (show decode prog_7_method_48_code 17 = .ok (.aload_n 0, 1) by decide +kernel) rfl ?_
    refine Ev_iload_n hq_171 (show decode prog_7_method_48_code 18 = .ok (.iload_n 1, 1) by decide +kernel) rfl ?_
    refine Ev_bipush (v := 20) hq_171 (show decode prog_7_method_48_code 19 = .ok (.bipush 20, 2) by decide +kernel) (by decide) ?_
    refine Ev_iconst (v := 0) hq_171 (show decode prog_7_method_48_code 21 = .ok (.iconst 0, 1) by decide +kernel) (by decide) ?_
    obtain ⟨r9, I7, h8, k⟩ := k
    refine Ev_virt (as := [.int x1, .int 20, .int 0]) hq_171 (show decode prog_7_method_48_code 22 = .ok (.invokevirtual 213, 3) by decide +kernel) rfl hq_166 rfl (z_le rfl) ⟨(SGn hS (by decide)), (SGk hS rfl), by decide⟩ h8 ?_
    refine Ev_aload_n hq_171 (show decode prog_7_method_48_code 25 = .ok (.aload_n 0, 1) by decide +kernel) rfl ?_
    refine Ev_iload_n hq_171 (show decode prog_7_method_48_code 26 = .ok (.iload_n 1, 1) by decide +kernel) rfl ?_
    refine Ev_bipush (v := 20) hq_171 (show decode prog_7_method_48_code 27 = .ok (.bipush 20, 2) by decide +kernel) (by decide) ?_
    refine Ev_iconst (v := 1) hq_171 (show decode prog_7_method_48_code 29 = .ok (.iconst 1, 1) by decide +kernel) (by decide) ?_
    obtain ⟨r12, I10, h11, k⟩ := k
    refine Ev_virt (as := [.int x1, .int 20, .int 1]) hq_171 (show decode prog_7_method_48_code 30 = .ok (.invokevirtual 213, 3) by decide +kernel) rfl hq_166 rfl (z_le rfl) ⟨(SGn hS (by decide)), (SGk hS rfl), by decide⟩ h11 ?_
    refine Ev_isub hq_171 (show decode prog_7_method_48_code 33 = .ok (.isub, 1) by decide +kernel) ?_
    exact Ev_iret hq_171 (show decode prog_7_method_48_code 34 = .ok (.ireturn, 1) by decide +kernel) rfl k
  · have k := k.2 (Classical.not_not.mp c4)
    refine Ev_bipush (v := (-5)) hq_171 (show decode prog_7_method_48_code 8 = .ok (.bipush (-5), 2) by decide +kernel) (by decide) ?_
    exact Ev_iret hq_171 (show decode prog_7_method_48_code 10 = .ok (.ireturn, 1) by decide +kernel) rfl k
set_option maxRecDepth 20000 in
theorem wp_Z_house {X : Nat × (Nat → Int32)} {d : Nat} {G : zG} {I : zI} {res : Option Value × zG × zI} (x1 : Int32) (hS : SG G) 
    (k : ∃ (r3 : Int32) (I1 : zI), Cv X d 131 [.int x1, .int 0, .int 2] G I (some (.int r3), G, I1) ∧ ((¬ r3 = 0 → ∃ (I5 : zI), Cv X d 159 [.ref 57, .int 30] G I1 (none, G, I5) ∧ ((¬ x1 = 0 → (¬ x1 = 1 → ∃ (r11 : Int32) (I9 : zI), Cv X d 175 [.ref 57] G I5 (some (.int r11), G, I9) ∧ (res = (some (.int r11), G, I9))) ∧ (x1 = 1 → ∃ (r14 : Int32) (I12 : zI), Cv X d 174 [.ref 57] G I5 (some (.int r14), G, I12) ∧ (res = (some (.int r14), G, I12)))) ∧ (x1 = 0 → ∃ (r17 : Int32) (I15 : zI), Cv X d 173 [.ref 57] G I5 (some (.int r17), G, I15) ∧ (res = (some (.int r17), G, I15))))) ∧ (r3 = 0 → res = (some (.int (-2)), G, I1)))) :
    Ev X (d + 1) 172 0 [.ref 57, .int x1] [] G I res := by
  refine Ev_iload_n hq_172 (show decode prog_7_method_51_code 0 = .ok (.iload_n 1, 1) by decide +kernel) rfl ?_
  refine Ev_iconst (v := 0) hq_172 (show decode prog_7_method_51_code 1 = .ok (.iconst 0, 1) by decide +kernel) (by decide) ?_
  refine Ev_iconst (v := 2) hq_172 (show decode prog_7_method_51_code 2 = .ok (.iconst 2, 1) by decide +kernel) (by decide) ?_
  obtain ⟨r3, I1, h2, k⟩ := k
  refine Ev_stat (as := [.int x1, .int 0, .int 2]) hq_172 (show decode prog_7_method_51_code 3 = .ok (.invokestatic 90, 3) by decide +kernel) rfl (Or.inl rfl) hq_131 rfl (z_le rfl) h2 ?_
  refine Ev_if_ne (tgt := 12) hq_172 (show decode prog_7_method_51_code 6 = .ok (.ifCond .ne 6, 3) by decide +kernel) (by decide) (fun c4 => ?_) (fun c4 => ?_)
  · have k := k.1 c4
    refine Ev_aload_n hq_172 (show decode prog_7_method_51_code 12 = .ok (.aload_n 0, 1) by decide +kernel) rfl ?_
    refine Ev_bipush (v := 30) hq_172 (show decode prog_7_method_51_code 13 = .ok (.bipush 30, 2) by decide +kernel) (by decide) ?_
    obtain ⟨I5, h6, k⟩ := k
    refine Ev_virt (as := [.int 30]) hq_172 (show decode prog_7_method_51_code 15 = .ok (.invokevirtual 205, 3) by decide +kernel) rfl hq_159 rfl (z_le rfl) ⟨(SGn hS (by decide)), (SGk hS rfl), by decide⟩ h6 ?_
    refine Ev_iload_n hq_172 (show decode prog_7_method_51_code 18 = .ok (.iload_n 1, 1) by decide +kernel) rfl ?_
    refine Ev_if_ne (tgt := 29) hq_172 (show decode prog_7_method_51_code 19 = .ok (.ifCond .ne 10, 3) by decide +kernel) (by decide) (fun c7 => ?_) (fun c7 => ?_)
    · have k := k.1 c7
      refine Ev_iload_n hq_172 (show decode prog_7_method_51_code 29 = .ok (.iload_n 1, 1) by decide +kernel) rfl ?_
      refine Ev_iconst (v := 1) hq_172 (show decode prog_7_method_51_code 30 = .ok (.iconst 1, 1) by decide +kernel) (by decide) ?_
      refine Ev_icmp_ne (tgt := 41) hq_172 (show decode prog_7_method_51_code 31 = .ok (.if_icmp .ne 10, 3) by decide +kernel) (by decide) (fun c8 => ?_) (fun c8 => ?_)
      · have k := k.1 c8
        refine Ev_aload_n hq_172 (show decode prog_7_method_51_code 41 = .ok (.aload_n 0, 1) by decide +kernel) rfl ?_
        obtain ⟨r11, I9, h10, k⟩ := k
        refine Ev_virt (as := []) hq_172 (show decode prog_7_method_51_code 42 = .ok (.invokevirtual 229, 3) by decide +kernel) rfl hq_175 rfl (z_le rfl) ⟨(SGn hS (by decide)), (SGk hS rfl), by decide⟩ h10 ?_
        exact Ev_iret hq_172 (show decode prog_7_method_51_code 45 = .ok (.ireturn, 1) by decide +kernel) rfl k
      · have k := k.2 (Classical.not_not.mp c8)
        refine Ev_aload_n hq_172 (show decode prog_7_method_51_code 34 = .ok (.aload_n 0, 1) by decide +kernel) rfl ?_
        obtain ⟨r14, I12, h13, k⟩ := k
        refine Ev_virt (as := []) hq_172 (show decode prog_7_method_51_code 35 = .ok (.invokevirtual 226, 3) by decide +kernel) rfl hq_174 rfl (z_le rfl) ⟨(SGn hS (by decide)), (SGk hS rfl), by decide⟩ h13 ?_
        refine Ev_goto (tgt := 45) hq_172 (show decode prog_7_method_51_code 38 = .ok (.goto 7, 3) by decide +kernel) (by decide) ?_
        exact Ev_iret hq_172 (show decode prog_7_method_51_code 45 = .ok (.ireturn, 1) by decide +kernel) rfl k
    · have k := k.2 (Classical.not_not.mp c7)
      refine Ev_aload_n hq_172 (show decode prog_7_method_51_code 22 = .ok (.aload_n 0, 1) by decide +kernel) rfl ?_
      obtain ⟨r17, I15, h16, k⟩ := k
      refine Ev_virt (as := []) hq_172 (show decode prog_7_method_51_code 23 = .ok (.invokevirtual 208, 3) by decide +kernel) rfl hq_173 rfl (z_le rfl) ⟨(SGn hS (by decide)), (SGk hS rfl), by decide⟩ h16 ?_
      refine Ev_goto (tgt := 45) hq_172 (show decode prog_7_method_51_code 26 = .ok (.goto 19, 3) by decide +kernel) (by decide) ?_
      exact Ev_iret hq_172 (show decode prog_7_method_51_code 45 = .ok (.ireturn, 1) by decide +kernel) rfl k
  · have k := k.2 (Classical.not_not.mp c4)
    refine Ev_bipush (v := (-2)) hq_172 (show decode prog_7_method_51_code 9 = .ok (.bipush (-2), 2) by decide +kernel) (by decide) ?_
    exact Ev_iret hq_172 (show decode prog_7_method_51_code 11 = .ok (.ireturn, 1) by decide +kernel) rfl k
set_option maxRecDepth 20000 in
theorem wp_Z_costNow {X : Nat × (Nat → Int32)} {d : Nat} {G : zG} {I : zI} {res : Option Value × zG × zI}  
    (k : Ev X d 173 4 [.ref 57, .int 0, .int 0] [] G I res) :
    Ev X d 173 0 [.ref 57, zU, zU] [] G I res := by
  refine Ev_iconst (v := 0) hq_173 (show decode prog_7_method_40_code 0 = .ok (.iconst 0, 1) by decide +kernel) (by decide) ?_
  refine Ev_istore_n (lo2 := [.ref 57, .int 0, zU]) hq_173 (show decode prog_7_method_40_code 1 = .ok (.istore_n 1, 1) by decide +kernel) (z_le rfl) rfl ?_
  refine Ev_iconst (v := 0) hq_173 (show decode prog_7_method_40_code 2 = .ok (.iconst 0, 1) by decide +kernel) (by decide) ?_
  refine Ev_istore_n (lo2 := [.ref 57, .int 0, .int 0]) hq_173 (show decode prog_7_method_40_code 3 = .ok (.istore_n 2, 1) by decide +kernel) (z_le rfl) rfl ?_
  exact k
set_option maxRecDepth 20000 in
theorem wp_Z_costNow_4 {X : Nat × (Nat → Int32)} {d : Nat} {G : zG} {I : zI} {res : Option Value × zG × zI} (x1 : Int32) (x2 : Int32) (hS : SG G) 
    (k : ((I 57 0) ≤ x2 → res = (some (.int x1), G, I)) ∧ (¬ (I 57 0) ≤ x2 → z_inr x2 4 ∧ (∀ y3 : Int32, y3 = (x1 + (I 75 x2.toNatClampNeg)) → ∀ y4 : Int32, y4 = x2 + 1 → Ev X d 173 4 [.ref 57, .int y3, .int y4] [] G I res))) :
    Ev X d 173 4 [.ref 57, .int x1, .int x2] [] G I res := by
  refine Ev_iload_n hq_173 (show decode prog_7_method_40_code 4 = .ok (.iload_n 2, 1) by decide +kernel) rfl ?_
  refine Ev_aload_n hq_173 (show decode prog_7_method_40_code 5 = .ok (.aload_n 0, 1) by decide +kernel) rfl ?_
  refine Ev_getI hq_173 (show decode prog_7_method_40_code 6 = .ok (.getfield 87, 3) by decide +kernel) rfl (SGn hS (by decide)) (SGk hS rfl) (by decide) rfl ?_
  refine Ev_icmp_ge (tgt := 27) hq_173 (show decode prog_7_method_40_code 9 = .ok (.if_icmp .ge 18, 3) by decide +kernel) (by decide) (fun c1 => ?_) (fun c1 => ?_)
  · have k := k.1 c1
    refine Ev_iload_n hq_173 (show decode prog_7_method_40_code 27 = .ok (.iload_n 1, 1) by decide +kernel) rfl ?_
    exact Ev_iret hq_173 (show decode prog_7_method_40_code 28 = .ok (.ireturn, 1) by decide +kernel) rfl k
  · have k := k.2 c1
    refine Ev_iload_n hq_173 (show decode prog_7_method_40_code 12 = .ok (.iload_n 1, 1) by decide +kernel) rfl ?_
    refine Ev_aload_n hq_173 (show decode prog_7_method_40_code 13 = .ok (.aload_n 0, 1) by decide +kernel) rfl ?_
    refine Ev_getR hq_173 (show decode prog_7_method_40_code 14 = .ok (.getfield 61, 3) by decide +kernel) rfl (SGn hS (by decide)) (SGk hS rfl) (by decide) rfl (SGr hS rfl) ?_
    refine Ev_iload_n hq_173 (show decode prog_7_method_40_code 17 = .ok (.iload_n 2, 1) by decide +kernel) rfl ?_
    obtain ⟨h2, k⟩ := k
    refine Ev_iald hq_173 (show decode prog_7_method_40_code 18 = .ok (.iaload, 1) by decide +kernel) (SGn hS (by decide)) (SGk hS rfl) (SGi hS rfl h2) ?_
    refine Ev_iadd hq_173 (show decode prog_7_method_40_code 19 = .ok (.iadd, 1) by decide +kernel) ?_
    obtain ⟨y3, ey3⟩ : ∃ y3 : Int32, y3 = (x1 + (I 75 x2.toNatClampNeg)) := ⟨_, rfl⟩
    have k := k y3 ey3
    rw [← ey3]
    refine Ev_istore_n (lo2 := [.ref 57, .int y3, .int x2]) hq_173 (show decode prog_7_method_40_code 20 = .ok (.istore_n 1, 1) by decide +kernel) (z_le rfl) rfl ?_
    obtain ⟨y4, ey4⟩ : ∃ y4 : Int32, y4 = x2 + 1 := ⟨_, rfl⟩
    have k := k y4 ey4
    refine Ev_iinc (v := y4) (lo2 := [.ref 57, .int y3, .int y4]) hq_173 (show decode prog_7_method_40_code 21 = .ok (.iinc 2 1, 3) by decide +kernel) rfl (by rw [ey4]; rfl) rfl ?_
    refine Ev_goto (tgt := 4) hq_173 (show decode prog_7_method_40_code 24 = .ok (.goto (-20), 3) by decide +kernel) (by decide) ?_
    exact k
set_option maxRecDepth 20000 in
theorem wp_Z_criersNow {X : Nat × (Nat → Int32)} {d : Nat} {G : zG} {I : zI} {res : Option Value × zG × zI}  
    (k : Ev X d 174 4 [.ref 57, .int 0, .int 0] [] G I res) :
    Ev X d 174 0 [.ref 57, zU, zU] [] G I res := by
  refine Ev_iconst (v := 0) hq_174 (show decode prog_7_method_49_code 0 = .ok (.iconst 0, 1) by decide +kernel) (by decide) ?_
  refine Ev_istore_n (lo2 := [.ref 57, .int 0, zU]) hq_174 (show decode prog_7_method_49_code 1 = .ok (.istore_n 1, 1) by decide +kernel) (z_le rfl) rfl ?_
  refine Ev_iconst (v := 0) hq_174 (show decode prog_7_method_49_code 2 = .ok (.iconst 0, 1) by decide +kernel) (by decide) ?_
  refine Ev_istore_n (lo2 := [.ref 57, .int 0, .int 0]) hq_174 (show decode prog_7_method_49_code 3 = .ok (.istore_n 2, 1) by decide +kernel) (z_le rfl) rfl ?_
  exact k
set_option maxRecDepth 20000 in
theorem wp_Z_criersNow_4 {X : Nat × (Nat → Int32)} {d : Nat} {G : zG} {I : zI} {res : Option Value × zG × zI} (x1 : Int32) (x2 : Int32) (hS : SG G) 
    (k : ((I 57 0) ≤ x2 → res = (some (.int x1), G, I)) ∧ (¬ (I 57 0) ≤ x2 → z_inr x2 4 ∧ (((I 76 x2.toNatClampNeg) = 0 → ∀ y4 : Int32, y4 = (x1 ||| 0) → ∀ y5 : Int32, y5 = x2 + 1 → Ev X d 174 4 [.ref 57, .int y4, .int y5] [] G I res) ∧ (¬ (I 76 x2.toNatClampNeg) = 0 → ∀ y6 : Int32, y6 = (x1 ||| (1 <<< (x2 &&& 31))) → ∀ y7 : Int32, y7 = x2 + 1 → Ev X d 174 4 [.ref 57, .int y6, .int y7] [] G I res)))) :
    Ev X d 174 4 [.ref 57, .int x1, .int x2] [] G I res := by
  refine Ev_iload_n hq_174 (show decode prog_7_method_49_code 4 = .ok (.iload_n 2, 1) by decide +kernel) rfl ?_
  refine Ev_aload_n hq_174 (show decode prog_7_method_49_code 5 = .ok (.aload_n 0, 1) by decide +kernel) rfl ?_
  refine Ev_getI hq_174 (show decode prog_7_method_49_code 6 = .ok (.getfield 87, 3) by decide +kernel) rfl (SGn hS (by decide)) (SGk hS rfl) (by decide) rfl ?_
  refine Ev_icmp_ge (tgt := 37) hq_174 (show decode prog_7_method_49_code 9 = .ok (.if_icmp .ge 28, 3) by decide +kernel) (by decide) (fun c1 => ?_) (fun c1 => ?_)
  · have k := k.1 c1
    refine Ev_iload_n hq_174 (show decode prog_7_method_49_code 37 = .ok (.iload_n 1, 1) by decide +kernel) rfl ?_
    exact Ev_iret hq_174 (show decode prog_7_method_49_code 38 = .ok (.ireturn, 1) by decide +kernel) rfl k
  · have k := k.2 c1
    refine Ev_iload_n hq_174 (show decode prog_7_method_49_code 12 = .ok (.iload_n 1, 1) by decide +kernel) rfl ?_
    refine Ev_aload_n hq_174 (show decode prog_7_method_49_code 13 = .ok (.aload_n 0, 1) by decide +kernel) rfl ?_
    refine Ev_getR hq_174 (show decode prog_7_method_49_code 14 = .ok (.getfield 64, 3) by decide +kernel) rfl (SGn hS (by decide)) (SGk hS rfl) (by decide) rfl (SGr hS rfl) ?_
    refine Ev_iload_n hq_174 (show decode prog_7_method_49_code 17 = .ok (.iload_n 2, 1) by decide +kernel) rfl ?_
    obtain ⟨h2, k⟩ := k
    refine Ev_iald hq_174 (show decode prog_7_method_49_code 18 = .ok (.iaload, 1) by decide +kernel) (SGn hS (by decide)) (SGk hS rfl) (SGi hS rfl h2) ?_
    refine Ev_if_eq (tgt := 28) hq_174 (show decode prog_7_method_49_code 19 = .ok (.ifCond .eq 9, 3) by decide +kernel) (by decide) (fun c3 => ?_) (fun c3 => ?_)
    · have k := k.1 c3
      refine Ev_iconst (v := 0) hq_174 (show decode prog_7_method_49_code 28 = .ok (.iconst 0, 1) by decide +kernel) (by decide) ?_
      refine Ev_ior hq_174 (show decode prog_7_method_49_code 29 = .ok (.ior, 1) by decide +kernel) ?_
      obtain ⟨y4, ey4⟩ : ∃ y4 : Int32, y4 = (x1 ||| 0) := ⟨_, rfl⟩
      have k := k y4 ey4
      rw [← ey4]
      refine Ev_istore_n (lo2 := [.ref 57, .int y4, .int x2]) hq_174 (show decode prog_7_method_49_code 30 = .ok (.istore_n 1, 1) by decide +kernel) (z_le rfl) rfl ?_
      obtain ⟨y5, ey5⟩ : ∃ y5 : Int32, y5 = x2 + 1 := ⟨_, rfl⟩
      have k := k y5 ey5
      refine Ev_iinc (v := y5) (lo2 := [.ref 57, .int y4, .int y5]) hq_174 (show decode prog_7_method_49_code 31 = .ok (.iinc 2 1, 3) by decide +kernel) rfl (by rw [ey5]; rfl) rfl ?_
      refine Ev_goto (tgt := 4) hq_174 (show decode prog_7_method_49_code 34 = .ok (.goto (-30), 3) by decide +kernel) (by decide) ?_
      exact k
    · have k := k.2 c3
      refine Ev_iconst (v := 1) hq_174 (show decode prog_7_method_49_code 22 = .ok (.iconst 1, 1) by decide +kernel) (by decide) ?_
      refine Ev_iload_n hq_174 (show decode prog_7_method_49_code 23 = .ok (.iload_n 2, 1) by decide +kernel) rfl ?_
      refine Ev_ishl hq_174 (show decode prog_7_method_49_code 24 = .ok (.ishl, 1) by decide +kernel) ?_
      refine Ev_goto (tgt := 29) hq_174 (show decode prog_7_method_49_code 25 = .ok (.goto 4, 3) by decide +kernel) (by decide) ?_
      refine Ev_ior hq_174 (show decode prog_7_method_49_code 29 = .ok (.ior, 1) by decide +kernel) ?_
      obtain ⟨y6, ey6⟩ : ∃ y6 : Int32, y6 = (x1 ||| (1 <<< (x2 &&& 31))) := ⟨_, rfl⟩
      have k := k y6 ey6
      rw [← ey6]
      refine Ev_istore_n (lo2 := [.ref 57, .int y6, .int x2]) hq_174 (show decode prog_7_method_49_code 30 = .ok (.istore_n 1, 1) by decide +kernel) (z_le rfl) rfl ?_
      obtain ⟨y7, ey7⟩ : ∃ y7 : Int32, y7 = x2 + 1 := ⟨_, rfl⟩
      have k := k y7 ey7
      refine Ev_iinc (v := y7) (lo2 := [.ref 57, .int y6, .int y7]) hq_174 (show decode prog_7_method_49_code 31 = .ok (.iinc 2 1, 3) by decide +kernel) rfl (by rw [ey7]; rfl) rfl ?_
      refine Ev_goto (tgt := 4) hq_174 (show decode prog_7_method_49_code 34 = .ok (.goto (-30), 3) by decide +kernel) (by decide) ?_
      exact k
set_option maxRecDepth 20000 in
theorem wp_Z_loudest {X : Nat × (Nat → Int32)} {d : Nat} {G : zG} {I : zI} {res : Option Value × zG × zI}  
    (k : Ev X d 175 6 [.ref 57, .int (-1), .int 0, .int 0, zU, zU] [] G I res) :
    Ev X d 175 0 [.ref 57, zU, zU, zU, zU, zU] [] G I res := by
  refine Ev_iconst (v := (-1)) hq_175 (show decode prog_7_method_50_code 0 = .ok (.iconst (-1), 1) by decide +kernel) (by decide) ?_
  refine Ev_istore_n (lo2 := [.ref 57, .int (-1), zU, zU, zU, zU]) hq_175 (show decode prog_7_method_50_code 1 = .ok (.istore_n 1, 1) by decide +kernel) (z_le rfl) rfl ?_
  refine Ev_iconst (v := 0) hq_175 (show decode prog_7_method_50_code 2 = .ok (.iconst 0, 1) by decide +kernel) (by decide) ?_
  refine Ev_istore_n (lo2 := [.ref 57, .int (-1), .int 0, zU, zU, zU]) hq_175 (show decode prog_7_method_50_code 3 = .ok (.istore_n 2, 1) by decide +kernel) (z_le rfl) rfl ?_
  refine Ev_iconst (v := 0) hq_175 (show decode prog_7_method_50_code 4 = .ok (.iconst 0, 1) by decide +kernel) (by decide) ?_
  refine Ev_istore_n (lo2 := [.ref 57, .int (-1), .int 0, .int 0, zU, zU]) hq_175 (show decode prog_7_method_50_code 5 = .ok (.istore_n 3, 1) by decide +kernel) (z_le rfl) rfl ?_
  exact k
set_option maxRecDepth 20000 in
theorem wp_Z_loudest_6 {X : Nat × (Nat → Int32)} {d : Nat} {G : zG} {I : zI} {res : Option Value × zG × zI} (x1 : Int32) (x2 : Int32) (x3 : Int32) (v4 : Value) (cv4 : v4.category = 1) (v5 : Value) (cv5 : v5.category = 1) 
    (k : (30 ≤ x3 → res = (some (.int x1), G, I)) ∧ (¬ 30 ≤ x3 → Ev X d 175 18 [.ref 57, .int x1, .int x2, .int x3, .int 0, .int 0] [] G I res)) :
    Ev X d 175 6 [.ref 57, .int x1, .int x2, .int x3, v4, v5] [] G I res := by
  refine Ev_iload_n hq_175 (show decode prog_7_method_50_code 6 = .ok (.iload_n 3, 1) by decide +kernel) rfl ?_
  refine Ev_bipush (v := 30) hq_175 (show decode prog_7_method_50_code 7 = .ok (.bipush 30, 2) by decide +kernel) (by decide) ?_
  refine Ev_icmp_ge (tgt := 80) hq_175 (show decode prog_7_method_50_code 9 = .ok (.if_icmp .ge 71, 3) by decide +kernel) (by decide) (fun c1 => ?_) (fun c1 => ?_)
  · have k := k.1 c1
    refine Ev_iload_n hq_175 (show decode prog_7_method_50_code 80 = .ok (.iload_n 1, 1) by decide +kernel) rfl ?_
    exact Ev_iret hq_175 (show decode prog_7_method_50_code 81 = .ok (.ireturn, 1) by decide +kernel) rfl k
  · have k := k.2 c1
    refine Ev_iconst (v := 0) hq_175 (show decode prog_7_method_50_code 12 = .ok (.iconst 0, 1) by decide +kernel) (by decide) ?_
    refine Ev_istore (lo2 := [.ref 57, .int x1, .int x2, .int x3, .int 0, v5]) hq_175 (show decode prog_7_method_50_code 13 = .ok (.istore 4, 2) by decide +kernel) (z_le rfl) rfl ?_
    refine Ev_iconst (v := 0) hq_175 (show decode prog_7_method_50_code 15 = .ok (.iconst 0, 1) by decide +kernel) (by decide) ?_
    refine Ev_istore (lo2 := [.ref 57, .int x1, .int x2, .int x3, .int 0, .int 0]) hq_175 (show decode prog_7_method_50_code 16 = .ok (.istore 5, 2) by decide +kernel) (z_le rfl) rfl ?_
    exact k
set_option maxRecDepth 20000 in
theorem wp_Z_loudest_18 {X : Nat × (Nat → Int32)} {d : Nat} {G : zG} {I : zI} {res : Option Value × zG × zI} (x1 : Int32) (x2 : Int32) (x3 : Int32) (x4 : Int32) (x5 : Int32) (hS : SG G) 
    (k : ((I 57 0) ≤ x5 → (x4 ≤ x2 → (x4 ≤ x2 → ∀ y4 : Int32, y4 = x3 + 1 → Ev X d 175 6 [.ref 57, .int x1, .int x2, .int y4, .int x4, .int x5] [] G I res) ∧ (¬ x4 ≤ x2 → ∀ y5 : Int32, y5 = x3 + 1 → Ev X d 175 6 [.ref 57, .int x1, .int x4, .int y5, .int x4, .int x5] [] G I res)) ∧ (¬ x4 ≤ x2 → (x4 ≤ x2 → ∀ y7 : Int32, y7 = x3 + 1 → Ev X d 175 6 [.ref 57, .int x3, .int x2, .int y7, .int x4, .int x5] [] G I res) ∧ (¬ x4 ≤ x2 → ∀ y8 : Int32, y8 = x3 + 1 → Ev X d 175 6 [.ref 57, .int x3, .int x4, .int y8, .int x4, .int x5] [] G I res))) ∧ (¬ (I 57 0) ≤ x5 → z_inr x5 4 ∧ (∀ y10 : Int32, y10 = (x4 + (((I 76 x5.toNatClampNeg) >>> (x3 &&& 31)) &&& 1)) → ∀ y11 : Int32, y11 = x5 + 1 → Ev X d 175 18 [.ref 57, .int x1, .int x2, .int x3, .int y10, .int y11] [] G I res))) :
    Ev X d 175 18 [.ref 57, .int x1, .int x2, .int x3, .int x4, .int x5] [] G I res := by
  refine Ev_iload hq_175 (show decode prog_7_method_50_code 18 = .ok (.iload 5, 2) by decide +kernel) rfl ?_
  refine Ev_aload_n hq_175 (show decode prog_7_method_50_code 20 = .ok (.aload_n 0, 1) by decide +kernel) rfl ?_
  refine Ev_getI hq_175 (show decode prog_7_method_50_code 21 = .ok (.getfield 87, 3) by decide +kernel) rfl (SGn hS (by decide)) (SGk hS rfl) (by decide) rfl ?_
  refine Ev_icmp_ge (tgt := 49) hq_175 (show decode prog_7_method_50_code 24 = .ok (.if_icmp .ge 25, 3) by decide +kernel) (by decide) (fun c1 => ?_) (fun c1 => ?_)
  · have k := k.1 c1
    refine Ev_iload hq_175 (show decode prog_7_method_50_code 49 = .ok (.iload 4, 2) by decide +kernel) rfl ?_
    refine Ev_iload_n hq_175 (show decode prog_7_method_50_code 51 = .ok (.iload_n 2, 1) by decide +kernel) rfl ?_
    refine Ev_icmp_le (tgt := 59) hq_175 (show decode prog_7_method_50_code 52 = .ok (.if_icmp .le 7, 3) by decide +kernel) (by decide) (fun c2 => ?_) (fun c2 => ?_)
    · have k := k.1 c2
      refine Ev_iload_n hq_175 (show decode prog_7_method_50_code 59 = .ok (.iload_n 1, 1) by decide +kernel) rfl ?_
      refine Ev_istore_n (lo2 := [.ref 57, .int x1, .int x2, .int x3, .int x4, .int x5]) hq_175 (show decode prog_7_method_50_code 60 = .ok (.istore_n 1, 1) by decide +kernel) (z_le rfl) rfl ?_
      refine Ev_iload hq_175 (show decode prog_7_method_50_code 61 = .ok (.iload 4, 2) by decide +kernel) rfl ?_
      refine Ev_iload_n hq_175 (show decode prog_7_method_50_code 63 = .ok (.iload_n 2, 1) by decide +kernel) rfl ?_
      refine Ev_icmp_le (tgt := 72) hq_175 (show decode prog_7_method_50_code 64 = .ok (.if_icmp .le 8, 3) by decide +kernel) (by decide) (fun c3 => ?_) (fun c3 => ?_)
      · have k := k.1 c3
        refine Ev_iload_n hq_175 (show decode prog_7_method_50_code 72 = .ok (.iload_n 2, 1) by decide +kernel) rfl ?_
        refine Ev_istore_n (lo2 := [.ref 57, .int x1, .int x2, .int x3, .int x4, .int x5]) hq_175 (show decode prog_7_method_50_code 73 = .ok (.istore_n 2, 1) by decide +kernel) (z_le rfl) rfl ?_
        obtain ⟨y4, ey4⟩ : ∃ y4 : Int32, y4 = x3 + 1 := ⟨_, rfl⟩
        have k := k y4 ey4
        refine Ev_iinc (v := y4) (lo2 := [.ref 57, .int x1, .int x2, .int y4, .int x4, .int x5]) hq_175 (show decode prog_7_method_50_code 74 = .ok (.iinc 3 1, 3) by decide +kernel) rfl (by rw [ey4]; rfl) rfl ?_
        refine Ev_goto (tgt := 6) hq_175 (show decode prog_7_method_50_code 77 = .ok (.goto (-71), 3) by decide +kernel) (by decide) ?_
        exact k
      · have k := k.2 c3
        refine Ev_iload hq_175 (show decode prog_7_method_50_code 67 = .ok (.iload 4, 2) by decide +kernel) rfl ?_
        refine Ev_goto (tgt := 73) hq_175 (show decode prog_7_method_50_code 69 = .ok (.goto 4, 3) by decide +kernel) (by decide) ?_
        refine Ev_istore_n (lo2 := [.ref 57, .int x1, .int x4, .int x3, .int x4, .int x5]) hq_175 (show decode prog_7_method_50_code 73 = .ok (.istore_n 2, 1) by decide +kernel) (z_le rfl) rfl ?_
        obtain ⟨y5, ey5⟩ : ∃ y5 : Int32, y5 = x3 + 1 := ⟨_, rfl⟩
        have k := k y5 ey5
        refine Ev_iinc (v := y5) (lo2 := [.ref 57, .int x1, .int x4, .int y5, .int x4, .int x5]) hq_175 (show decode prog_7_method_50_code 74 = .ok (.iinc 3 1, 3) by decide +kernel) rfl (by rw [ey5]; rfl) rfl ?_
        refine Ev_goto (tgt := 6) hq_175 (show decode prog_7_method_50_code 77 = .ok (.goto (-71), 3) by decide +kernel) (by decide) ?_
        exact k
    · have k := k.2 c2
      refine Ev_iload_n hq_175 (show decode prog_7_method_50_code 55 = .ok (.iload_n 3, 1) by decide +kernel) rfl ?_
      refine Ev_goto (tgt := 60) hq_175 (show decode prog_7_method_50_code 56 = .ok (.goto 4, 3) by decide +kernel) (by decide) ?_
      refine Ev_istore_n (lo2 := [.ref 57, .int x3, .int x2, .int x3, .int x4, .int x5]) hq_175 (show decode prog_7_method_50_code 60 = .ok (.istore_n 1, 1) by decide +kernel) (z_le rfl) rfl ?_
      refine Ev_iload hq_175 (show decode prog_7_method_50_code 61 = .ok (.iload 4, 2) by decide +kernel) rfl ?_
      refine Ev_iload_n hq_175 (show decode prog_7_method_50_code 63 = .ok (.iload_n 2, 1) by decide +kernel) rfl ?_
      refine Ev_icmp_le (tgt := 72) hq_175 (show decode prog_7_method_50_code 64 = .ok (.if_icmp .le 8, 3) by decide +kernel) (by decide) (fun c6 => ?_) (fun c6 => ?_)
      · have k := k.1 c6
        refine Ev_iload_n hq_175 (show decode prog_7_method_50_code 72 = .ok (.iload_n 2, 1) by decide +kernel) rfl ?_
        refine Ev_istore_n (lo2 := [.ref 57, .int x3, .int x2, .int x3, .int x4, .int x5]) hq_175 (show decode prog_7_method_50_code 73 = .ok (.istore_n 2, 1) by decide +kernel) (z_le rfl) rfl ?_
        obtain ⟨y7, ey7⟩ : ∃ y7 : Int32, y7 = x3 + 1 := ⟨_, rfl⟩
        have k := k y7 ey7
        refine Ev_iinc (v := y7) (lo2 := [.ref 57, .int x3, .int x2, .int y7, .int x4, .int x5]) hq_175 (show decode prog_7_method_50_code 74 = .ok (.iinc 3 1, 3) by decide +kernel) rfl (by rw [ey7]; rfl) rfl ?_
        refine Ev_goto (tgt := 6) hq_175 (show decode prog_7_method_50_code 77 = .ok (.goto (-71), 3) by decide +kernel) (by decide) ?_
        exact k
      · have k := k.2 c6
        refine Ev_iload hq_175 (show decode prog_7_method_50_code 67 = .ok (.iload 4, 2) by decide +kernel) rfl ?_
        refine Ev_goto (tgt := 73) hq_175 (show decode prog_7_method_50_code 69 = .ok (.goto 4, 3) by decide +kernel) (by decide) ?_
        refine Ev_istore_n (lo2 := [.ref 57, .int x3, .int x4, .int x3, .int x4, .int x5]) hq_175 (show decode prog_7_method_50_code 73 = .ok (.istore_n 2, 1) by decide +kernel) (z_le rfl) rfl ?_
        obtain ⟨y8, ey8⟩ : ∃ y8 : Int32, y8 = x3 + 1 := ⟨_, rfl⟩
        have k := k y8 ey8
        refine Ev_iinc (v := y8) (lo2 := [.ref 57, .int x3, .int x4, .int y8, .int x4, .int x5]) hq_175 (show decode prog_7_method_50_code 74 = .ok (.iinc 3 1, 3) by decide +kernel) rfl (by rw [ey8]; rfl) rfl ?_
        refine Ev_goto (tgt := 6) hq_175 (show decode prog_7_method_50_code 77 = .ok (.goto (-71), 3) by decide +kernel) (by decide) ?_
        exact k
  · have k := k.2 c1
    refine Ev_iload hq_175 (show decode prog_7_method_50_code 27 = .ok (.iload 4, 2) by decide +kernel) rfl ?_
    refine Ev_aload_n hq_175 (show decode prog_7_method_50_code 29 = .ok (.aload_n 0, 1) by decide +kernel) rfl ?_
    refine Ev_getR hq_175 (show decode prog_7_method_50_code 30 = .ok (.getfield 64, 3) by decide +kernel) rfl (SGn hS (by decide)) (SGk hS rfl) (by decide) rfl (SGr hS rfl) ?_
    refine Ev_iload hq_175 (show decode prog_7_method_50_code 33 = .ok (.iload 5, 2) by decide +kernel) rfl ?_
    obtain ⟨h9, k⟩ := k
    refine Ev_iald hq_175 (show decode prog_7_method_50_code 35 = .ok (.iaload, 1) by decide +kernel) (SGn hS (by decide)) (SGk hS rfl) (SGi hS rfl h9) ?_
    refine Ev_iload_n hq_175 (show decode prog_7_method_50_code 36 = .ok (.iload_n 3, 1) by decide +kernel) rfl ?_
    refine Ev_ishr hq_175 (show decode prog_7_method_50_code 37 = .ok (.ishr, 1) by decide +kernel) ?_
    refine Ev_iconst (v := 1) hq_175 (show decode prog_7_method_50_code 38 = .ok (.iconst 1, 1) by decide +kernel) (by decide) ?_
    refine Ev_iand hq_175 (show decode prog_7_method_50_code 39 = .ok (.iand, 1) by decide +kernel) ?_
    refine Ev_iadd hq_175 (show decode prog_7_method_50_code 40 = .ok (.iadd, 1) by decide +kernel) ?_
    obtain ⟨y10, ey10⟩ : ∃ y10 : Int32, y10 = (x4 + (((I 76 x5.toNatClampNeg) >>> (x3 &&& 31)) &&& 1)) := ⟨_, rfl⟩
    have k := k y10 ey10
    rw [← ey10]
    refine Ev_istore (lo2 := [.ref 57, .int x1, .int x2, .int x3, .int y10, .int x5]) hq_175 (show decode prog_7_method_50_code 41 = .ok (.istore 4, 2) by decide +kernel) (z_le rfl) rfl ?_
    obtain ⟨y11, ey11⟩ : ∃ y11 : Int32, y11 = x5 + 1 := ⟨_, rfl⟩
    have k := k y11 ey11
    refine Ev_iinc (v := y11) (lo2 := [.ref 57, .int x1, .int x2, .int x3, .int y10, .int y11]) hq_175 (show decode prog_7_method_50_code 43 = .ok (.iinc 5 1, 3) by decide +kernel) rfl (by rw [ey11]; rfl) rfl ?_
    refine Ev_goto (tgt := 18) hq_175 (show decode prog_7_method_50_code 46 = .ok (.goto (-28), 3) by decide +kernel) (by decide) ?_
    exact k
set_option maxRecDepth 20000 in
theorem wp_Z_pass {X : Nat × (Nat → Int32)} {d : Nat} {G : zG} {I : zI} {res : Option Value × zG × zI} (x1 : Int32) (hS : SG G) 
    (k : ∃ (r3 : Int32) (I1 : zI), Cv X d 131 [.int x1, .int 0, .int 30] G I (some (.int r3), G, I1) ∧ ((¬ r3 = 0 → ∃ (I5 : zI), Cv X d 159 [.ref 57, .int x1] G I1 (none, G, I5) ∧ (Ev X (d + 1) 176 20 [.ref 57, .int x1, .int 0] [] G I5 res)) ∧ (r3 = 0 → res = (some (.int (-2)), G, I1)))) :
    Ev X (d + 1) 176 0 [.ref 57, .int x1, zU] [] G I res := by
  refine Ev_iload_n hq_176 (show decode prog_7_method_52_code 0 = .ok (.iload_n 1, 1) by decide +kernel) rfl ?_
  refine Ev_iconst (v := 0) hq_176 (show decode prog_7_method_52_code 1 = .ok (.iconst 0, 1) by decide +kernel) (by decide) ?_
  refine Ev_bipush (v := 30) hq_176 (show decode prog_7_method_52_code 2 = .ok (.bipush 30, 2) by decide +kernel) (by decide) ?_
  obtain ⟨r3, I1, h2, k⟩ := k
  refine Ev_stat (as := [.int x1, .int 0, .int 30]) hq_176 (show decode prog_7_method_52_code 4 = .ok (.invokestatic 90, 3) by decide +kernel) rfl (Or.inl rfl) hq_131 rfl (z_le rfl) h2 ?_
  refine Ev_if_ne (tgt := 13) hq_176 (show decode prog_7_method_52_code 7 = .ok (.ifCond .ne 6, 3) by decide +kernel) (by decide) (fun c4 => ?_) (fun c4 => ?_)
  · have k := k.1 c4
    refine Ev_aload_n hq_176 (show decode prog_7_method_52_code 13 = .ok (.aload_n 0, 1) by decide +kernel) rfl ?_
    refine Ev_iload_n hq_176 (show decode prog_7_method_52_code 14 = .ok (.iload_n 1, 1) by decide +kernel) rfl ?_
    obtain ⟨I5, h6, k⟩ := k
    refine Ev_virt (as := [.int x1]) hq_176 (show decode prog_7_method_52_code 15 = .ok (.invokevirtual 205, 3) by decide +kernel) rfl hq_159 rfl (z_le rfl) ⟨(SGn hS (by decide)), (SGk hS rfl), by decide⟩ h6 ?_
    refine Ev_iconst (v := 0) hq_176 (show decode prog_7_method_52_code 18 = .ok (.iconst 0, 1) by decide +kernel) (by decide) ?_
    refine Ev_istore_n (lo2 := [.ref 57, .int x1, .int 0]) hq_176 (show decode prog_7_method_52_code 19 = .ok (.istore_n 2, 1) by decide +kernel) (z_le rfl) rfl ?_
    exact k
  · have k := k.2 (Classical.not_not.mp c4)
    refine Ev_bipush (v := (-2)) hq_176 (show decode prog_7_method_52_code 10 = .ok (.bipush (-2), 2) by decide +kernel) (by decide) ?_
    exact Ev_iret hq_176 (show decode prog_7_method_52_code 12 = .ok (.ireturn, 1) by decide +kernel) rfl k
set_option maxRecDepth 20000 in
theorem wp_Z_pass_20 {X : Nat × (Nat → Int32)} {d : Nat} {G : zG} {I : zI} {res : Option Value × zG × zI} (x1 : Int32) (x2 : Int32) (hS : SG G) 
    (k : ((I 57 0) ≤ x2 → ∃ (r4 : Int32) (I2 : zI), Cv X d 173 [.ref 57] G I (some (.int r4), G, I2) ∧ (res = (some (.int r4), G, I2))) ∧ (¬ (I 57 0) ≤ x2 → z_inr ((4 * x1) + x2) 124 ∧ (z_inr ((5 * x2) + 2) 20 ∧ (∀ I7 : zI, I7 = z_up I 60 ((5 * x2) + 2).toNatClampNeg (I 73 ((4 * x1) + x2).toNatClampNeg) → ∀ y8 : Int32, y8 = x2 + 1 → Ev X (d + 1) 176 20 [.ref 57, .int x1, .int y8] [] G I7 res)))) :
    Ev X (d + 1) 176 20 [.ref 57, .int x1, .int x2] [] G I res := by
  refine Ev_iload_n hq_176 (show decode prog_7_method_52_code 20 = .ok (.iload_n 2, 1) by decide +kernel) rfl ?_
  refine Ev_aload_n hq_176 (show decode prog_7_method_52_code 21 = .ok (.aload_n 0, 1) by decide +kernel) rfl ?_
  refine Ev_getI hq_176 (show decode prog_7_method_52_code 22 = .ok (.getfield 87, 3) by decide +kernel) rfl (SGn hS (by decide)) (SGk hS rfl) (by decide) rfl ?_
  refine Ev_icmp_ge (tgt := 54) hq_176 (show decode prog_7_method_52_code 25 = .ok (.if_icmp .ge 29, 3) by decide +kernel) (by decide) (fun c1 => ?_) (fun c1 => ?_)
  · have k := k.1 c1
    refine Ev_aload_n hq_176 (show decode prog_7_method_52_code 54 = .ok (.aload_n 0, 1) by decide +kernel) rfl ?_
    obtain ⟨r4, I2, h3, k⟩ := k
    refine Ev_virt (as := []) hq_176 (show decode prog_7_method_52_code 55 = .ok (.invokevirtual 208, 3) by decide +kernel) rfl hq_173 rfl (z_le rfl) ⟨(SGn hS (by decide)), (SGk hS rfl), by decide⟩ h3 ?_
    exact Ev_iret hq_176 (show decode prog_7_method_52_code 58 = .ok (.ireturn, 1) by decide +kernel) rfl k
  · have k := k.2 c1
    refine Ev_aload_n hq_176 (show decode prog_7_method_52_code 28 = .ok (.aload_n 0, 1) by decide +kernel) rfl ?_
    refine Ev_getR hq_176 (show decode prog_7_method_52_code 29 = .ok (.getfield 16, 3) by decide +kernel) rfl (SGn hS (by decide)) (SGk hS rfl) (by decide) rfl (SGr hS rfl) ?_
    refine Ev_iconst (v := 5) hq_176 (show decode prog_7_method_52_code 32 = .ok (.iconst 5, 1) by decide +kernel) (by decide) ?_
    refine Ev_iload_n hq_176 (show decode prog_7_method_52_code 33 = .ok (.iload_n 2, 1) by decide +kernel) rfl ?_
    refine Ev_imul hq_176 (show decode prog_7_method_52_code 34 = .ok (.imul, 1) by decide +kernel) ?_
    refine Ev_iconst (v := 2) hq_176 (show decode prog_7_method_52_code 35 = .ok (.iconst 2, 1) by decide +kernel) (by decide) ?_
    refine Ev_iadd hq_176 (show decode prog_7_method_52_code 36 = .ok (.iadd, 1) by decide +kernel) ?_
    refine Ev_aload_n hq_176 (show decode prog_7_method_52_code 37 = .ok (.aload_n 0, 1) by decide +kernel) rfl ?_
    refine Ev_getR hq_176 (show decode prog_7_method_52_code 38 = .ok (.getfield 55, 3) by decide +kernel) rfl (SGn hS (by decide)) (SGk hS rfl) (by decide) rfl (SGr hS rfl) ?_
    refine Ev_iconst (v := 4) hq_176 (show decode prog_7_method_52_code 41 = .ok (.iconst 4, 1) by decide +kernel) (by decide) ?_
    refine Ev_iload_n hq_176 (show decode prog_7_method_52_code 42 = .ok (.iload_n 1, 1) by decide +kernel) rfl ?_
    refine Ev_imul hq_176 (show decode prog_7_method_52_code 43 = .ok (.imul, 1) by decide +kernel) ?_
    refine Ev_iload_n hq_176 (show decode prog_7_method_52_code 44 = .ok (.iload_n 2, 1) by decide +kernel) rfl ?_
    refine Ev_iadd hq_176 (show decode prog_7_method_52_code 45 = .ok (.iadd, 1) by decide +kernel) ?_
    obtain ⟨h5, k⟩ := k
    refine Ev_iald hq_176 (show decode prog_7_method_52_code 46 = .ok (.iaload, 1) by decide +kernel) (SGn hS (by decide)) (SGk hS rfl) (SGi hS rfl h5) ?_
    obtain ⟨h6, k⟩ := k
    refine Ev_iast hq_176 (show decode prog_7_method_52_code 47 = .ok (.iastore, 1) by decide +kernel) (SGn hS (by decide)) (SGk hS rfl) (SGi hS rfl h6) ?_
    obtain ⟨I7, eI7⟩ : ∃ I7 : zI, I7 = z_up I 60 ((5 * x2) + 2).toNatClampNeg (I 73 ((4 * x1) + x2).toNatClampNeg) := ⟨_, rfl⟩
    have k := k I7 eI7
    rw [← eI7]
    obtain ⟨y8, ey8⟩ : ∃ y8 : Int32, y8 = x2 + 1 := ⟨_, rfl⟩
    have k := k y8 ey8
    refine Ev_iinc (v := y8) (lo2 := [.ref 57, .int x1, .int y8]) hq_176 (show decode prog_7_method_52_code 48 = .ok (.iinc 2 1, 3) by decide +kernel) rfl (by rw [ey8]; rfl) rfl ?_
    refine Ev_goto (tgt := 20) hq_176 (show decode prog_7_method_52_code 51 = .ok (.goto (-31), 3) by decide +kernel) (by decide) ?_
    exact k
set_option maxRecDepth 20000 in
theorem wp_Z_best {X : Nat × (Nat → Int32)} {d : Nat} {G : zG} {I : zI} {res : Option Value × zG × zI} (x1 : Int32) (x2 : Int32) (hS : SG G) 
    (k : ∃ (r3 : Int32) (I1 : zI), Cv X d 148 [.ref 57, .int x1] G I (some (.int r3), G, I1) ∧ ((¬ r3 = 0 → ∃ (r7 : Int32) (I5 : zI), Cv X d 131 [.int x2, .int 0, .int 1] G I1 (some (.int r7), G, I5) ∧ ((¬ r7 = 0 → ∃ (I9 : zI), Cv X d 178 [.ref 57, .int x1] G I5 (none, G, I9) ∧ ((¬ x2 = 0 → res = (some (.int (I9 57 36)), G, I9)) ∧ (x2 = 0 → res = (some (.int (I9 57 35)), G, I9)))) ∧ (r7 = 0 → res = (some (.int (-7)), G, I5)))) ∧ (r3 = 0 → res = (some (.int (-5)), G, I1)))) :
    Ev X (d + 1) 177 0 [.ref 57, .int x1, .int x2] [] G I res := by
  refine Ev_aload_n hq_177 (show decode prog_7_method_54_code 0 = .ok (.aload_n 0, 1) by decide +kernel) rfl ?_
  refine Ev_iload_n hq_177 (show decode prog_7_method_54_code 1 = .ok (.iload_n 1, 1) by decide +kernel) rfl ?_
  obtain ⟨r3, I1, h2, k⟩ := k
  refine Ev_virt (as := [.int x1]) hq_177 (show decode prog_7_method_54_code 2 = .ok (.invokevirtual 176, 3) by decide +kernel) rfl hq_148 rfl (z_le rfl) ⟨(SGn hS (by decide)), (SGk hS rfl), by decide⟩ h2 ?_
  refine Ev_if_ne (tgt := 11) hq_177 (show decode prog_7_method_54_code 5 = .ok (.ifCond .ne 6, 3) by decide +kernel) (by decide) (fun c4 => ?_) (fun c4 => ?_)
  · have k := k.1 c4
    refine Ev_iload_n hq_177 (show decode prog_7_method_54_code 11 = .ok (.iload_n 2, 1) by decide +kernel) rfl ?_
    refine Ev_iconst (v := 0) hq_177 (show decode prog_7_method_54_code 12 = .ok (.iconst 0, 1) by decide +kernel) (by decide) ?_
    refine Ev_iconst (v := 1) hq_177 (show decode prog_7_method_54_code 13 = .ok (.iconst 1, 1) by decide +kernel) (by decide) ?_
    obtain ⟨r7, I5, h6, k⟩ := k
    refine Ev_stat (as := [.int x2, .int 0, .int 1]) hq_177 (show decode prog_7_method_54_code 14 = .ok (.invokestatic 90, 3) by decide +kernel) rfl (Or.inl rfl) hq_131 rfl (z_le rfl) h6 ?_
    refine Ev_if_ne (tgt := 23) hq_177 (show decode prog_7_method_54_code 17 = .ok (.ifCond .ne 6, 3) by decide +kernel) (by decide) (fun c8 => ?_) (fun c8 => ?_)
    · have k := k.1 c8
      refine Ev_aload_n hq_177 (show decode prog_7_method_54_code 23 = .ok (.aload_n 0, 1) by decide +kernel) rfl ?_
      refine Ev_iload_n hq_177 (show decode prog_7_method_54_code 24 = .ok (.iload_n 1, 1) by decide +kernel) rfl ?_
      obtain ⟨I9, h10, k⟩ := k
      refine Ev_virt (as := [.int x1]) hq_177 (show decode prog_7_method_54_code 25 = .ok (.invokevirtual 241, 3) by decide +kernel) rfl hq_178 rfl (z_le rfl) ⟨(SGn hS (by decide)), (SGk hS rfl), by decide⟩ h10 ?_
      refine Ev_iload_n hq_177 (show decode prog_7_method_54_code 28 = .ok (.iload_n 2, 1) by decide +kernel) rfl ?_
      refine Ev_if_ne (tgt := 39) hq_177 (show decode prog_7_method_54_code 29 = .ok (.ifCond .ne 10, 3) by decide +kernel) (by decide) (fun c11 => ?_) (fun c11 => ?_)
      · have k := k.1 c11
        refine Ev_aload_n hq_177 (show decode prog_7_method_54_code 39 = .ok (.aload_n 0, 1) by decide +kernel) rfl ?_
        refine Ev_getI hq_177 (show decode prog_7_method_54_code 40 = .ok (.getfield 238, 3) by decide +kernel) rfl (SGn hS (by decide)) (SGk hS rfl) (by decide) rfl ?_
        exact Ev_iret hq_177 (show decode prog_7_method_54_code 43 = .ok (.ireturn, 1) by decide +kernel) rfl k
      · have k := k.2 (Classical.not_not.mp c11)
        refine Ev_aload_n hq_177 (show decode prog_7_method_54_code 32 = .ok (.aload_n 0, 1) by decide +kernel) rfl ?_
        refine Ev_getI hq_177 (show decode prog_7_method_54_code 33 = .ok (.getfield 232, 3) by decide +kernel) rfl (SGn hS (by decide)) (SGk hS rfl) (by decide) rfl ?_
        refine Ev_goto (tgt := 43) hq_177 (show decode prog_7_method_54_code 36 = .ok (.goto 7, 3) by decide +kernel) (by decide) ?_
        exact Ev_iret hq_177 (show decode prog_7_method_54_code 43 = .ok (.ireturn, 1) by decide +kernel) rfl k
    · have k := k.2 (Classical.not_not.mp c8)
      refine Ev_bipush (v := (-7)) hq_177 (show decode prog_7_method_54_code 20 = .ok (.bipush (-7), 2) by decide +kernel) (by decide) ?_
      exact Ev_iret hq_177 (show decode prog_7_method_54_code 22 = .ok (.ireturn, 1) by decide +kernel) rfl k
  · have k := k.2 (Classical.not_not.mp c4)
    refine Ev_bipush (v := (-5)) hq_177 (show decode prog_7_method_54_code 8 = .ok (.bipush (-5), 2) by decide +kernel) (by decide) ?_
    exact Ev_iret hq_177 (show decode prog_7_method_54_code 10 = .ok (.ireturn, 1) by decide +kernel) rfl k
set_option maxRecDepth 20000 in
theorem wp_Z_findsBest {X : Nat × (Nat → Int32)} {d : Nat} {G : zG} {I : zI} {res : Option Value × zG × zI} (x1 : Int32) (hS : SG G) 
    (k : z_inr ((5 * x1) + 3) 20 ∧ (∀ y2 : Int32, y2 = (I 60 ((5 * x1) + 3).toNatClampNeg) → (∀ I3 : zI, I3 = z_up I 57 35 (-1) → Ev X d 178 18 [.ref 57, .int x1, .int y2, .int 0, zU, zU] [] G I3 res))) :
    Ev X d 178 0 [.ref 57, .int x1, zU, zU, zU, zU] [] G I res := by
  refine Ev_aload_n hq_178 (show decode prog_7_method_53_code 0 = .ok (.aload_n 0, 1) by decide +kernel) rfl ?_
  refine Ev_getR hq_178 (show decode prog_7_method_53_code 1 = .ok (.getfield 16, 3) by decide +kernel) rfl (SGn hS (by decide)) (SGk hS rfl) (by decide) rfl (SGr hS rfl) ?_
  refine Ev_iconst (v := 5) hq_178 (show decode prog_7_method_53_code 4 = .ok (.iconst 5, 1) by decide +kernel) (by decide) ?_
  refine Ev_iload_n hq_178 (show decode prog_7_method_53_code 5 = .ok (.iload_n 1, 1) by decide +kernel) rfl ?_
  refine Ev_imul hq_178 (show decode prog_7_method_53_code 6 = .ok (.imul, 1) by decide +kernel) ?_
  refine Ev_iconst (v := 3) hq_178 (show decode prog_7_method_53_code 7 = .ok (.iconst 3, 1) by decide +kernel) (by decide) ?_
  refine Ev_iadd hq_178 (show decode prog_7_method_53_code 8 = .ok (.iadd, 1) by decide +kernel) ?_
  obtain ⟨h1, k⟩ := k
  refine Ev_iald hq_178 (show decode prog_7_method_53_code 9 = .ok (.iaload, 1) by decide +kernel) (SGn hS (by decide)) (SGk hS rfl) (SGi hS rfl h1) ?_
  obtain ⟨y2, ey2⟩ : ∃ y2 : Int32, y2 = (I 60 ((5 * x1) + 3).toNatClampNeg) := ⟨_, rfl⟩
  have k := k y2 ey2
  rw [← ey2]
  refine Ev_istore_n (lo2 := [.ref 57, .int x1, .int y2, zU, zU, zU]) hq_178 (show decode prog_7_method_53_code 10 = .ok (.istore_n 2, 1) by decide +kernel) (z_le rfl) rfl ?_
  refine Ev_aload_n hq_178 (show decode prog_7_method_53_code 11 = .ok (.aload_n 0, 1) by decide +kernel) rfl ?_
  refine Ev_iconst (v := (-1)) hq_178 (show decode prog_7_method_53_code 12 = .ok (.iconst (-1), 1) by decide +kernel) (by decide) ?_
  refine Ev_putI hq_178 (show decode prog_7_method_53_code 13 = .ok (.putfield 232, 3) by decide +kernel) rfl (SGn hS (by decide)) (SGk hS rfl) (by decide) (by decide) rfl (fun hz => by cases hz) ?_
  obtain ⟨I3, eI3⟩ : ∃ I3 : zI, I3 = z_up I 57 35 (-1) := ⟨_, rfl⟩
  have k := k I3 eI3
  rw [← eI3]
  refine Ev_iconst (v := 0) hq_178 (show decode prog_7_method_53_code 16 = .ok (.iconst 0, 1) by decide +kernel) (by decide) ?_
  refine Ev_istore_n (lo2 := [.ref 57, .int x1, .int y2, .int 0, zU, zU]) hq_178 (show decode prog_7_method_53_code 17 = .ok (.istore_n 3, 1) by decide +kernel) (z_le rfl) rfl ?_
  exact k
set_option maxRecDepth 20000 in
theorem wp_Z_findsBest_18 {X : Nat × (Nat → Int32)} {d : Nat} {G : zG} {I : zI} {res : Option Value × zG × zI} (x1 : Int32) (x2 : Int32) (x3 : Int32) (v4 : Value) (cv4 : v4.category = 1) (v5 : Value) (cv5 : v5.category = 1) (hS : SG G) 
    (k : (16 < x3 → z_inr ((5 * x1) + 3) 20 ∧ (∀ I3 : zI, I3 = z_up I 60 ((5 * x1) + 3).toNatClampNeg x2 → res = (none, G, I3))) ∧ (¬ 16 < x3 → z_inr ((5 * x1) + 3) 20 ∧ (∀ I5 : zI, I5 = z_up I 60 ((5 * x1) + 3).toNatClampNeg x3 → ∃ (r8 : Int32) (I6 : zI), Cv X d 179 [.ref 57, .int x1] G I5 (some (.int r8), G, I6) ∧ (((I6 57 35) = (-1) → (∀ I10 : zI, I10 = z_up I6 57 35 x3 → (∀ I11 : zI, I11 = z_up I10 57 36 r8 → ∀ y12 : Int32, y12 = x3 + 1 → Ev X (d + 1) 178 18 [.ref 57, .int x1, .int x2, .int y12, .int r8, .int 1] [] G I11 res))) ∧ (¬ (I6 57 35) = (-1) → ((I6 57 36) ≤ r8 → (∀ I14 : zI, I14 = z_up I6 57 35 (I6 57 35) → (∀ I15 : zI, I15 = z_up I14 57 36 (I14 57 36) → ∀ y16 : Int32, y16 = x3 + 1 → Ev X (d + 1) 178 18 [.ref 57, .int x1, .int x2, .int y16, .int r8, .int 0] [] G I15 res))) ∧ (¬ (I6 57 36) ≤ r8 → (∀ I17 : zI, I17 = z_up I6 57 35 x3 → (∀ I18 : zI, I18 = z_up I17 57 36 r8 → ∀ y19 : Int32, y19 = x3 + 1 → Ev X (d + 1) 178 18 [.ref 57, .int x1, .int x2, .int y19, .int r8, .int 1] [] G I18 res)))))))) :
    Ev X (d + 1) 178 18 [.ref 57, .int x1, .int x2, .int x3, v4, v5] [] G I res := by
  refine Ev_iload_n hq_178 (show decode prog_7_method_53_code 18 = .ok (.iload_n 3, 1) by decide +kernel) rfl ?_
  refine Ev_bipush (v := 16) hq_178 (show decode prog_7_method_53_code 19 = .ok (.bipush 16, 2) by decide +kernel) (by decide) ?_
  refine Ev_icmp_gt (tgt := 107) hq_178 (show decode prog_7_method_53_code 21 = .ok (.if_icmp .gt 86, 3) by decide +kernel) (by decide) (fun c1 => ?_) (fun c1 => ?_)
  · have k := k.1 c1
    refine Ev_aload_n hq_178 (show decode prog_7_method_53_code 107 = .ok (.aload_n 0, 1) by decide +kernel) rfl ?_
    refine Ev_getR hq_178 (show decode prog_7_method_53_code 108 = .ok (.getfield 16, 3) by decide +kernel) rfl (SGn hS (by decide)) (SGk hS rfl) (by decide) rfl (SGr hS rfl) ?_
    refine Ev_iconst (v := 5) hq_178 (show decode prog_7_method_53_code 111 = .ok (.iconst 5, 1) by decide +kernel) (by decide) ?_
    refine Ev_iload_n hq_178 (show decode prog_7_method_53_code 112 = .ok (.iload_n 1, 1) by decide +kernel) rfl ?_
    refine Ev_imul hq_178 (show decode prog_7_method_53_code 113 = .ok (.imul, 1) by decide +kernel) ?_
    refine Ev_iconst (v := 3) hq_178 (show decode prog_7_method_53_code 114 = .ok (.iconst 3, 1) by decide +kernel) (by decide) ?_
    refine Ev_iadd hq_178 (show decode prog_7_method_53_code 115 = .ok (.iadd, 1) by decide +kernel) ?_
    refine Ev_iload_n hq_178 (show decode prog_7_method_53_code 116 = .ok (.iload_n 2, 1) by decide +kernel) rfl ?_
    obtain ⟨h2, k⟩ := k
    refine Ev_iast hq_178 (show decode prog_7_method_53_code 117 = .ok (.iastore, 1) by decide +kernel) (SGn hS (by decide)) (SGk hS rfl) (SGi hS rfl h2) ?_
    obtain ⟨I3, eI3⟩ : ∃ I3 : zI, I3 = z_up I 60 ((5 * x1) + 3).toNatClampNeg x2 := ⟨_, rfl⟩
    have k := k I3 eI3
    rw [← eI3]
    exact Ev_vret hq_178 (show decode prog_7_method_53_code 118 = .ok (.return_, 1) by decide +kernel) k
  · have k := k.2 c1
    refine Ev_aload_n hq_178 (show decode prog_7_method_53_code 24 = .ok (.aload_n 0, 1) by decide +kernel) rfl ?_
    refine Ev_getR hq_178 (show decode prog_7_method_53_code 25 = .ok (.getfield 16, 3) by decide +kernel) rfl (SGn hS (by decide)) (SGk hS rfl) (by decide) rfl (SGr hS rfl) ?_
    refine Ev_iconst (v := 5) hq_178 (show decode prog_7_method_53_code 28 = .ok (.iconst 5, 1) by decide +kernel) (by decide) ?_
    refine Ev_iload_n hq_178 (show decode prog_7_method_53_code 29 = .ok (.iload_n 1, 1) by decide +kernel) rfl ?_
    refine Ev_imul hq_178 (show decode prog_7_method_53_code 30 = .ok (.imul, 1) by decide +kernel) ?_
    refine Ev_iconst (v := 3) hq_178 (show decode prog_7_method_53_code 31 = .ok (.iconst 3, 1) by decide +kernel) (by decide) ?_
    refine Ev_iadd hq_178 (show decode prog_7_method_53_code 32 = .ok (.iadd, 1) by decide +kernel) ?_
    refine Ev_iload_n hq_178 (show decode prog_7_method_53_code 33 = .ok (.iload_n 3, 1) by decide +kernel) rfl ?_
    obtain ⟨h4, k⟩ := k
    refine Ev_iast hq_178 (show decode prog_7_method_53_code 34 = .ok (.iastore, 1) by decide +kernel) (SGn hS (by decide)) (SGk hS rfl) (SGi hS rfl h4) ?_
    obtain ⟨I5, eI5⟩ : ∃ I5 : zI, I5 = z_up I 60 ((5 * x1) + 3).toNatClampNeg x3 := ⟨_, rfl⟩
    have k := k I5 eI5
    rw [← eI5]
    refine Ev_aload_n hq_178 (show decode prog_7_method_53_code 35 = .ok (.aload_n 0, 1) by decide +kernel) rfl ?_
    refine Ev_iload_n hq_178 (show decode prog_7_method_53_code 36 = .ok (.iload_n 1, 1) by decide +kernel) rfl ?_
    obtain ⟨r8, I6, h7, k⟩ := k
    refine Ev_virt (as := [.int x1]) hq_178 (show decode prog_7_method_53_code 37 = .ok (.invokevirtual 235, 3) by decide +kernel) rfl hq_179 rfl (z_le rfl) ⟨(SGn hS (by decide)), (SGk hS rfl), by decide⟩ h7 ?_
    refine Ev_istore (lo2 := [.ref 57, .int x1, .int x2, .int x3, .int r8, v5]) hq_178 (show decode prog_7_method_53_code 40 = .ok (.istore 4, 2) by decide +kernel) (z_le rfl) rfl ?_
    refine Ev_aload_n hq_178 (show decode prog_7_method_53_code 42 = .ok (.aload_n 0, 1) by decide +kernel) rfl ?_
    refine Ev_getI hq_178 (show decode prog_7_method_53_code 43 = .ok (.getfield 232, 3) by decide +kernel) rfl (SGn hS (by decide)) (SGk hS rfl) (by decide) rfl ?_
    refine Ev_iconst (v := (-1)) hq_178 (show decode prog_7_method_53_code 46 = .ok (.iconst (-1), 1) by decide +kernel) (by decide) ?_
    refine Ev_icmp_eq (tgt := 59) hq_178 (show decode prog_7_method_53_code 47 = .ok (.if_icmp .eq 12, 3) by decide +kernel) (by decide) (fun c9 => ?_) (fun c9 => ?_)
    · have k := k.1 c9
      refine Ev_iconst (v := 1) hq_178 (show decode prog_7_method_53_code 59 = .ok (.iconst 1, 1) by decide +kernel) (by decide) ?_
      refine Ev_goto (tgt := 64) hq_178 (show decode prog_7_method_53_code 60 = .ok (.goto 4, 3) by decide +kernel) (by decide) ?_
      refine Ev_istore (lo2 := [.ref 57, .int x1, .int x2, .int x3, .int r8, .int 1]) hq_178 (show decode prog_7_method_53_code 64 = .ok (.istore 5, 2) by decide +kernel) (z_le rfl) rfl ?_
      refine Ev_aload_n hq_178 (show decode prog_7_method_53_code 66 = .ok (.aload_n 0, 1) by decide +kernel) rfl ?_
      refine Ev_iload hq_178 (show decode prog_7_method_53_code 67 = .ok (.iload 5, 2) by decide +kernel) rfl ?_
      refine Ev_if_eq (tgt := 76) hq_178 (show decode prog_7_method_53_code 69 = .ok (.ifCond .eq 7, 3) by decide +kernel) (by decide) (fun hz => absurd hz (by decide)) (fun _ => ?_)
      refine Ev_iload_n hq_178 (show decode prog_7_method_53_code 72 = .ok (.iload_n 3, 1) by decide +kernel) rfl ?_
      refine Ev_goto (tgt := 80) hq_178 (show decode prog_7_method_53_code 73 = .ok (.goto 7, 3) by decide +kernel) (by decide) ?_
      refine Ev_putI hq_178 (show decode prog_7_method_53_code 80 = .ok (.putfield 232, 3) by decide +kernel) rfl (SGn hS (by decide)) (SGk hS rfl) (by decide) (by decide) rfl (fun hz => by cases hz) ?_
      obtain ⟨I10, eI10⟩ : ∃ I10 : zI, I10 = z_up I6 57 35 x3 := ⟨_, rfl⟩
      have k := k I10 eI10
      rw [← eI10]
      refine Ev_aload_n hq_178 (show decode prog_7_method_53_code 83 = .ok (.aload_n 0, 1) by decide +kernel) rfl ?_
      refine Ev_iload hq_178 (show decode prog_7_method_53_code 84 = .ok (.iload 5, 2) by decide +kernel) rfl ?_
      refine Ev_if_eq (tgt := 94) hq_178 (show decode prog_7_method_53_code 86 = .ok (.ifCond .eq 8, 3) by decide +kernel) (by decide) (fun hz => absurd hz (by decide)) (fun _ => ?_)
      refine Ev_iload hq_178 (show decode prog_7_method_53_code 89 = .ok (.iload 4, 2) by decide +kernel) rfl ?_
      refine Ev_goto (tgt := 98) hq_178 (show decode prog_7_method_53_code 91 = .ok (.goto 7, 3) by decide +kernel) (by decide) ?_
      refine Ev_putI hq_178 (show decode prog_7_method_53_code 98 = .ok (.putfield 238, 3) by decide +kernel) rfl (SGn hS (by decide)) (SGk hS rfl) (by decide) (by decide) rfl (fun hz => by cases hz) ?_
      obtain ⟨I11, eI11⟩ : ∃ I11 : zI, I11 = z_up I10 57 36 r8 := ⟨_, rfl⟩
      have k := k I11 eI11
      rw [← eI11]
      obtain ⟨y12, ey12⟩ : ∃ y12 : Int32, y12 = x3 + 1 := ⟨_, rfl⟩
      have k := k y12 ey12
      refine Ev_iinc (v := y12) (lo2 := [.ref 57, .int x1, .int x2, .int y12, .int r8, .int 1]) hq_178 (show decode prog_7_method_53_code 101 = .ok (.iinc 3 1, 3) by decide +kernel) rfl (by rw [ey12]; rfl) rfl ?_
      refine Ev_goto (tgt := 18) hq_178 (show decode prog_7_method_53_code 104 = .ok (.goto (-86), 3) by decide +kernel) (by decide) ?_
      exact k
    · have k := k.2 c9
      refine Ev_iload hq_178 (show decode prog_7_method_53_code 50 = .ok (.iload 4, 2) by decide +kernel) rfl ?_
      refine Ev_aload_n hq_178 (show decode prog_7_method_53_code 52 = .ok (.aload_n 0, 1) by decide +kernel) rfl ?_
      refine Ev_getI hq_178 (show decode prog_7_method_53_code 53 = .ok (.getfield 238, 3) by decide +kernel) rfl (SGn hS (by decide)) (SGk hS rfl) (by decide) rfl ?_
      refine Ev_icmp_ge (tgt := 63) hq_178 (show decode prog_7_method_53_code 56 = .ok (.if_icmp .ge 7, 3) by decide +kernel) (by decide) (fun c13 => ?_) (fun c13 => ?_)
      · have k := k.1 c13
        refine Ev_iconst (v := 0) hq_178 (show decode prog_7_method_53_code 63 = .ok (.iconst 0, 1) by decide +kernel) (by decide) ?_
        refine Ev_istore (lo2 := [.ref 57, .int x1, .int x2, .int x3, .int r8, .int 0]) hq_178 (show decode prog_7_method_53_code 64 = .ok (.istore 5, 2) by decide +kernel) (z_le rfl) rfl ?_
        refine Ev_aload_n hq_178 (show decode prog_7_method_53_code 66 = .ok (.aload_n 0, 1) by decide +kernel) rfl ?_
        refine Ev_iload hq_178 (show decode prog_7_method_53_code 67 = .ok (.iload 5, 2) by decide +kernel) rfl ?_
        refine Ev_if_eq (tgt := 76) hq_178 (show decode prog_7_method_53_code 69 = .ok (.ifCond .eq 7, 3) by decide +kernel) (by decide) (fun _ => ?_) (fun hz => absurd (by decide) hz)
        refine Ev_aload_n hq_178 (show decode prog_7_method_53_code 76 = .ok (.aload_n 0, 1) by decide +kernel) rfl ?_
        refine Ev_getI hq_178 (show decode prog_7_method_53_code 77 = .ok (.getfield 232, 3) by decide +kernel) rfl (SGn hS (by decide)) (SGk hS rfl) (by decide) rfl ?_
        refine Ev_putI hq_178 (show decode prog_7_method_53_code 80 = .ok (.putfield 232, 3) by decide +kernel) rfl (SGn hS (by decide)) (SGk hS rfl) (by decide) (by decide) rfl (fun hz => by cases hz) ?_
        obtain ⟨I14, eI14⟩ : ∃ I14 : zI, I14 = z_up I6 57 35 (I6 57 35) := ⟨_, rfl⟩
        have k := k I14 eI14
        rw [← eI14]
        refine Ev_aload_n hq_178 (show decode prog_7_method_53_code 83 = .ok (.aload_n 0, 1) by decide +kernel) rfl ?_
        refine Ev_iload hq_178 (show decode prog_7_method_53_code 84 = .ok (.iload 5, 2) by decide +kernel) rfl ?_
        refine Ev_if_eq (tgt := 94) hq_178 (show decode prog_7_method_53_code 86 = .ok (.ifCond .eq 8, 3) by decide +kernel) (by decide) (fun _ => ?_) (fun hz => absurd (by decide) hz)
        refine Ev_aload_n hq_178 (show decode prog_7_method_53_code 94 = .ok (.aload_n 0, 1) by decide +kernel) rfl ?_
        refine Ev_getI hq_178 (show decode prog_7_method_53_code 95 = .ok (.getfield 238, 3) by decide +kernel) rfl (SGn hS (by decide)) (SGk hS rfl) (by decide) rfl ?_
        refine Ev_putI hq_178 (show decode prog_7_method_53_code 98 = .ok (.putfield 238, 3) by decide +kernel) rfl (SGn hS (by decide)) (SGk hS rfl) (by decide) (by decide) rfl (fun hz => by cases hz) ?_
        obtain ⟨I15, eI15⟩ : ∃ I15 : zI, I15 = z_up I14 57 36 (I14 57 36) := ⟨_, rfl⟩
        have k := k I15 eI15
        rw [← eI15]
        obtain ⟨y16, ey16⟩ : ∃ y16 : Int32, y16 = x3 + 1 := ⟨_, rfl⟩
        have k := k y16 ey16
        refine Ev_iinc (v := y16) (lo2 := [.ref 57, .int x1, .int x2, .int y16, .int r8, .int 0]) hq_178 (show decode prog_7_method_53_code 101 = .ok (.iinc 3 1, 3) by decide +kernel) rfl (by rw [ey16]; rfl) rfl ?_
        refine Ev_goto (tgt := 18) hq_178 (show decode prog_7_method_53_code 104 = .ok (.goto (-86), 3) by decide +kernel) (by decide) ?_
        exact k
      · have k := k.2 c13
        refine Ev_iconst (v := 1) hq_178 (show decode prog_7_method_53_code 59 = .ok (.iconst 1, 1) by decide +kernel) (by decide) ?_
        refine Ev_goto (tgt := 64) hq_178 (show decode prog_7_method_53_code 60 = .ok (.goto 4, 3) by decide +kernel) (by decide) ?_
        refine Ev_istore (lo2 := [.ref 57, .int x1, .int x2, .int x3, .int r8, .int 1]) hq_178 (show decode prog_7_method_53_code 64 = .ok (.istore 5, 2) by decide +kernel) (z_le rfl) rfl ?_
        refine Ev_aload_n hq_178 (show decode prog_7_method_53_code 66 = .ok (.aload_n 0, 1) by decide +kernel) rfl ?_
        refine Ev_iload hq_178 (show decode prog_7_method_53_code 67 = .ok (.iload 5, 2) by decide +kernel) rfl ?_
        refine Ev_if_eq (tgt := 76) hq_178 (show decode prog_7_method_53_code 69 = .ok (.ifCond .eq 7, 3) by decide +kernel) (by decide) (fun hz => absurd hz (by decide)) (fun _ => ?_)
        refine Ev_iload_n hq_178 (show decode prog_7_method_53_code 72 = .ok (.iload_n 3, 1) by decide +kernel) rfl ?_
        refine Ev_goto (tgt := 80) hq_178 (show decode prog_7_method_53_code 73 = .ok (.goto 7, 3) by decide +kernel) (by decide) ?_
        refine Ev_putI hq_178 (show decode prog_7_method_53_code 80 = .ok (.putfield 232, 3) by decide +kernel) rfl (SGn hS (by decide)) (SGk hS rfl) (by decide) (by decide) rfl (fun hz => by cases hz) ?_
        obtain ⟨I17, eI17⟩ : ∃ I17 : zI, I17 = z_up I6 57 35 x3 := ⟨_, rfl⟩
        have k := k I17 eI17
        rw [← eI17]
        refine Ev_aload_n hq_178 (show decode prog_7_method_53_code 83 = .ok (.aload_n 0, 1) by decide +kernel) rfl ?_
        refine Ev_iload hq_178 (show decode prog_7_method_53_code 84 = .ok (.iload 5, 2) by decide +kernel) rfl ?_
        refine Ev_if_eq (tgt := 94) hq_178 (show decode prog_7_method_53_code 86 = .ok (.ifCond .eq 8, 3) by decide +kernel) (by decide) (fun hz => absurd hz (by decide)) (fun _ => ?_)
        refine Ev_iload hq_178 (show decode prog_7_method_53_code 89 = .ok (.iload 4, 2) by decide +kernel) rfl ?_
        refine Ev_goto (tgt := 98) hq_178 (show decode prog_7_method_53_code 91 = .ok (.goto 7, 3) by decide +kernel) (by decide) ?_
        refine Ev_putI hq_178 (show decode prog_7_method_53_code 98 = .ok (.putfield 238, 3) by decide +kernel) rfl (SGn hS (by decide)) (SGk hS rfl) (by decide) (by decide) rfl (fun hz => by cases hz) ?_
        obtain ⟨I18, eI18⟩ : ∃ I18 : zI, I18 = z_up I17 57 36 r8 := ⟨_, rfl⟩
        have k := k I18 eI18
        rw [← eI18]
        obtain ⟨y19, ey19⟩ : ∃ y19 : Int32, y19 = x3 + 1 := ⟨_, rfl⟩
        have k := k y19 ey19
        refine Ev_iinc (v := y19) (lo2 := [.ref 57, .int x1, .int x2, .int y19, .int r8, .int 1]) hq_178 (show decode prog_7_method_53_code 101 = .ok (.iinc 3 1, 3) by decide +kernel) rfl (by rw [ey19]; rfl) rfl ?_
        refine Ev_goto (tgt := 18) hq_178 (show decode prog_7_method_53_code 104 = .ok (.goto (-86), 3) by decide +kernel) (by decide) ?_
        exact k
set_option maxRecDepth 20000 in
theorem wp_Z_costOf {X : Nat × (Nat → Int32)} {d : Nat} {G : zG} {I : zI} {res : Option Value × zG × zI} (x1 : Int32) (hS : SG G) 
    (k : ∃ (I1 : zI), Cv X d 159 [.ref 57, .int 30] G I (none, G, I1) ∧ (z_inr x1 4 ∧ (res = (some (.int (I1 75 x1.toNatClampNeg)), G, I1)))) :
    Ev X (d + 1) 179 0 [.ref 57, .int x1] [] G I res := by
  refine Ev_aload_n hq_179 (show decode prog_7_method_39_code 0 = .ok (.aload_n 0, 1) by decide +kernel) rfl ?_
  refine Ev_bipush (v := 30) hq_179 (show decode prog_7_method_39_code 1 = .ok (.bipush 30, 2) by decide +kernel) (by decide) ?_
  obtain ⟨I1, h2, k⟩ := k
  refine Ev_virt (as := [.int 30]) hq_179 (show decode prog_7_method_39_code 3 = .ok (.invokevirtual 205, 3) by decide +kernel) rfl hq_159 rfl (z_le rfl) ⟨(SGn hS (by decide)), (SGk hS rfl), by decide⟩ h2 ?_
  refine Ev_aload_n hq_179 (show decode prog_7_method_39_code 6 = .ok (.aload_n 0, 1) by decide +kernel) rfl ?_
  refine Ev_getR hq_179 (show decode prog_7_method_39_code 7 = .ok (.getfield 61, 3) by decide +kernel) rfl (SGn hS (by decide)) (SGk hS rfl) (by decide) rfl (SGr hS rfl) ?_
  refine Ev_iload_n hq_179 (show decode prog_7_method_39_code 10 = .ok (.iload_n 1, 1) by decide +kernel) rfl ?_
  obtain ⟨h3, k⟩ := k
  refine Ev_iald hq_179 (show decode prog_7_method_39_code 11 = .ok (.iaload, 1) by decide +kernel) (SGn hS (by decide)) (SGk hS rfl) (SGi hS rfl h3) ?_
  exact Ev_iret hq_179 (show decode prog_7_method_39_code 12 = .ok (.ireturn, 1) by decide +kernel) rfl k
set_option maxRecDepth 20000 in
theorem wp_Z_line {X : Nat × (Nat → Int32)} {d : Nat} {G : zG} {I : zI} {res : Option Value × zG × zI} (x1 : Int32) (x2 : Int32) (hS : SG G) 
    (k : ∃ (r3 : Int32) (I1 : zI), Cv X d 148 [.ref 57, .int x1] G I (some (.int r3), G, I1) ∧ ((¬ r3 = 0 → ∃ (r7 : Int32) (I5 : zI), Cv X d 168 [.int x2] G I1 (some (.int r7), G, I5) ∧ ((¬ r7 = 0 → Ev X (d + 1) 180 26 [.ref 57, .int x1, .int x2, .int (-1), .int 0] [] G I5 res) ∧ (r7 = 0 → res = (some (.int (-7)), G, I5)))) ∧ (r3 = 0 → res = (some (.int (-5)), G, I1)))) :
    Ev X (d + 1) 180 0 [.ref 57, .int x1, .int x2, zU, zU] [] G I res := by
  refine Ev_aload_n hq_180 (show decode prog_7_method_56_code 0 = .ok (.aload_n 0, 1) by decide +kernel) rfl ?_
  refine Ev_iload_n hq_180 (show decode prog_7_method_56_code 1 = .ok (.iload_n 1, 1) by decide +kernel) rfl ?_
  obtain ⟨r3, I1, h2, k⟩ := k
  refine Ev_virt (as := [.int x1]) hq_180 (show decode prog_7_method_56_code 2 = .ok (.invokevirtual 176, 3) by decide +kernel) rfl hq_148 rfl (z_le rfl) ⟨(SGn hS (by decide)), (SGk hS rfl), by decide⟩ h2 ?_
  refine Ev_if_ne (tgt := 11) hq_180 (show decode prog_7_method_56_code 5 = .ok (.ifCond .ne 6, 3) by decide +kernel) (by decide) (fun c4 => ?_) (fun c4 => ?_)
  · have k := k.1 c4
    refine Ev_iload_n hq_180 (show decode prog_7_method_56_code 11 = .ok (.iload_n 2, 1) by decide +kernel) rfl ?_
    obtain ⟨r7, I5, h6, k⟩ := k
    refine Ev_stat (as := [.int x2]) hq_180 (show decode prog_7_method_56_code 12 = .ok (.invokestatic 220, 3) by decide +kernel) rfl (Or.inl rfl) hq_168 rfl (z_le rfl) h6 ?_
    refine Ev_if_ne (tgt := 21) hq_180 (show decode prog_7_method_56_code 15 = .ok (.ifCond .ne 6, 3) by decide +kernel) (by decide) (fun c8 => ?_) (fun c8 => ?_)
    · have k := k.1 c8
      refine Ev_iconst (v := (-1)) hq_180 (show decode prog_7_method_56_code 21 = .ok (.iconst (-1), 1) by decide +kernel) (by decide) ?_
      refine Ev_istore_n (lo2 := [.ref 57, .int x1, .int x2, .int (-1), zU]) hq_180 (show decode prog_7_method_56_code 22 = .ok (.istore_n 3, 1) by decide +kernel) (z_le rfl) rfl ?_
      refine Ev_iconst (v := 0) hq_180 (show decode prog_7_method_56_code 23 = .ok (.iconst 0, 1) by decide +kernel) (by decide) ?_
      refine Ev_istore (lo2 := [.ref 57, .int x1, .int x2, .int (-1), .int 0]) hq_180 (show decode prog_7_method_56_code 24 = .ok (.istore 4, 2) by decide +kernel) (z_le rfl) rfl ?_
      exact k
    · have k := k.2 (Classical.not_not.mp c8)
      refine Ev_bipush (v := (-7)) hq_180 (show decode prog_7_method_56_code 18 = .ok (.bipush (-7), 2) by decide +kernel) (by decide) ?_
      exact Ev_iret hq_180 (show decode prog_7_method_56_code 20 = .ok (.ireturn, 1) by decide +kernel) rfl k
  · have k := k.2 (Classical.not_not.mp c4)
    refine Ev_bipush (v := (-5)) hq_180 (show decode prog_7_method_56_code 8 = .ok (.bipush (-5), 2) by decide +kernel) (by decide) ?_
    exact Ev_iret hq_180 (show decode prog_7_method_56_code 10 = .ok (.ireturn, 1) by decide +kernel) rfl k
set_option maxRecDepth 20000 in
theorem wp_Z_line_26 {X : Nat × (Nat → Int32)} {d : Nat} {G : zG} {I : zI} {res : Option Value × zG × zI} (x1 : Int32) (x2 : Int32) (x3 : Int32) (x4 : Int32) (hS : SG G) 
    (k : (16 < x4 → res = (some (.int x3), G, I)) ∧ (¬ 16 < x4 → ∃ (r4 : Int32) (I2 : zI), Cv X d 181 [.ref 57, .int x1, .int x2, .int x4] G I (some (.int r4), G, I2) ∧ ((r4 = (-1) → ∀ y6 : Int32, y6 = x4 + 1 → Ev X (d + 1) 180 26 [.ref 57, .int x1, .int x2, .int x3, .int y6] [] G I2 res) ∧ (¬ r4 = (-1) → ∀ y7 : Int32, y7 = x4 + 1 → Ev X (d + 1) 180 26 [.ref 57, .int x1, .int x2, .int x4, .int y7] [] G I2 res)))) :
    Ev X (d + 1) 180 26 [.ref 57, .int x1, .int x2, .int x3, .int x4] [] G I res := by
  refine Ev_iload hq_180 (show decode prog_7_method_56_code 26 = .ok (.iload 4, 2) by decide +kernel) rfl ?_
  refine Ev_bipush (v := 16) hq_180 (show decode prog_7_method_56_code 28 = .ok (.bipush 16, 2) by decide +kernel) (by decide) ?_
  refine Ev_icmp_gt (tgt := 58) hq_180 (show decode prog_7_method_56_code 30 = .ok (.if_icmp .gt 28, 3) by decide +kernel) (by decide) (fun c1 => ?_) (fun c1 => ?_)
  · have k := k.1 c1
    refine Ev_iload_n hq_180 (show decode prog_7_method_56_code 58 = .ok (.iload_n 3, 1) by decide +kernel) rfl ?_
    exact Ev_iret hq_180 (show decode prog_7_method_56_code 59 = .ok (.ireturn, 1) by decide +kernel) rfl k
  · have k := k.2 c1
    refine Ev_aload_n hq_180 (show decode prog_7_method_56_code 33 = .ok (.aload_n 0, 1) by decide +kernel) rfl ?_
    refine Ev_iload_n hq_180 (show decode prog_7_method_56_code 34 = .ok (.iload_n 1, 1) by decide +kernel) rfl ?_
    refine Ev_iload_n hq_180 (show decode prog_7_method_56_code 35 = .ok (.iload_n 2, 1) by decide +kernel) rfl ?_
    refine Ev_iload hq_180 (show decode prog_7_method_56_code 36 = .ok (.iload 4, 2) by decide +kernel) rfl ?_
    obtain ⟨r4, I2, h3, k⟩ := k
    refine Ev_virt (as := [.int x1, .int x2, .int x4]) hq_180 (show decode prog_7_method_56_code 38 = .ok (.invokevirtual 244, 3) by decide +kernel) rfl hq_181 rfl (z_le rfl) ⟨(SGn hS (by decide)), (SGk hS rfl), by decide⟩ h3 ?_
    refine Ev_iconst (v := (-1)) hq_180 (show decode prog_7_method_56_code 41 = .ok (.iconst (-1), 1) by decide +kernel) (by decide) ?_
    refine Ev_icmp_eq (tgt := 50) hq_180 (show decode prog_7_method_56_code 42 = .ok (.if_icmp .eq 8, 3) by decide +kernel) (by decide) (fun c5 => ?_) (fun c5 => ?_)
    · have k := k.1 c5
      refine Ev_iload_n hq_180 (show decode prog_7_method_56_code 50 = .ok (.iload_n 3, 1) by decide +kernel) rfl ?_
      refine Ev_istore_n (lo2 := [.ref 57, .int x1, .int x2, .int x3, .int x4]) hq_180 (show decode prog_7_method_56_code 51 = .ok (.istore_n 3, 1) by decide +kernel) (z_le rfl) rfl ?_
      obtain ⟨y6, ey6⟩ : ∃ y6 : Int32, y6 = x4 + 1 := ⟨_, rfl⟩
      have k := k y6 ey6
      refine Ev_iinc (v := y6) (lo2 := [.ref 57, .int x1, .int x2, .int x3, .int y6]) hq_180 (show decode prog_7_method_56_code 52 = .ok (.iinc 4 1, 3) by decide +kernel) rfl (by rw [ey6]; rfl) rfl ?_
      refine Ev_goto (tgt := 26) hq_180 (show decode prog_7_method_56_code 55 = .ok (.goto (-29), 3) by decide +kernel) (by decide) ?_
      exact k
    · have k := k.2 c5
      refine Ev_iload hq_180 (show decode prog_7_method_56_code 45 = .ok (.iload 4, 2) by decide +kernel) rfl ?_
      refine Ev_goto (tgt := 51) hq_180 (show decode prog_7_method_56_code 47 = .ok (.goto 4, 3) by decide +kernel) (by decide) ?_
      refine Ev_istore_n (lo2 := [.ref 57, .int x1, .int x2, .int x4, .int x4]) hq_180 (show decode prog_7_method_56_code 51 = .ok (.istore_n 3, 1) by decide +kernel) (z_le rfl) rfl ?_
      obtain ⟨y7, ey7⟩ : ∃ y7 : Int32, y7 = x4 + 1 := ⟨_, rfl⟩
      have k := k y7 ey7
      refine Ev_iinc (v := y7) (lo2 := [.ref 57, .int x1, .int x2, .int x4, .int y7]) hq_180 (show decode prog_7_method_56_code 52 = .ok (.iinc 4 1, 3) by decide +kernel) rfl (by rw [ey7]; rfl) rfl ?_
      refine Ev_goto (tgt := 26) hq_180 (show decode prog_7_method_56_code 55 = .ok (.goto (-29), 3) by decide +kernel) (by decide) ?_
      exact k
set_option maxRecDepth 20000 in
theorem wp_Z_restsHasty {X : Nat × (Nat → Int32)} {d : Nat} {G : zG} {I : zI} {res : Option Value × zG × zI} (x1 : Int32) (x2 : Int32) (x3 : Int32) (hS : SG G) 
    (k : z_inr ((5 * x1) + 3) 20 ∧ (∀ y2 : Int32, y2 = (I 60 ((5 * x1) + 3).toNatClampNeg) → z_inr ((5 * x1) + 3) 20 ∧ (∀ I4 : zI, I4 = z_up I 60 ((5 * x1) + 3).toNatClampNeg x3 → ∃ (r7 : Int32) (I5 : zI), Cv X d 169 [.ref 57, .int x1, .int x2] G I4 (some (.int r7), G, I5) ∧ (z_inr ((5 * x1) + 3) 20 ∧ (∀ I9 : zI, I9 = z_up I5 60 ((5 * x1) + 3).toNatClampNeg y2 → res = (some (.int r7), G, I9)))))) :
    Ev X (d + 1) 181 0 [.ref 57, .int x1, .int x2, .int x3, zU, zU] [] G I res := by
  refine Ev_aload_n hq_181 (show decode prog_7_method_55_code 0 = .ok (.aload_n 0, 1) by decide +kernel) rfl ?_
  refine Ev_getR hq_181 (show decode prog_7_method_55_code 1 = .ok (.getfield 16, 3) by decide +kernel) rfl (SGn hS (by decide)) (SGk hS rfl) (by decide) rfl (SGr hS rfl) ?_
  refine Ev_iconst (v := 5) hq_181 (show decode prog_7_method_55_code 4 = .ok (.iconst 5, 1) by decide +kernel) (by decide) ?_
  refine Ev_iload_n hq_181 (show decode prog_7_method_55_code 5 = .ok (.iload_n 1, 1) by decide +kernel) rfl ?_
  refine Ev_imul hq_181 (show decode prog_7_method_55_code 6 = .ok (.imul, 1) by decide +kernel) ?_
  refine Ev_iconst (v := 3) hq_181 (show decode prog_7_method_55_code 7 = .ok (.iconst 3, 1) by decide +kernel) (by decide) ?_
  refine Ev_iadd hq_181 (show decode prog_7_method_55_code 8 = .ok (.iadd, 1) by decide +kernel) ?_
  obtain ⟨h1, k⟩ := k
  refine Ev_iald hq_181 (show decode prog_7_method_55_code 9 = .ok (.iaload, 1) by decide +kernel) (SGn hS (by decide)) (SGk hS rfl) (SGi hS rfl h1) ?_
  obtain ⟨y2, ey2⟩ : ∃ y2 : Int32, y2 = (I 60 ((5 * x1) + 3).toNatClampNeg) := ⟨_, rfl⟩
  have k := k y2 ey2
  rw [← ey2]
  refine Ev_istore (lo2 := [.ref 57, .int x1, .int x2, .int x3, .int y2, zU]) hq_181 (show decode prog_7_method_55_code 10 = .ok (.istore 4, 2) by decide +kernel) (z_le rfl) rfl ?_
  refine Ev_aload_n hq_181 (show decode prog_7_method_55_code 12 = .ok (.aload_n 0, 1) by decide +kernel) rfl ?_
  refine Ev_getR hq_181 (show decode prog_7_method_55_code 13 = .ok (.getfield 16, 3) by decide +kernel) rfl (SGn hS (by decide)) (SGk hS rfl) (by decide) rfl (SGr hS rfl) ?_
  refine Ev_iconst (v := 5) hq_181 (show decode prog_7_method_55_code 16 = .ok (.iconst 5, 1) by decide +kernel) (by decide) ?_
  refine Ev_iload_n hq_181 (show decode prog_7_method_55_code 17 = .ok (.iload_n 1, 1) by decide +kernel) rfl ?_
  refine Ev_imul hq_181 (show decode prog_7_method_55_code 18 = .ok (.imul, 1) by decide +kernel) ?_
  refine Ev_iconst (v := 3) hq_181 (show decode prog_7_method_55_code 19 = .ok (.iconst 3, 1) by decide +kernel) (by decide) ?_
  refine Ev_iadd hq_181 (show decode prog_7_method_55_code 20 = .ok (.iadd, 1) by decide +kernel) ?_
  refine Ev_iload_n hq_181 (show decode prog_7_method_55_code 21 = .ok (.iload_n 3, 1) by decide +kernel) rfl ?_
  obtain ⟨h3, k⟩ := k
  refine Ev_iast hq_181 (show decode prog_7_method_55_code 22 = .ok (.iastore, 1) by decide +kernel) (SGn hS (by decide)) (SGk hS rfl) (SGi hS rfl h3) ?_
  obtain ⟨I4, eI4⟩ : ∃ I4 : zI, I4 = z_up I 60 ((5 * x1) + 3).toNatClampNeg x3 := ⟨_, rfl⟩
  have k := k I4 eI4
  rw [← eI4]
  refine Ev_aload_n hq_181 (show decode prog_7_method_55_code 23 = .ok (.aload_n 0, 1) by decide +kernel) rfl ?_
  refine Ev_iload_n hq_181 (show decode prog_7_method_55_code 24 = .ok (.iload_n 1, 1) by decide +kernel) rfl ?_
  refine Ev_iload_n hq_181 (show decode prog_7_method_55_code 25 = .ok (.iload_n 2, 1) by decide +kernel) rfl ?_
  obtain ⟨r7, I5, h6, k⟩ := k
  refine Ev_virt (as := [.int x1, .int x2]) hq_181 (show decode prog_7_method_55_code 26 = .ok (.invokevirtual 223, 3) by decide +kernel) rfl hq_169 rfl (z_le rfl) ⟨(SGn hS (by decide)), (SGk hS rfl), by decide⟩ h6 ?_
  refine Ev_istore (lo2 := [.ref 57, .int x1, .int x2, .int x3, .int y2, .int r7]) hq_181 (show decode prog_7_method_55_code 29 = .ok (.istore 5, 2) by decide +kernel) (z_le rfl) rfl ?_
  refine Ev_aload_n hq_181 (show decode prog_7_method_55_code 31 = .ok (.aload_n 0, 1) by decide +kernel) rfl ?_
  refine Ev_getR hq_181 (show decode prog_7_method_55_code 32 = .ok (.getfield 16, 3) by decide +kernel) rfl (SGn hS (by decide)) (SGk hS rfl) (by decide) rfl (SGr hS rfl) ?_
  refine Ev_iconst (v := 5) hq_181 (show decode prog_7_method_55_code 35 = .ok (.iconst 5, 1) by decide +kernel) (by decide) ?_
  refine Ev_iload_n hq_181 (show decode prog_7_method_55_code 36 = .ok (.iload_n 1, 1) by decide +kernel) rfl ?_
  refine Ev_imul hq_181 (show decode prog_7_method_55_code 37 = .ok (.imul, 1) by decide +kernel) ?_
  refine Ev_iconst (v := 3) hq_181 (show decode prog_7_method_55_code 38 = .ok (.iconst 3, 1) by decide +kernel) (by decide) ?_
  refine Ev_iadd hq_181 (show decode prog_7_method_55_code 39 = .ok (.iadd, 1) by decide +kernel) ?_
  refine Ev_iload hq_181 (show decode prog_7_method_55_code 40 = .ok (.iload 4, 2) by decide +kernel) rfl ?_
  obtain ⟨h8, k⟩ := k
  refine Ev_iast hq_181 (show decode prog_7_method_55_code 42 = .ok (.iastore, 1) by decide +kernel) (SGn hS (by decide)) (SGk hS rfl) (SGi hS rfl h8) ?_
  obtain ⟨I9, eI9⟩ : ∃ I9 : zI, I9 = z_up I5 60 ((5 * x1) + 3).toNatClampNeg y2 := ⟨_, rfl⟩
  have k := k I9 eI9
  rw [← eI9]
  refine Ev_iload hq_181 (show decode prog_7_method_55_code 43 = .ok (.iload 5, 2) by decide +kernel) rfl ?_
  exact Ev_iret hq_181 (show decode prog_7_method_55_code 45 = .ok (.ireturn, 1) by decide +kernel) rfl k
set_option maxRecDepth 20000 in
theorem wp_Z_soon {X : Nat × (Nat → Int32)} {d : Nat} {G : zG} {I : zI} {res : Option Value × zG × zI} (x1 : Int32) (x2 : Int32) (x3 : Int32) (hS : SG G) 
    (k : ∃ (r3 : Int32) (I1 : zI), Cv X d 148 [.ref 57, .int x1] G I (some (.int r3), G, I1) ∧ ((¬ r3 = 0 → ∃ (r7 : Int32) (I5 : zI), Cv X d 168 [.int x2] G I1 (some (.int r7), G, I5) ∧ ((r7 = 0 → res = (some (.int (-7)), G, I5)) ∧ (¬ r7 = 0 → ∃ (r11 : Int32) (I9 : zI), Cv X d 131 [.int x3, .int 0, .int 1] G I5 (some (.int r11), G, I9) ∧ ((¬ r11 = 0 → Ev X (d + 1) 182 39 [.ref 57, .int x1, .int x2, .int x3, .int (-1), .int (-1), .int 0, zU, zU] [] G I9 res) ∧ (r11 = 0 → res = (some (.int (-7)), G, I9)))))) ∧ (r3 = 0 → res = (some (.int (-5)), G, I1)))) :
    Ev X (d + 1) 182 0 [.ref 57, .int x1, .int x2, .int x3, zU, zU, zU, zU, zU] [] G I res := by
  refine Ev_aload_n hq_182 (show decode prog_7_method_57_code 0 = .ok (.aload_n 0, 1) by decide +kernel) rfl ?_
  refine Ev_iload_n hq_182 (show decode prog_7_method_57_code 1 = .ok (.iload_n 1, 1) by decide +kernel) rfl ?_
  obtain ⟨r3, I1, h2, k⟩ := k
  refine Ev_virt (as := [.int x1]) hq_182 (show decode prog_7_method_57_code 2 = .ok (.invokevirtual 176, 3) by decide +kernel) rfl hq_148 rfl (z_le rfl) ⟨(SGn hS (by decide)), (SGk hS rfl), by decide⟩ h2 ?_
  refine Ev_if_ne (tgt := 11) hq_182 (show decode prog_7_method_57_code 5 = .ok (.ifCond .ne 6, 3) by decide +kernel) (by decide) (fun c4 => ?_) (fun c4 => ?_)
  · have k := k.1 c4
    refine Ev_iload_n hq_182 (show decode prog_7_method_57_code 11 = .ok (.iload_n 2, 1) by decide +kernel) rfl ?_
    obtain ⟨r7, I5, h6, k⟩ := k
    refine Ev_stat (as := [.int x2]) hq_182 (show decode prog_7_method_57_code 12 = .ok (.invokestatic 220, 3) by decide +kernel) rfl (Or.inl rfl) hq_168 rfl (z_le rfl) h6 ?_
    refine Ev_if_eq (tgt := 27) hq_182 (show decode prog_7_method_57_code 15 = .ok (.ifCond .eq 12, 3) by decide +kernel) (by decide) (fun c8 => ?_) (fun c8 => ?_)
    · have k := k.1 c8
      refine Ev_bipush (v := (-7)) hq_182 (show decode prog_7_method_57_code 27 = .ok (.bipush (-7), 2) by decide +kernel) (by decide) ?_
      exact Ev_iret hq_182 (show decode prog_7_method_57_code 29 = .ok (.ireturn, 1) by decide +kernel) rfl k
    · have k := k.2 c8
      refine Ev_iload_n hq_182 (show decode prog_7_method_57_code 18 = .ok (.iload_n 3, 1) by decide +kernel) rfl ?_
      refine Ev_iconst (v := 0) hq_182 (show decode prog_7_method_57_code 19 = .ok (.iconst 0, 1) by decide +kernel) (by decide) ?_
      refine Ev_iconst (v := 1) hq_182 (show decode prog_7_method_57_code 20 = .ok (.iconst 1, 1) by decide +kernel) (by decide) ?_
      obtain ⟨r11, I9, h10, k⟩ := k
      refine Ev_stat (as := [.int x3, .int 0, .int 1]) hq_182 (show decode prog_7_method_57_code 21 = .ok (.invokestatic 90, 3) by decide +kernel) rfl (Or.inl rfl) hq_131 rfl (z_le rfl) h10 ?_
      refine Ev_if_ne (tgt := 30) hq_182 (show decode prog_7_method_57_code 24 = .ok (.ifCond .ne 6, 3) by decide +kernel) (by decide) (fun c12 => ?_) (fun c12 => ?_)
      · have k := k.1 c12
        refine Ev_iconst (v := (-1)) hq_182 (show decode prog_7_method_57_code 30 = .ok (.iconst (-1), 1) by decide +kernel) (by decide) ?_
        refine Ev_istore (lo2 := [.ref 57, .int x1, .int x2, .int x3, .int (-1), zU, zU, zU, zU]) hq_182 (show decode prog_7_method_57_code 31 = .ok (.istore 4, 2) by decide +kernel) (z_le rfl) rfl ?_
        refine Ev_iconst (v := (-1)) hq_182 (show decode prog_7_method_57_code 33 = .ok (.iconst (-1), 1) by decide +kernel) (by decide) ?_
        refine Ev_istore (lo2 := [.ref 57, .int x1, .int x2, .int x3, .int (-1), .int (-1), zU, zU, zU]) hq_182 (show decode prog_7_method_57_code 34 = .ok (.istore 5, 2) by decide +kernel) (z_le rfl) rfl ?_
        refine Ev_iconst (v := 0) hq_182 (show decode prog_7_method_57_code 36 = .ok (.iconst 0, 1) by decide +kernel) (by decide) ?_
        refine Ev_istore (lo2 := [.ref 57, .int x1, .int x2, .int x3, .int (-1), .int (-1), .int 0, zU, zU]) hq_182 (show decode prog_7_method_57_code 37 = .ok (.istore 6, 2) by decide +kernel) (z_le rfl) rfl ?_
        exact k
      · have k := k.2 (Classical.not_not.mp c12)
        refine Ev_bipush (v := (-7)) hq_182 (show decode prog_7_method_57_code 27 = .ok (.bipush (-7), 2) by decide +kernel) (by decide) ?_
        exact Ev_iret hq_182 (show decode prog_7_method_57_code 29 = .ok (.ireturn, 1) by decide +kernel) rfl k
  · have k := k.2 (Classical.not_not.mp c4)
    refine Ev_bipush (v := (-5)) hq_182 (show decode prog_7_method_57_code 8 = .ok (.bipush (-5), 2) by decide +kernel) (by decide) ?_
    exact Ev_iret hq_182 (show decode prog_7_method_57_code 10 = .ok (.ireturn, 1) by decide +kernel) rfl k
set_option maxRecDepth 20000 in
theorem wp_Z_soon_39 {X : Nat × (Nat → Int32)} {d : Nat} {G : zG} {I : zI} {res : Option Value × zG × zI} (x1 : Int32) (x2 : Int32) (x3 : Int32) (x4 : Int32) (x5 : Int32) (x6 : Int32) (v7 : Value) (cv7 : v7.category = 1) (v8 : Value) (cv8 : v8.category = 1) (hS : SG G) 
    (k : (16 < x6 → (¬ x3 = 0 → res = (some (.int x5), G, I)) ∧ (x3 = 0 → res = (some (.int x4), G, I))) ∧ (¬ 16 < x6 → ∃ (r5 : Int32) (I3 : zI), Cv X d 181 [.ref 57, .int x1, .int x2, .int x6] G I (some (.int r5), G, I3) ∧ ((r5 = (-1) → ∀ y7 : Int32, y7 = x6 + 1 → Ev X (d + 1) 182 39 [.ref 57, .int x1, .int x2, .int x3, .int x4, .int x5, .int y7, .int r5, .int 0] [] G I3 res) ∧ (¬ r5 = (-1) → (x4 = (-1) → ∀ y9 : Int32, y9 = x6 + 1 → Ev X (d + 1) 182 39 [.ref 57, .int x1, .int x2, .int x3, .int x6, .int r5, .int y9, .int r5, .int 1] [] G I3 res) ∧ (¬ x4 = (-1) → (x5 ≤ r5 → ∀ y11 : Int32, y11 = x6 + 1 → Ev X (d + 1) 182 39 [.ref 57, .int x1, .int x2, .int x3, .int x4, .int x5, .int y11, .int r5, .int 0] [] G I3 res) ∧ (¬ x5 ≤ r5 → ∀ y12 : Int32, y12 = x6 + 1 → Ev X (d + 1) 182 39 [.ref 57, .int x1, .int x2, .int x3, .int x6, .int r5, .int y12, .int r5, .int 1] [] G I3 res)))))) :
    Ev X (d + 1) 182 39 [.ref 57, .int x1, .int x2, .int x3, .int x4, .int x5, .int x6, v7, v8] [] G I res := by
  refine Ev_iload hq_182 (show decode prog_7_method_57_code 39 = .ok (.iload 6, 2) by decide +kernel) rfl ?_
  refine Ev_bipush (v := 16) hq_182 (show decode prog_7_method_57_code 41 = .ok (.bipush 16, 2) by decide +kernel) (by decide) ?_
  refine Ev_icmp_gt (tgt := 116) hq_182 (show decode prog_7_method_57_code 43 = .ok (.if_icmp .gt 73, 3) by decide +kernel) (by decide) (fun c1 => ?_) (fun c1 => ?_)
  · have k := k.1 c1
    refine Ev_iload_n hq_182 (show decode prog_7_method_57_code 116 = .ok (.iload_n 3, 1) by decide +kernel) rfl ?_
    refine Ev_if_ne (tgt := 125) hq_182 (show decode prog_7_method_57_code 117 = .ok (.ifCond .ne 8, 3) by decide +kernel) (by decide) (fun c2 => ?_) (fun c2 => ?_)
    · have k := k.1 c2
      refine Ev_iload hq_182 (show decode prog_7_method_57_code 125 = .ok (.iload 5, 2) by decide +kernel) rfl ?_
      exact Ev_iret hq_182 (show decode prog_7_method_57_code 127 = .ok (.ireturn, 1) by decide +kernel) rfl k
    · have k := k.2 (Classical.not_not.mp c2)
      refine Ev_iload hq_182 (show decode prog_7_method_57_code 120 = .ok (.iload 4, 2) by decide +kernel) rfl ?_
      refine Ev_goto (tgt := 127) hq_182 (show decode prog_7_method_57_code 122 = .ok (.goto 5, 3) by decide +kernel) (by decide) ?_
      exact Ev_iret hq_182 (show decode prog_7_method_57_code 127 = .ok (.ireturn, 1) by decide +kernel) rfl k
  · have k := k.2 c1
    refine Ev_aload_n hq_182 (show decode prog_7_method_57_code 46 = .ok (.aload_n 0, 1) by decide +kernel) rfl ?_
    refine Ev_iload_n hq_182 (show decode prog_7_method_57_code 47 = .ok (.iload_n 1, 1) by decide +kernel) rfl ?_
    refine Ev_iload_n hq_182 (show decode prog_7_method_57_code 48 = .ok (.iload_n 2, 1) by decide +kernel) rfl ?_
    refine Ev_iload hq_182 (show decode prog_7_method_57_code 49 = .ok (.iload 6, 2) by decide +kernel) rfl ?_
    obtain ⟨r5, I3, h4, k⟩ := k
    refine Ev_virt (as := [.int x1, .int x2, .int x6]) hq_182 (show decode prog_7_method_57_code 51 = .ok (.invokevirtual 244, 3) by decide +kernel) rfl hq_181 rfl (z_le rfl) ⟨(SGn hS (by decide)), (SGk hS rfl), by decide⟩ h4 ?_
    refine Ev_istore (lo2 := [.ref 57, .int x1, .int x2, .int x3, .int x4, .int x5, .int x6, .int r5, v8]) hq_182 (show decode prog_7_method_57_code 54 = .ok (.istore 7, 2) by decide +kernel) (z_le rfl) rfl ?_
    refine Ev_iload hq_182 (show decode prog_7_method_57_code 56 = .ok (.iload 7, 2) by decide +kernel) rfl ?_
    refine Ev_iconst (v := (-1)) hq_182 (show decode prog_7_method_57_code 58 = .ok (.iconst (-1), 1) by decide +kernel) (by decide) ?_
    refine Ev_icmp_eq (tgt := 79) hq_182 (show decode prog_7_method_57_code 59 = .ok (.if_icmp .eq 20, 3) by decide +kernel) (by decide) (fun c6 => ?_) (fun c6 => ?_)
    · have k := k.1 c6
      refine Ev_iconst (v := 0) hq_182 (show decode prog_7_method_57_code 79 = .ok (.iconst 0, 1) by decide +kernel) (by decide) ?_
      refine Ev_istore (lo2 := [.ref 57, .int x1, .int x2, .int x3, .int x4, .int x5, .int x6, .int r5, .int 0]) hq_182 (show decode prog_7_method_57_code 80 = .ok (.istore 8, 2) by decide +kernel) (z_le rfl) rfl ?_
      refine Ev_iload hq_182 (show decode prog_7_method_57_code 82 = .ok (.iload 8, 2) by decide +kernel) rfl ?_
      refine Ev_if_eq (tgt := 92) hq_182 (show decode prog_7_method_57_code 84 = .ok (.ifCond .eq 8, 3) by decide +kernel) (by decide) (fun _ => ?_) (fun hz => absurd (by decide) hz)
      refine Ev_iload hq_182 (show decode prog_7_method_57_code 92 = .ok (.iload 4, 2) by decide +kernel) rfl ?_
      refine Ev_istore (lo2 := [.ref 57, .int x1, .int x2, .int x3, .int x4, .int x5, .int x6, .int r5, .int 0]) hq_182 (show decode prog_7_method_57_code 94 = .ok (.istore 4, 2) by decide +kernel) (z_le rfl) rfl ?_
      refine Ev_iload hq_182 (show decode prog_7_method_57_code 96 = .ok (.iload 8, 2) by decide +kernel) rfl ?_
      refine Ev_if_eq (tgt := 106) hq_182 (show decode prog_7_method_57_code 98 = .ok (.ifCond .eq 8, 3) by decide +kernel) (by decide) (fun _ => ?_) (fun hz => absurd (by decide) hz)
      refine Ev_iload hq_182 (show decode prog_7_method_57_code 106 = .ok (.iload 5, 2) by decide +kernel) rfl ?_
      refine Ev_istore (lo2 := [.ref 57, .int x1, .int x2, .int x3, .int x4, .int x5, .int x6, .int r5, .int 0]) hq_182 (show decode prog_7_method_57_code 108 = .ok (.istore 5, 2) by decide +kernel) (z_le rfl) rfl ?_
      obtain ⟨y7, ey7⟩ : ∃ y7 : Int32, y7 = x6 + 1 := ⟨_, rfl⟩
      have k := k y7 ey7
      refine Ev_iinc (v := y7) (lo2 := [.ref 57, .int x1, .int x2, .int x3, .int x4, .int x5, .int y7, .int r5, .int 0]) hq_182 (show decode prog_7_method_57_code 110 = .ok (.iinc 6 1, 3) by decide +kernel) rfl (by rw [ey7]; rfl) rfl ?_
      refine Ev_goto (tgt := 39) hq_182 (show decode prog_7_method_57_code 113 = .ok (.goto (-74), 3) by decide +kernel) (by decide) ?_
      exact k
    · have k := k.2 c6
      refine Ev_iload hq_182 (show decode prog_7_method_57_code 62 = .ok (.iload 4, 2) by decide +kernel) rfl ?_
      refine Ev_iconst (v := (-1)) hq_182 (show decode prog_7_method_57_code 64 = .ok (.iconst (-1), 1) by decide +kernel) (by decide) ?_
      refine Ev_icmp_eq (tgt := 75) hq_182 (show decode prog_7_method_57_code 65 = .ok (.if_icmp .eq 10, 3) by decide +kernel) (by decide) (fun c8 => ?_) (fun c8 => ?_)
      · have k := k.1 c8
        refine Ev_iconst (v := 1) hq_182 (show decode prog_7_method_57_code 75 = .ok (.iconst 1, 1) by decide +kernel) (by decide) ?_
        refine Ev_goto (tgt := 80) hq_182 (show decode prog_7_method_57_code 76 = .ok (.goto 4, 3) by decide +kernel) (by decide) ?_
        refine Ev_istore (lo2 := [.ref 57, .int x1, .int x2, .int x3, .int x4, .int x5, .int x6, .int r5, .int 1]) hq_182 (show decode prog_7_method_57_code 80 = .ok (.istore 8, 2) by decide +kernel) (z_le rfl) rfl ?_
        refine Ev_iload hq_182 (show decode prog_7_method_57_code 82 = .ok (.iload 8, 2) by decide +kernel) rfl ?_
        refine Ev_if_eq (tgt := 92) hq_182 (show decode prog_7_method_57_code 84 = .ok (.ifCond .eq 8, 3) by decide +kernel) (by decide) (fun hz => absurd hz (by decide)) (fun _ => ?_)
        refine Ev_iload hq_182 (show decode prog_7_method_57_code 87 = .ok (.iload 6, 2) by decide +kernel) rfl ?_
        refine Ev_goto (tgt := 94) hq_182 (show decode prog_7_method_57_code 89 = .ok (.goto 5, 3) by decide +kernel) (by decide) ?_
        refine Ev_istore (lo2 := [.ref 57, .int x1, .int x2, .int x3, .int x6, .int x5, .int x6, .int r5, .int 1]) hq_182 (show decode prog_7_method_57_code 94 = .ok (.istore 4, 2) by decide +kernel) (z_le rfl) rfl ?_
        refine Ev_iload hq_182 (show decode prog_7_method_57_code 96 = .ok (.iload 8, 2) by decide +kernel) rfl ?_
        refine Ev_if_eq (tgt := 106) hq_182 (show decode prog_7_method_57_code 98 = .ok (.ifCond .eq 8, 3) by decide +kernel) (by decide) (fun hz => absurd hz (by decide)) (fun _ => ?_)
        refine Ev_iload hq_182 (show decode prog_7_method_57_code 101 = .ok (.iload 7, 2) by decide +kernel) rfl ?_
        refine Ev_goto (tgt := 108) hq_182 (show decode prog_7_method_57_code 103 = .ok (.goto 5, 3) by decide +kernel) (by decide) ?_
        refine Ev_istore (lo2 := [.ref 57, .int x1, .int x2, .int x3, .int x6, .int r5, .int x6, .int r5, .int 1]) hq_182 (show decode prog_7_method_57_code 108 = .ok (.istore 5, 2) by decide +kernel) (z_le rfl) rfl ?_
        obtain ⟨y9, ey9⟩ : ∃ y9 : Int32, y9 = x6 + 1 := ⟨_, rfl⟩
        have k := k y9 ey9
        refine Ev_iinc (v := y9) (lo2 := [.ref 57, .int x1, .int x2, .int x3, .int x6, .int r5, .int y9, .int r5, .int 1]) hq_182 (show decode prog_7_method_57_code 110 = .ok (.iinc 6 1, 3) by decide +kernel) rfl (by rw [ey9]; rfl) rfl ?_
        refine Ev_goto (tgt := 39) hq_182 (show decode prog_7_method_57_code 113 = .ok (.goto (-74), 3) by decide +kernel) (by decide) ?_
        exact k
      · have k := k.2 c8
        refine Ev_iload hq_182 (show decode prog_7_method_57_code 68 = .ok (.iload 7, 2) by decide +kernel) rfl ?_
        refine Ev_iload hq_182 (show decode prog_7_method_57_code 70 = .ok (.iload 5, 2) by decide +kernel) rfl ?_
        refine Ev_icmp_ge (tgt := 79) hq_182 (show decode prog_7_method_57_code 72 = .ok (.if_icmp .ge 7, 3) by decide +kernel) (by decide) (fun c10 => ?_) (fun c10 => ?_)
        · have k := k.1 c10
          refine Ev_iconst (v := 0) hq_182 (show decode prog_7_method_57_code 79 = .ok (.iconst 0, 1) by decide +kernel) (by decide) ?_
          refine Ev_istore (lo2 := [.ref 57, .int x1, .int x2, .int x3, .int x4, .int x5, .int x6, .int r5, .int 0]) hq_182 (show decode prog_7_method_57_code 80 = .ok (.istore 8, 2) by decide +kernel) (z_le rfl) rfl ?_
          refine Ev_iload hq_182 (show decode prog_7_method_57_code 82 = .ok (.iload 8, 2) by decide +kernel) rfl ?_
          refine Ev_if_eq (tgt := 92) hq_182 (show decode prog_7_method_57_code 84 = .ok (.ifCond .eq 8, 3) by decide +kernel) (by decide) (fun _ => ?_) (fun hz => absurd (by decide) hz)
          refine Ev_iload hq_182 (show decode prog_7_method_57_code 92 = .ok (.iload 4, 2) by decide +kernel) rfl ?_
          refine Ev_istore (lo2 := [.ref 57, .int x1, .int x2, .int x3, .int x4, .int x5, .int x6, .int r5, .int 0]) hq_182 (show decode prog_7_method_57_code 94 = .ok (.istore 4, 2) by decide +kernel) (z_le rfl) rfl ?_
          refine Ev_iload hq_182 (show decode prog_7_method_57_code 96 = .ok (.iload 8, 2) by decide +kernel) rfl ?_
          refine Ev_if_eq (tgt := 106) hq_182 (show decode prog_7_method_57_code 98 = .ok (.ifCond .eq 8, 3) by decide +kernel) (by decide) (fun _ => ?_) (fun hz => absurd (by decide) hz)
          refine Ev_iload hq_182 (show decode prog_7_method_57_code 106 = .ok (.iload 5, 2) by decide +kernel) rfl ?_
          refine Ev_istore (lo2 := [.ref 57, .int x1, .int x2, .int x3, .int x4, .int x5, .int x6, .int r5, .int 0]) hq_182 (show decode prog_7_method_57_code 108 = .ok (.istore 5, 2) by decide +kernel) (z_le rfl) rfl ?_
          obtain ⟨y11, ey11⟩ : ∃ y11 : Int32, y11 = x6 + 1 := ⟨_, rfl⟩
          have k := k y11 ey11
          refine Ev_iinc (v := y11) (lo2 := [.ref 57, .int x1, .int x2, .int x3, .int x4, .int x5, .int y11, .int r5, .int 0]) hq_182 (show decode prog_7_method_57_code 110 = .ok (.iinc 6 1, 3) by decide +kernel) rfl (by rw [ey11]; rfl) rfl ?_
          refine Ev_goto (tgt := 39) hq_182 (show decode prog_7_method_57_code 113 = .ok (.goto (-74), 3) by decide +kernel) (by decide) ?_
          exact k
        · have k := k.2 c10
          refine Ev_iconst (v := 1) hq_182 (show decode prog_7_method_57_code 75 = .ok (.iconst 1, 1) by decide +kernel) (by decide) ?_
          refine Ev_goto (tgt := 80) hq_182 (show decode prog_7_method_57_code 76 = .ok (.goto 4, 3) by decide +kernel) (by decide) ?_
          refine Ev_istore (lo2 := [.ref 57, .int x1, .int x2, .int x3, .int x4, .int x5, .int x6, .int r5, .int 1]) hq_182 (show decode prog_7_method_57_code 80 = .ok (.istore 8, 2) by decide +kernel) (z_le rfl) rfl ?_
          refine Ev_iload hq_182 (show decode prog_7_method_57_code 82 = .ok (.iload 8, 2) by decide +kernel) rfl ?_
          refine Ev_if_eq (tgt := 92) hq_182 (show decode prog_7_method_57_code 84 = .ok (.ifCond .eq 8, 3) by decide +kernel) (by decide) (fun hz => absurd hz (by decide)) (fun _ => ?_)
          refine Ev_iload hq_182 (show decode prog_7_method_57_code 87 = .ok (.iload 6, 2) by decide +kernel) rfl ?_
          refine Ev_goto (tgt := 94) hq_182 (show decode prog_7_method_57_code 89 = .ok (.goto 5, 3) by decide +kernel) (by decide) ?_
          refine Ev_istore (lo2 := [.ref 57, .int x1, .int x2, .int x3, .int x6, .int x5, .int x6, .int r5, .int 1]) hq_182 (show decode prog_7_method_57_code 94 = .ok (.istore 4, 2) by decide +kernel) (z_le rfl) rfl ?_
          refine Ev_iload hq_182 (show decode prog_7_method_57_code 96 = .ok (.iload 8, 2) by decide +kernel) rfl ?_
          refine Ev_if_eq (tgt := 106) hq_182 (show decode prog_7_method_57_code 98 = .ok (.ifCond .eq 8, 3) by decide +kernel) (by decide) (fun hz => absurd hz (by decide)) (fun _ => ?_)
          refine Ev_iload hq_182 (show decode prog_7_method_57_code 101 = .ok (.iload 7, 2) by decide +kernel) rfl ?_
          refine Ev_goto (tgt := 108) hq_182 (show decode prog_7_method_57_code 103 = .ok (.goto 5, 3) by decide +kernel) (by decide) ?_
          refine Ev_istore (lo2 := [.ref 57, .int x1, .int x2, .int x3, .int x6, .int r5, .int x6, .int r5, .int 1]) hq_182 (show decode prog_7_method_57_code 108 = .ok (.istore 5, 2) by decide +kernel) (z_le rfl) rfl ?_
          obtain ⟨y12, ey12⟩ : ∃ y12 : Int32, y12 = x6 + 1 := ⟨_, rfl⟩
          have k := k y12 ey12
          refine Ev_iinc (v := y12) (lo2 := [.ref 57, .int x1, .int x2, .int x3, .int x6, .int r5, .int y12, .int r5, .int 1]) hq_182 (show decode prog_7_method_57_code 110 = .ok (.iinc 6 1, 3) by decide +kernel) rfl (by rw [ey12]; rfl) rfl ?_
          refine Ev_goto (tgt := 39) hq_182 (show decode prog_7_method_57_code 113 = .ok (.goto (-74), 3) by decide +kernel) (by decide) ?_
          exact k
set_option maxRecDepth 20000 in
theorem wp_Z_card {X : Nat × (Nat → Int32)} {d : Nat} {G : zG} {I : zI} {res : Option Value × zG × zI} (x1 : Int32) 
    (k : ∃ (r3 : Int32) (I1 : zI), Cv X d 131 [.int x1, .int 0, .int 1] G I (some (.int r3), G, I1) ∧ ((¬ r3 = 0 → Ev X (d + 1) 183 14 [.ref 57, .int x1, .int 0, zU, zU, zU, zU] [] G I1 res) ∧ (r3 = 0 → res = (some (.int (-2)), G, I1)))) :
    Ev X (d + 1) 183 0 [.ref 57, .int x1, zU, zU, zU, zU, zU] [] G I res := by
  refine Ev_iload_n hq_183 (show decode prog_7_method_58_code 0 = .ok (.iload_n 1, 1) by decide +kernel) rfl ?_
  refine Ev_iconst (v := 0) hq_183 (show decode prog_7_method_58_code 1 = .ok (.iconst 0, 1) by decide +kernel) (by decide) ?_
  refine Ev_iconst (v := 1) hq_183 (show decode prog_7_method_58_code 2 = .ok (.iconst 1, 1) by decide +kernel) (by decide) ?_
  obtain ⟨r3, I1, h2, k⟩ := k
  refine Ev_stat (as := [.int x1, .int 0, .int 1]) hq_183 (show decode prog_7_method_58_code 3 = .ok (.invokestatic 90, 3) by decide +kernel) rfl (Or.inl rfl) hq_131 rfl (z_le rfl) h2 ?_
  refine Ev_if_ne (tgt := 12) hq_183 (show decode prog_7_method_58_code 6 = .ok (.ifCond .ne 6, 3) by decide +kernel) (by decide) (fun c4 => ?_) (fun c4 => ?_)
  · have k := k.1 c4
    refine Ev_iconst (v := 0) hq_183 (show decode prog_7_method_58_code 12 = .ok (.iconst 0, 1) by decide +kernel) (by decide) ?_
    refine Ev_istore_n (lo2 := [.ref 57, .int x1, .int 0, zU, zU, zU, zU]) hq_183 (show decode prog_7_method_58_code 13 = .ok (.istore_n 2, 1) by decide +kernel) (z_le rfl) rfl ?_
    exact k
  · have k := k.2 (Classical.not_not.mp c4)
    refine Ev_bipush (v := (-2)) hq_183 (show decode prog_7_method_58_code 9 = .ok (.bipush (-2), 2) by decide +kernel) (by decide) ?_
    exact Ev_iret hq_183 (show decode prog_7_method_58_code 11 = .ok (.ireturn, 1) by decide +kernel) rfl k
set_option maxRecDepth 20000 in
theorem wp_Z_card_14 {X : Nat × (Nat → Int32)} {d : Nat} {G : zG} {I : zI} {res : Option Value × zG × zI} (x1 : Int32) (x2 : Int32) (hS : SG G) 
    (k : ((I 57 0) ≤ x2 → Ev X d 183 51 [.ref 57, .int x1, .int (-1), .int 0, .int 0, zU, zU] [] G I res) ∧ (¬ (I 57 0) ≤ x2 → z_inr ((5 * x2) + 3) 20 ∧ (z_inr x2 4 ∧ (∀ I4 : zI, I4 = z_up I 78 x2.toNatClampNeg (I 60 ((5 * x2) + 3).toNatClampNeg) → ∀ y5 : Int32, y5 = x2 + 1 → Ev X d 183 14 [.ref 57, .int x1, .int y5, zU, zU, zU, zU] [] G I4 res)))) :
    Ev X d 183 14 [.ref 57, .int x1, .int x2, zU, zU, zU, zU] [] G I res := by
  refine Ev_iload_n hq_183 (show decode prog_7_method_58_code 14 = .ok (.iload_n 2, 1) by decide +kernel) rfl ?_
  refine Ev_aload_n hq_183 (show decode prog_7_method_58_code 15 = .ok (.aload_n 0, 1) by decide +kernel) rfl ?_
  refine Ev_getI hq_183 (show decode prog_7_method_58_code 16 = .ok (.getfield 87, 3) by decide +kernel) rfl (SGn hS (by decide)) (SGk hS rfl) (by decide) rfl ?_
  refine Ev_icmp_ge (tgt := 44) hq_183 (show decode prog_7_method_58_code 19 = .ok (.if_icmp .ge 25, 3) by decide +kernel) (by decide) (fun c1 => ?_) (fun c1 => ?_)
  · have k := k.1 c1
    refine Ev_iconst (v := (-1)) hq_183 (show decode prog_7_method_58_code 44 = .ok (.iconst (-1), 1) by decide +kernel) (by decide) ?_
    refine Ev_istore_n (lo2 := [.ref 57, .int x1, .int (-1), zU, zU, zU, zU]) hq_183 (show decode prog_7_method_58_code 45 = .ok (.istore_n 2, 1) by decide +kernel) (z_le rfl) rfl ?_
    refine Ev_iconst (v := 0) hq_183 (show decode prog_7_method_58_code 46 = .ok (.iconst 0, 1) by decide +kernel) (by decide) ?_
    refine Ev_istore_n (lo2 := [.ref 57, .int x1, .int (-1), .int 0, zU, zU, zU]) hq_183 (show decode prog_7_method_58_code 47 = .ok (.istore_n 3, 1) by decide +kernel) (z_le rfl) rfl ?_
    refine Ev_iconst (v := 0) hq_183 (show decode prog_7_method_58_code 48 = .ok (.iconst 0, 1) by decide +kernel) (by decide) ?_
    refine Ev_istore (lo2 := [.ref 57, .int x1, .int (-1), .int 0, .int 0, zU, zU]) hq_183 (show decode prog_7_method_58_code 49 = .ok (.istore 4, 2) by decide +kernel) (z_le rfl) rfl ?_
    exact k
  · have k := k.2 c1
    refine Ev_aload_n hq_183 (show decode prog_7_method_58_code 22 = .ok (.aload_n 0, 1) by decide +kernel) rfl ?_
    refine Ev_getR hq_183 (show decode prog_7_method_58_code 23 = .ok (.getfield 74, 3) by decide +kernel) rfl (SGn hS (by decide)) (SGk hS rfl) (by decide) rfl (SGr hS rfl) ?_
    refine Ev_iload_n hq_183 (show decode prog_7_method_58_code 26 = .ok (.iload_n 2, 1) by decide +kernel) rfl ?_
    refine Ev_aload_n hq_183 (show decode prog_7_method_58_code 27 = .ok (.aload_n 0, 1) by decide +kernel) rfl ?_
    refine Ev_getR hq_183 (show decode prog_7_method_58_code 28 = .ok (.getfield 16, 3) by decide +kernel) rfl (SGn hS (by decide)) (SGk hS rfl) (by decide) rfl (SGr hS rfl) ?_
    refine Ev_iconst (v := 5) hq_183 (show decode prog_7_method_58_code 31 = .ok (.iconst 5, 1) by decide +kernel) (by decide) ?_
    refine Ev_iload_n hq_183 (show decode prog_7_method_58_code 32 = .ok (.iload_n 2, 1) by decide +kernel) rfl ?_
    refine Ev_imul hq_183 (show decode prog_7_method_58_code 33 = .ok (.imul, 1) by decide +kernel) ?_
    refine Ev_iconst (v := 3) hq_183 (show decode prog_7_method_58_code 34 = .ok (.iconst 3, 1) by decide +kernel) (by decide) ?_
    refine Ev_iadd hq_183 (show decode prog_7_method_58_code 35 = .ok (.iadd, 1) by decide +kernel) ?_
    obtain ⟨h2, k⟩ := k
    refine Ev_iald hq_183 (show decode prog_7_method_58_code 36 = .ok (.iaload, 1) by decide +kernel) (SGn hS (by decide)) (SGk hS rfl) (SGi hS rfl h2) ?_
    obtain ⟨h3, k⟩ := k
    refine Ev_iast hq_183 (show decode prog_7_method_58_code 37 = .ok (.iastore, 1) by decide +kernel) (SGn hS (by decide)) (SGk hS rfl) (SGi hS rfl h3) ?_
    obtain ⟨I4, eI4⟩ : ∃ I4 : zI, I4 = z_up I 78 x2.toNatClampNeg (I 60 ((5 * x2) + 3).toNatClampNeg) := ⟨_, rfl⟩
    have k := k I4 eI4
    rw [← eI4]
    obtain ⟨y5, ey5⟩ : ∃ y5 : Int32, y5 = x2 + 1 := ⟨_, rfl⟩
    have k := k y5 ey5
    refine Ev_iinc (v := y5) (lo2 := [.ref 57, .int x1, .int y5, zU, zU, zU, zU]) hq_183 (show decode prog_7_method_58_code 38 = .ok (.iinc 2 1, 3) by decide +kernel) rfl (by rw [ey5]; rfl) rfl ?_
    refine Ev_goto (tgt := 14) hq_183 (show decode prog_7_method_58_code 41 = .ok (.goto (-27), 3) by decide +kernel) (by decide) ?_
    exact k
set_option maxRecDepth 20000 in
theorem wp_Z_card_51 {X : Nat × (Nat → Int32)} {d : Nat} {G : zG} {I : zI} {res : Option Value × zG × zI} (x1 : Int32) (x2 : Int32) (x3 : Int32) (x4 : Int32) (v5 : Value) (cv5 : v5.category = 1) (v6 : Value) (cv6 : v6.category = 1) 
    (k : (16 < x4 → Ev X d 183 146 [.ref 57, .int x1, .int x2, .int x3, .int 0, v5, v6] [] G I res) ∧ (¬ 16 < x4 → Ev X d 183 61 [.ref 57, .int x1, .int x2, .int x3, .int x4, .int 0, v6] [] G I res)) :
    Ev X d 183 51 [.ref 57, .int x1, .int x2, .int x3, .int x4, v5, v6] [] G I res := by
  refine Ev_iload hq_183 (show decode prog_7_method_58_code 51 = .ok (.iload 4, 2) by decide +kernel) rfl ?_
  refine Ev_bipush (v := 16) hq_183 (show decode prog_7_method_58_code 53 = .ok (.bipush 16, 2) by decide +kernel) (by decide) ?_
  refine Ev_icmp_gt (tgt := 143) hq_183 (show decode prog_7_method_58_code 55 = .ok (.if_icmp .gt 88, 3) by decide +kernel) (by decide) (fun c1 => ?_) (fun c1 => ?_)
  · have k := k.1 c1
    refine Ev_iconst (v := 0) hq_183 (show decode prog_7_method_58_code 143 = .ok (.iconst 0, 1) by decide +kernel) (by decide) ?_
    refine Ev_istore (lo2 := [.ref 57, .int x1, .int x2, .int x3, .int 0, v5, v6]) hq_183 (show decode prog_7_method_58_code 144 = .ok (.istore 4, 2) by decide +kernel) (z_le rfl) rfl ?_
    exact k
  · have k := k.2 c1
    refine Ev_iconst (v := 0) hq_183 (show decode prog_7_method_58_code 58 = .ok (.iconst 0, 1) by decide +kernel) (by decide) ?_
    refine Ev_istore (lo2 := [.ref 57, .int x1, .int x2, .int x3, .int x4, .int 0, v6]) hq_183 (show decode prog_7_method_58_code 59 = .ok (.istore 5, 2) by decide +kernel) (z_le rfl) rfl ?_
    exact k
set_option maxRecDepth 20000 in
theorem wp_Z_card_61 {X : Nat × (Nat → Int32)} {d : Nat} {G : zG} {I : zI} {res : Option Value × zG × zI} (x1 : Int32) (x2 : Int32) (x3 : Int32) (x4 : Int32) (x5 : Int32) (v6 : Value) (cv6 : v6.category = 1) (hS : SG G) 
    (k : ((I 57 0) ≤ x5 → ∃ (r4 : Int32) (I2 : zI), Cv X d 184 [.ref 57] G I (some (.int r4), G, I2) ∧ ((x2 = (-1) → ∀ y6 : Int32, y6 = x4 + 1 → Ev X (d + 1) 183 51 [.ref 57, .int x1, .int x4, .int r4, .int y6, .int r4, .int 1] [] G I2 res) ∧ (¬ x2 = (-1) → (x3 ≤ r4 → ∀ y8 : Int32, y8 = x4 + 1 → Ev X (d + 1) 183 51 [.ref 57, .int x1, .int x2, .int x3, .int y8, .int r4, .int 0] [] G I2 res) ∧ (¬ x3 ≤ r4 → ∀ y9 : Int32, y9 = x4 + 1 → Ev X (d + 1) 183 51 [.ref 57, .int x1, .int x4, .int r4, .int y9, .int r4, .int 1] [] G I2 res)))) ∧ (¬ (I 57 0) ≤ x5 → z_inr ((5 * x5) + 3) 20 ∧ (∀ I11 : zI, I11 = z_up I 60 ((5 * x5) + 3).toNatClampNeg x4 → ∀ y12 : Int32, y12 = x5 + 1 → Ev X (d + 1) 183 61 [.ref 57, .int x1, .int x2, .int x3, .int x4, .int y12, v6] [] G I11 res))) :
    Ev X (d + 1) 183 61 [.ref 57, .int x1, .int x2, .int x3, .int x4, .int x5, v6] [] G I res := by
  refine Ev_iload hq_183 (show decode prog_7_method_58_code 61 = .ok (.iload 5, 2) by decide +kernel) rfl ?_
  refine Ev_aload_n hq_183 (show decode prog_7_method_58_code 63 = .ok (.aload_n 0, 1) by decide +kernel) rfl ?_
  refine Ev_getI hq_183 (show decode prog_7_method_58_code 64 = .ok (.getfield 87, 3) by decide +kernel) rfl (SGn hS (by decide)) (SGk hS rfl) (by decide) rfl ?_
  refine Ev_icmp_ge (tgt := 89) hq_183 (show decode prog_7_method_58_code 67 = .ok (.if_icmp .ge 22, 3) by decide +kernel) (by decide) (fun c1 => ?_) (fun c1 => ?_)
  · have k := k.1 c1
    refine Ev_aload_n hq_183 (show decode prog_7_method_58_code 89 = .ok (.aload_n 0, 1) by decide +kernel) rfl ?_
    obtain ⟨r4, I2, h3, k⟩ := k
    refine Ev_virt (as := []) hq_183 (show decode prog_7_method_58_code 90 = .ok (.invokevirtual 247, 3) by decide +kernel) rfl hq_184 rfl (z_le rfl) ⟨(SGn hS (by decide)), (SGk hS rfl), by decide⟩ h3 ?_
    refine Ev_istore (lo2 := [.ref 57, .int x1, .int x2, .int x3, .int x4, .int r4, v6]) hq_183 (show decode prog_7_method_58_code 93 = .ok (.istore 5, 2) by decide +kernel) (z_le rfl) rfl ?_
    refine Ev_iload_n hq_183 (show decode prog_7_method_58_code 95 = .ok (.iload_n 2, 1) by decide +kernel) rfl ?_
    refine Ev_iconst (v := (-1)) hq_183 (show decode prog_7_method_58_code 96 = .ok (.iconst (-1), 1) by decide +kernel) (by decide) ?_
    refine Ev_icmp_eq (tgt := 106) hq_183 (show decode prog_7_method_58_code 97 = .ok (.if_icmp .eq 9, 3) by decide +kernel) (by decide) (fun c5 => ?_) (fun c5 => ?_)
    · have k := k.1 c5
      refine Ev_iconst (v := 1) hq_183 (show decode prog_7_method_58_code 106 = .ok (.iconst 1, 1) by decide +kernel) (by decide) ?_
      refine Ev_goto (tgt := 111) hq_183 (show decode prog_7_method_58_code 107 = .ok (.goto 4, 3) by decide +kernel) (by decide) ?_
      refine Ev_istore (lo2 := [.ref 57, .int x1, .int x2, .int x3, .int x4, .int r4, .int 1]) hq_183 (show decode prog_7_method_58_code 111 = .ok (.istore 6, 2) by decide +kernel) (z_le rfl) rfl ?_
      refine Ev_iload hq_183 (show decode prog_7_method_58_code 113 = .ok (.iload 6, 2) by decide +kernel) rfl ?_
      refine Ev_if_eq (tgt := 123) hq_183 (show decode prog_7_method_58_code 115 = .ok (.ifCond .eq 8, 3) by decide +kernel) (by decide) (fun hz => absurd hz (by decide)) (fun _ => ?_)
      refine Ev_iload hq_183 (show decode prog_7_method_58_code 118 = .ok (.iload 4, 2) by decide +kernel) rfl ?_
      refine Ev_goto (tgt := 124) hq_183 (show decode prog_7_method_58_code 120 = .ok (.goto 4, 3) by decide +kernel) (by decide) ?_
      refine Ev_istore_n (lo2 := [.ref 57, .int x1, .int x4, .int x3, .int x4, .int r4, .int 1]) hq_183 (show decode prog_7_method_58_code 124 = .ok (.istore_n 2, 1) by decide +kernel) (z_le rfl) rfl ?_
      refine Ev_iload hq_183 (show decode prog_7_method_58_code 125 = .ok (.iload 6, 2) by decide +kernel) rfl ?_
      refine Ev_if_eq (tgt := 135) hq_183 (show decode prog_7_method_58_code 127 = .ok (.ifCond .eq 8, 3) by decide +kernel) (by decide) (fun hz => absurd hz (by decide)) (fun _ => ?_)
      refine Ev_iload hq_183 (show decode prog_7_method_58_code 130 = .ok (.iload 5, 2) by decide +kernel) rfl ?_
      refine Ev_goto (tgt := 136) hq_183 (show decode prog_7_method_58_code 132 = .ok (.goto 4, 3) by decide +kernel) (by decide) ?_
      refine Ev_istore_n (lo2 := [.ref 57, .int x1, .int x4, .int r4, .int x4, .int r4, .int 1]) hq_183 (show decode prog_7_method_58_code 136 = .ok (.istore_n 3, 1) by decide +kernel) (z_le rfl) rfl ?_
      obtain ⟨y6, ey6⟩ : ∃ y6 : Int32, y6 = x4 + 1 := ⟨_, rfl⟩
      have k := k y6 ey6
      refine Ev_iinc (v := y6) (lo2 := [.ref 57, .int x1, .int x4, .int r4, .int y6, .int r4, .int 1]) hq_183 (show decode prog_7_method_58_code 137 = .ok (.iinc 4 1, 3) by decide +kernel) rfl (by rw [ey6]; rfl) rfl ?_
      refine Ev_goto (tgt := 51) hq_183 (show decode prog_7_method_58_code 140 = .ok (.goto (-89), 3) by decide +kernel) (by decide) ?_
      exact k
    · have k := k.2 c5
      refine Ev_iload hq_183 (show decode prog_7_method_58_code 100 = .ok (.iload 5, 2) by decide +kernel) rfl ?_
      refine Ev_iload_n hq_183 (show decode prog_7_method_58_code 102 = .ok (.iload_n 3, 1) by decide +kernel) rfl ?_
      refine Ev_icmp_ge (tgt := 110) hq_183 (show decode prog_7_method_58_code 103 = .ok (.if_icmp .ge 7, 3) by decide +kernel) (by decide) (fun c7 => ?_) (fun c7 => ?_)
      · have k := k.1 c7
        refine Ev_iconst (v := 0) hq_183 (show decode prog_7_method_58_code 110 = .ok (.iconst 0, 1) by decide +kernel) (by decide) ?_
        refine Ev_istore (lo2 := [.ref 57, .int x1, .int x2, .int x3, .int x4, .int r4, .int 0]) hq_183 (show decode prog_7_method_58_code 111 = .ok (.istore 6, 2) by decide +kernel) (z_le rfl) rfl ?_
        refine Ev_iload hq_183 (show decode prog_7_method_58_code 113 = .ok (.iload 6, 2) by decide +kernel) rfl ?_
        refine Ev_if_eq (tgt := 123) hq_183 (show decode prog_7_method_58_code 115 = .ok (.ifCond .eq 8, 3) by decide +kernel) (by decide) (fun _ => ?_) (fun hz => absurd (by decide) hz)
        refine Ev_iload_n hq_183 (show decode prog_7_method_58_code 123 = .ok (.iload_n 2, 1) by decide +kernel) rfl ?_
        refine Ev_istore_n (lo2 := [.ref 57, .int x1, .int x2, .int x3, .int x4, .int r4, .int 0]) hq_183 (show decode prog_7_method_58_code 124 = .ok (.istore_n 2, 1) by decide +kernel) (z_le rfl) rfl ?_
        refine Ev_iload hq_183 (show decode prog_7_method_58_code 125 = .ok (.iload 6, 2) by decide +kernel) rfl ?_
        refine Ev_if_eq (tgt := 135) hq_183 (show decode prog_7_method_58_code 127 = .ok (.ifCond .eq 8, 3) by decide +kernel) (by decide) (fun _ => ?_) (fun hz => absurd (by decide) hz)
        refine Ev_iload_n hq_183 (show decode prog_7_method_58_code 135 = .ok (.iload_n 3, 1) by decide +kernel) rfl ?_
        refine Ev_istore_n (lo2 := [.ref 57, .int x1, .int x2, .int x3, .int x4, .int r4, .int 0]) hq_183 (show decode prog_7_method_58_code 136 = .ok (.istore_n 3, 1) by decide +kernel) (z_le rfl) rfl ?_
        obtain ⟨y8, ey8⟩ : ∃ y8 : Int32, y8 = x4 + 1 := ⟨_, rfl⟩
        have k := k y8 ey8
        refine Ev_iinc (v := y8) (lo2 := [.ref 57, .int x1, .int x2, .int x3, .int y8, .int r4, .int 0]) hq_183 (show decode prog_7_method_58_code 137 = .ok (.iinc 4 1, 3) by decide +kernel) rfl (by rw [ey8]; rfl) rfl ?_
        refine Ev_goto (tgt := 51) hq_183 (show decode prog_7_method_58_code 140 = .ok (.goto (-89), 3) by decide +kernel) (by decide) ?_
        exact k
      · have k := k.2 c7
        refine Ev_iconst (v := 1) hq_183 (show decode prog_7_method_58_code 106 = .ok (.iconst 1, 1) by decide +kernel) (by decide) ?_
        refine Ev_goto (tgt := 111) hq_183 (show decode prog_7_method_58_code 107 = .ok (.goto 4, 3) by decide +kernel) (by decide) ?_
        refine Ev_istore (lo2 := [.ref 57, .int x1, .int x2, .int x3, .int x4, .int r4, .int 1]) hq_183 (show decode prog_7_method_58_code 111 = .ok (.istore 6, 2) by decide +kernel) (z_le rfl) rfl ?_
        refine Ev_iload hq_183 (show decode prog_7_method_58_code 113 = .ok (.iload 6, 2) by decide +kernel) rfl ?_
        refine Ev_if_eq (tgt := 123) hq_183 (show decode prog_7_method_58_code 115 = .ok (.ifCond .eq 8, 3) by decide +kernel) (by decide) (fun hz => absurd hz (by decide)) (fun _ => ?_)
        refine Ev_iload hq_183 (show decode prog_7_method_58_code 118 = .ok (.iload 4, 2) by decide +kernel) rfl ?_
        refine Ev_goto (tgt := 124) hq_183 (show decode prog_7_method_58_code 120 = .ok (.goto 4, 3) by decide +kernel) (by decide) ?_
        refine Ev_istore_n (lo2 := [.ref 57, .int x1, .int x4, .int x3, .int x4, .int r4, .int 1]) hq_183 (show decode prog_7_method_58_code 124 = .ok (.istore_n 2, 1) by decide +kernel) (z_le rfl) rfl ?_
        refine Ev_iload hq_183 (show decode prog_7_method_58_code 125 = .ok (.iload 6, 2) by decide +kernel) rfl ?_
        refine Ev_if_eq (tgt := 135) hq_183 (show decode prog_7_method_58_code 127 = .ok (.ifCond .eq 8, 3) by decide +kernel) (by decide) (fun hz => absurd hz (by decide)) (fun _ => ?_)
        refine Ev_iload hq_183 (show decode prog_7_method_58_code 130 = .ok (.iload 5, 2) by decide +kernel) rfl ?_
        refine Ev_goto (tgt := 136) hq_183 (show decode prog_7_method_58_code 132 = .ok (.goto 4, 3) by decide +kernel) (by decide) ?_
        refine Ev_istore_n (lo2 := [.ref 57, .int x1, .int x4, .int r4, .int x4, .int r4, .int 1]) hq_183 (show decode prog_7_method_58_code 136 = .ok (.istore_n 3, 1) by decide +kernel) (z_le rfl) rfl ?_
        obtain ⟨y9, ey9⟩ : ∃ y9 : Int32, y9 = x4 + 1 := ⟨_, rfl⟩
        have k := k y9 ey9
        refine Ev_iinc (v := y9) (lo2 := [.ref 57, .int x1, .int x4, .int r4, .int y9, .int r4, .int 1]) hq_183 (show decode prog_7_method_58_code 137 = .ok (.iinc 4 1, 3) by decide +kernel) rfl (by rw [ey9]; rfl) rfl ?_
        refine Ev_goto (tgt := 51) hq_183 (show decode prog_7_method_58_code 140 = .ok (.goto (-89), 3) by decide +kernel) (by decide) ?_
        exact k
  · have k := k.2 c1
    refine Ev_aload_n hq_183 (show decode prog_7_method_58_code 70 = .ok (.aload_n 0, 1) by decide +kernel) rfl ?_
    refine Ev_getR hq_183 (show decode prog_7_method_58_code 71 = .ok (.getfield 16, 3) by decide +kernel) rfl (SGn hS (by decide)) (SGk hS rfl) (by decide) rfl (SGr hS rfl) ?_
    refine Ev_iconst (v := 5) hq_183 (show decode prog_7_method_58_code 74 = .ok (.iconst 5, 1) by decide +kernel) (by decide) ?_
    refine Ev_iload hq_183 (show decode prog_7_method_58_code 75 = .ok (.iload 5, 2) by decide +kernel) rfl ?_
    refine Ev_imul hq_183 (show decode prog_7_method_58_code 77 = .ok (.imul, 1) by decide +kernel) ?_
    refine Ev_iconst (v := 3) hq_183 (show decode prog_7_method_58_code 78 = .ok (.iconst 3, 1) by decide +kernel) (by decide) ?_
    refine Ev_iadd hq_183 (show decode prog_7_method_58_code 79 = .ok (.iadd, 1) by decide +kernel) ?_
    refine Ev_iload hq_183 (show decode prog_7_method_58_code 80 = .ok (.iload 4, 2) by decide +kernel) rfl ?_
    obtain ⟨h10, k⟩ := k
    refine Ev_iast hq_183 (show decode prog_7_method_58_code 82 = .ok (.iastore, 1) by decide +kernel) (SGn hS (by decide)) (SGk hS rfl) (SGi hS rfl h10) ?_
    obtain ⟨I11, eI11⟩ : ∃ I11 : zI, I11 = z_up I 60 ((5 * x5) + 3).toNatClampNeg x4 := ⟨_, rfl⟩
    have k := k I11 eI11
    rw [← eI11]
    obtain ⟨y12, ey12⟩ : ∃ y12 : Int32, y12 = x5 + 1 := ⟨_, rfl⟩
    have k := k y12 ey12
    refine Ev_iinc (v := y12) (lo2 := [.ref 57, .int x1, .int x2, .int x3, .int x4, .int y12, v6]) hq_183 (show decode prog_7_method_58_code 83 = .ok (.iinc 5 1, 3) by decide +kernel) rfl (by rw [ey12]; rfl) rfl ?_
    refine Ev_goto (tgt := 61) hq_183 (show decode prog_7_method_58_code 86 = .ok (.goto (-25), 3) by decide +kernel) (by decide) ?_
    exact k
set_option maxRecDepth 20000 in
theorem wp_Z_card_146 {X : Nat × (Nat → Int32)} {d : Nat} {G : zG} {I : zI} {res : Option Value × zG × zI} (x1 : Int32) (x2 : Int32) (x3 : Int32) (x4 : Int32) (v5 : Value) (cv5 : v5.category = 1) (v6 : Value) (cv6 : v6.category = 1) (hS : SG G) 
    (k : ((I 57 0) ≤ x4 → (¬ x1 = 0 → res = (some (.int x3), G, I)) ∧ (x1 = 0 → res = (some (.int x2), G, I))) ∧ (¬ (I 57 0) ≤ x4 → z_inr x4 4 ∧ (z_inr ((5 * x4) + 3) 20 ∧ (∀ I5 : zI, I5 = z_up I 60 ((5 * x4) + 3).toNatClampNeg (I 78 x4.toNatClampNeg) → ∀ y6 : Int32, y6 = x4 + 1 → Ev X d 183 146 [.ref 57, .int x1, .int x2, .int x3, .int y6, v5, v6] [] G I5 res)))) :
    Ev X d 183 146 [.ref 57, .int x1, .int x2, .int x3, .int x4, v5, v6] [] G I res := by
  refine Ev_iload hq_183 (show decode prog_7_method_58_code 146 = .ok (.iload 4, 2) by decide +kernel) rfl ?_
  refine Ev_aload_n hq_183 (show decode prog_7_method_58_code 148 = .ok (.aload_n 0, 1) by decide +kernel) rfl ?_
  refine Ev_getI hq_183 (show decode prog_7_method_58_code 149 = .ok (.getfield 87, 3) by decide +kernel) rfl (SGn hS (by decide)) (SGk hS rfl) (by decide) rfl ?_
  refine Ev_icmp_ge (tgt := 179) hq_183 (show decode prog_7_method_58_code 152 = .ok (.if_icmp .ge 27, 3) by decide +kernel) (by decide) (fun c1 => ?_) (fun c1 => ?_)
  · have k := k.1 c1
    refine Ev_iload_n hq_183 (show decode prog_7_method_58_code 179 = .ok (.iload_n 1, 1) by decide +kernel) rfl ?_
    refine Ev_if_ne (tgt := 187) hq_183 (show decode prog_7_method_58_code 180 = .ok (.ifCond .ne 7, 3) by decide +kernel) (by decide) (fun c2 => ?_) (fun c2 => ?_)
    · have k := k.1 c2
      refine Ev_iload_n hq_183 (show decode prog_7_method_58_code 187 = .ok (.iload_n 3, 1) by decide +kernel) rfl ?_
      exact Ev_iret hq_183 (show decode prog_7_method_58_code 188 = .ok (.ireturn, 1) by decide +kernel) rfl k
    · have k := k.2 (Classical.not_not.mp c2)
      refine Ev_iload_n hq_183 (show decode prog_7_method_58_code 183 = .ok (.iload_n 2, 1) by decide +kernel) rfl ?_
      refine Ev_goto (tgt := 188) hq_183 (show decode prog_7_method_58_code 184 = .ok (.goto 4, 3) by decide +kernel) (by decide) ?_
      exact Ev_iret hq_183 (show decode prog_7_method_58_code 188 = .ok (.ireturn, 1) by decide +kernel) rfl k
  · have k := k.2 c1
    refine Ev_aload_n hq_183 (show decode prog_7_method_58_code 155 = .ok (.aload_n 0, 1) by decide +kernel) rfl ?_
    refine Ev_getR hq_183 (show decode prog_7_method_58_code 156 = .ok (.getfield 16, 3) by decide +kernel) rfl (SGn hS (by decide)) (SGk hS rfl) (by decide) rfl (SGr hS rfl) ?_
    refine Ev_iconst (v := 5) hq_183 (show decode prog_7_method_58_code 159 = .ok (.iconst 5, 1) by decide +kernel) (by decide) ?_
    refine Ev_iload hq_183 (show decode prog_7_method_58_code 160 = .ok (.iload 4, 2) by decide +kernel) rfl ?_
    refine Ev_imul hq_183 (show decode prog_7_method_58_code 162 = .ok (.imul, 1) by decide +kernel) ?_
    refine Ev_iconst (v := 3) hq_183 (show decode prog_7_method_58_code 163 = .ok (.iconst 3, 1) by decide +kernel) (by decide) ?_
    refine Ev_iadd hq_183 (show decode prog_7_method_58_code 164 = .ok (.iadd, 1) by decide +kernel) ?_
    refine Ev_aload_n hq_183 (show decode prog_7_method_58_code 165 = .ok (.aload_n 0, 1) by decide +kernel) rfl ?_
    refine Ev_getR hq_183 (show decode prog_7_method_58_code 166 = .ok (.getfield 74, 3) by decide +kernel) rfl (SGn hS (by decide)) (SGk hS rfl) (by decide) rfl (SGr hS rfl) ?_
    refine Ev_iload hq_183 (show decode prog_7_method_58_code 169 = .ok (.iload 4, 2) by decide +kernel) rfl ?_
    obtain ⟨h3, k⟩ := k
    refine Ev_iald hq_183 (show decode prog_7_method_58_code 171 = .ok (.iaload, 1) by decide +kernel) (SGn hS (by decide)) (SGk hS rfl) (SGi hS rfl h3) ?_
    obtain ⟨h4, k⟩ := k
    refine Ev_iast hq_183 (show decode prog_7_method_58_code 172 = .ok (.iastore, 1) by decide +kernel) (SGn hS (by decide)) (SGk hS rfl) (SGi hS rfl h4) ?_
    obtain ⟨I5, eI5⟩ : ∃ I5 : zI, I5 = z_up I 60 ((5 * x4) + 3).toNatClampNeg (I 78 x4.toNatClampNeg) := ⟨_, rfl⟩
    have k := k I5 eI5
    rw [← eI5]
    obtain ⟨y6, ey6⟩ : ∃ y6 : Int32, y6 = x4 + 1 := ⟨_, rfl⟩
    have k := k y6 ey6
    refine Ev_iinc (v := y6) (lo2 := [.ref 57, .int x1, .int x2, .int x3, .int y6, v5, v6]) hq_183 (show decode prog_7_method_58_code 173 = .ok (.iinc 4 1, 3) by decide +kernel) rfl (by rw [ey6]; rfl) rfl ?_
    refine Ev_goto (tgt := 146) hq_183 (show decode prog_7_method_58_code 176 = .ok (.goto (-30), 3) by decide +kernel) (by decide) ?_
    exact k
set_option maxRecDepth 20000 in
theorem wp_Z_costOfAll {X : Nat × (Nat → Int32)} {d : Nat} {G : zG} {I : zI} {res : Option Value × zG × zI}  (hS : SG G) 
    (k : ∃ (I1 : zI), Cv X d 159 [.ref 57, .int 30] G I (none, G, I1) ∧ (∃ (r5 : Int32) (I3 : zI), Cv X d 173 [.ref 57] G I1 (some (.int r5), G, I3) ∧ (res = (some (.int r5), G, I3)))) :
    Ev X (d + 1) 184 0 [.ref 57] [] G I res := by
  refine Ev_aload_n hq_184 (show decode prog_7_method_41_code 0 = .ok (.aload_n 0, 1) by decide +kernel) rfl ?_
  refine Ev_bipush (v := 30) hq_184 (show decode prog_7_method_41_code 1 = .ok (.bipush 30, 2) by decide +kernel) (by decide) ?_
  obtain ⟨I1, h2, k⟩ := k
  refine Ev_virt (as := [.int 30]) hq_184 (show decode prog_7_method_41_code 3 = .ok (.invokevirtual 205, 3) by decide +kernel) rfl hq_159 rfl (z_le rfl) ⟨(SGn hS (by decide)), (SGk hS rfl), by decide⟩ h2 ?_
  refine Ev_aload_n hq_184 (show decode prog_7_method_41_code 6 = .ok (.aload_n 0, 1) by decide +kernel) rfl ?_
  obtain ⟨r5, I3, h4, k⟩ := k
  refine Ev_virt (as := []) hq_184 (show decode prog_7_method_41_code 7 = .ok (.invokevirtual 208, 3) by decide +kernel) rfl hq_173 rfl (z_le rfl) ⟨(SGn hS (by decide)), (SGk hS rfl), by decide⟩ h4 ?_
  exact Ev_iret hq_184 (show decode prog_7_method_41_code 10 = .ok (.ireturn, 1) by decide +kernel) rfl k
set_option maxRecDepth 20000 in
theorem wp_Z_even {X : Nat × (Nat → Int32)} {d : Nat} {G : zG} {I : zI} {res : Option Value × zG × zI} (x1 : Int32) (x2 : Int32) (x3 : Int32) (hS : SG G) 
    (k : ∃ (r3 : Int32) (I1 : zI), Cv X d 186 [.ref 57, .int x1, .int x2] G I (some (.int r3), G, I1) ∧ ((¬ r3 = 0 → ∃ (r7 : Int32) (I5 : zI), Cv X d 131 [.int x3, .int 0, .int 1] G I1 (some (.int r7), G, I5) ∧ ((¬ r7 = 0 → z_inr ((5 * x1) + 3) 20 ∧ (∀ y10 : Int32, y10 = (I5 60 ((5 * x1) + 3).toNatClampNeg) → z_inr ((5 * x2) + 3) 20 ∧ (∀ y12 : Int32, y12 = (I5 60 ((5 * x2) + 3).toNatClampNeg) → Ev X (d + 1) 185 57 [.ref 57, .int x1, .int x2, .int x3, .int y10, .int y12, .int 0, .int 0, .int 0, zU, zU] [] G I5 res))) ∧ (r7 = 0 → res = (some (.int (-7)), G, I5)))) ∧ (r3 = 0 → res = (some (.int (-5)), G, I1)))) :
    Ev X (d + 1) 185 0 [.ref 57, .int x1, .int x2, .int x3, zU, zU, zU, zU, zU, zU, zU] [] G I res := by
  refine Ev_aload_n hq_185 (show decode prog_7_method_60_code 0 = .ok (.aload_n 0, 1) by decide +kernel) rfl ?_
  refine Ev_iload_n hq_185 (show decode prog_7_method_60_code 1 = .ok (.iload_n 1, 1) by decide +kernel) rfl ?_
  refine Ev_iload_n hq_185 (show decode prog_7_method_60_code 2 = .ok (.iload_n 2, 1) by decide +kernel) rfl ?_
  obtain ⟨r3, I1, h2, k⟩ := k
  refine Ev_virt (as := [.int x1, .int x2]) hq_185 (show decode prog_7_method_60_code 3 = .ok (.invokevirtual 250, 3) by decide +kernel) rfl hq_186 rfl (z_le rfl) ⟨(SGn hS (by decide)), (SGk hS rfl), by decide⟩ h2 ?_
  refine Ev_if_ne (tgt := 12) hq_185 (show decode prog_7_method_60_code 6 = .ok (.ifCond .ne 6, 3) by decide +kernel) (by decide) (fun c4 => ?_) (fun c4 => ?_)
  · have k := k.1 c4
    refine Ev_iload_n hq_185 (show decode prog_7_method_60_code 12 = .ok (.iload_n 3, 1) by decide +kernel) rfl ?_
    refine Ev_iconst (v := 0) hq_185 (show decode prog_7_method_60_code 13 = .ok (.iconst 0, 1) by decide +kernel) (by decide) ?_
    refine Ev_iconst (v := 1) hq_185 (show decode prog_7_method_60_code 14 = .ok (.iconst 1, 1) by decide +kernel) (by decide) ?_
    obtain ⟨r7, I5, h6, k⟩ := k
    refine Ev_stat (as := [.int x3, .int 0, .int 1]) hq_185 (show decode prog_7_method_60_code 15 = .ok (.invokestatic 90, 3) by decide +kernel) rfl (Or.inl rfl) hq_131 rfl (z_le rfl) h6 ?_
    refine Ev_if_ne (tgt := 24) hq_185 (show decode prog_7_method_60_code 18 = .ok (.ifCond .ne 6, 3) by decide +kernel) (by decide) (fun c8 => ?_) (fun c8 => ?_)
    · have k := k.1 c8
      refine Ev_aload_n hq_185 (show decode prog_7_method_60_code 24 = .ok (.aload_n 0, 1) by decide +kernel) rfl ?_
      refine Ev_getR hq_185 (show decode prog_7_method_60_code 25 = .ok (.getfield 16, 3) by decide +kernel) rfl (SGn hS (by decide)) (SGk hS rfl) (by decide) rfl (SGr hS rfl) ?_
      refine Ev_iconst (v := 5) hq_185 (show decode prog_7_method_60_code 28 = .ok (.iconst 5, 1) by decide +kernel) (by decide) ?_
      refine Ev_iload_n hq_185 (show decode prog_7_method_60_code 29 = .ok (.iload_n 1, 1) by decide +kernel) rfl ?_
      refine Ev_imul hq_185 (show decode prog_7_method_60_code 30 = .ok (.imul, 1) by decide +kernel) ?_
      refine Ev_iconst (v := 3) hq_185 (show decode prog_7_method_60_code 31 = .ok (.iconst 3, 1) by decide +kernel) (by decide) ?_
      refine Ev_iadd hq_185 (show decode prog_7_method_60_code 32 = .ok (.iadd, 1) by decide +kernel) ?_
      obtain ⟨h9, k⟩ := k
      refine Ev_iald hq_185 (show decode prog_7_method_60_code 33 = .ok (.iaload, 1) by decide +kernel) (SGn hS (by decide)) (SGk hS rfl) (SGi hS rfl h9) ?_
      obtain ⟨y10, ey10⟩ : ∃ y10 : Int32, y10 = (I5 60 ((5 * x1) + 3).toNatClampNeg) := ⟨_, rfl⟩
      have k := k y10 ey10
      rw [← ey10]
      refine Ev_istore (lo2 := [.ref 57, .int x1, .int x2, .int x3, .int y10, zU, zU, zU, zU, zU, zU]) hq_185 (show decode prog_7_method_60_code 34 = .ok (.istore 4, 2) by decide +kernel) (z_le rfl) rfl ?_
      refine Ev_aload_n hq_185 (show decode prog_7_method_60_code 36 = .ok (.aload_n 0, 1) by decide +kernel) rfl ?_
      refine Ev_getR hq_185 (show decode prog_7_method_60_code 37 = .ok (.getfield 16, 3) by decide +kernel) rfl (SGn hS (by decide)) (SGk hS rfl) (by decide) rfl (SGr hS rfl) ?_
      refine Ev_iconst (v := 5) hq_185 (show decode prog_7_method_60_code 40 = .ok (.iconst 5, 1) by decide +kernel) (by decide) ?_
      refine Ev_iload_n hq_185 (show decode prog_7_method_60_code 41 = .ok (.iload_n 2, 1) by decide +kernel) rfl ?_
      refine Ev_imul hq_185 (show decode prog_7_method_60_code 42 = .ok (.imul, 1) by decide +kernel) ?_
      refine Ev_iconst (v := 3) hq_185 (show decode prog_7_method_60_code 43 = .ok (.iconst 3, 1) by decide +kernel) (by decide) ?_
      refine Ev_iadd hq_185 (show decode prog_7_method_60_code 44 = .ok (.iadd, 1) by decide +kernel) ?_
      obtain ⟨h11, k⟩ := k
      refine Ev_iald hq_185 (show decode prog_7_method_60_code 45 = .ok (.iaload, 1) by decide +kernel) (SGn hS (by decide)) (SGk hS rfl) (SGi hS rfl h11) ?_
      obtain ⟨y12, ey12⟩ : ∃ y12 : Int32, y12 = (I5 60 ((5 * x2) + 3).toNatClampNeg) := ⟨_, rfl⟩
      have k := k y12 ey12
      rw [← ey12]
      refine Ev_istore (lo2 := [.ref 57, .int x1, .int x2, .int x3, .int y10, .int y12, zU, zU, zU, zU, zU]) hq_185 (show decode prog_7_method_60_code 46 = .ok (.istore 5, 2) by decide +kernel) (z_le rfl) rfl ?_
      refine Ev_iconst (v := 0) hq_185 (show decode prog_7_method_60_code 48 = .ok (.iconst 0, 1) by decide +kernel) (by decide) ?_
      refine Ev_istore (lo2 := [.ref 57, .int x1, .int x2, .int x3, .int y10, .int y12, .int 0, zU, zU, zU, zU]) hq_185 (show decode prog_7_method_60_code 49 = .ok (.istore 6, 2) by decide +kernel) (z_le rfl) rfl ?_
      refine Ev_iconst (v := 0) hq_185 (show decode prog_7_method_60_code 51 = .ok (.iconst 0, 1) by decide +kernel) (by decide) ?_
      refine Ev_istore (lo2 := [.ref 57, .int x1, .int x2, .int x3, .int y10, .int y12, .int 0, .int 0, zU, zU, zU]) hq_185 (show decode prog_7_method_60_code 52 = .ok (.istore 7, 2) by decide +kernel) (z_le rfl) rfl ?_
      refine Ev_iconst (v := 0) hq_185 (show decode prog_7_method_60_code 54 = .ok (.iconst 0, 1) by decide +kernel) (by decide) ?_
      refine Ev_istore (lo2 := [.ref 57, .int x1, .int x2, .int x3, .int y10, .int y12, .int 0, .int 0, .int 0, zU, zU]) hq_185 (show decode prog_7_method_60_code 55 = .ok (.istore 8, 2) by decide +kernel) (z_le rfl) rfl ?_
      exact k
    · have k := k.2 (Classical.not_not.mp c8)
      refine Ev_bipush (v := (-7)) hq_185 (show decode prog_7_method_60_code 21 = .ok (.bipush (-7), 2) by decide +kernel) (by decide) ?_
      exact Ev_iret hq_185 (show decode prog_7_method_60_code 23 = .ok (.ireturn, 1) by decide +kernel) rfl k
  · have k := k.2 (Classical.not_not.mp c4)
    refine Ev_bipush (v := (-5)) hq_185 (show decode prog_7_method_60_code 9 = .ok (.bipush (-5), 2) by decide +kernel) (by decide) ?_
    exact Ev_iret hq_185 (show decode prog_7_method_60_code 11 = .ok (.ireturn, 1) by decide +kernel) rfl k
set_option maxRecDepth 20000 in
theorem wp_Z_even_57 {X : Nat × (Nat → Int32)} {d : Nat} {G : zG} {I : zI} {res : Option Value × zG × zI} (x1 : Int32) (x2 : Int32) (x3 : Int32) (x4 : Int32) (x5 : Int32) (x6 : Int32) (x7 : Int32) (x8 : Int32) (v9 : Value) (cv9 : v9.category = 1) (v10 : Value) (cv10 : v10.category = 1) (hS : SG G) 
    (k : (20 ≤ x8 → z_inr ((5 * x1) + 3) 20 ∧ (z_inr ((5 * x2) + 3) 20 ∧ (∀ y4 : Int32, y4 = ((100 * (I 60 ((5 * x1) + 3).toNatClampNeg)) + (I 60 ((5 * x2) + 3).toNatClampNeg)) → z_inr ((5 * x1) + 3) 20 ∧ (∀ I6 : zI, I6 = z_up I 60 ((5 * x1) + 3).toNatClampNeg x4 → z_inr ((5 * x2) + 3) 20 ∧ (∀ I8 : zI, I8 = z_up I6 60 ((5 * x2) + 3).toNatClampNeg x5 → (2 ≤ x6 → (¬ x3 = 0 → res = (some (.int y4), G, I8)) ∧ (x3 = 0 → res = (some (.int x7), G, I8))) ∧ (¬ 2 ≤ x6 → res = (some (.int (-1)), G, I8))))))) ∧ (¬ 20 ≤ x8 → (2 ≤ x6 → z_inr ((5 * x1) + 3) 20 ∧ (z_inr ((5 * x2) + 3) 20 ∧ (∀ y14 : Int32, y14 = ((100 * (I 60 ((5 * x1) + 3).toNatClampNeg)) + (I 60 ((5 * x2) + 3).toNatClampNeg)) → z_inr ((5 * x1) + 3) 20 ∧ (∀ I16 : zI, I16 = z_up I 60 ((5 * x1) + 3).toNatClampNeg x4 → z_inr ((5 * x2) + 3) 20 ∧ (∀ I18 : zI, I18 = z_up I16 60 ((5 * x2) + 3).toNatClampNeg x5 → (2 ≤ x6 → (¬ x3 = 0 → res = (some (.int y14), G, I18)) ∧ (x3 = 0 → res = (some (.int x7), G, I18))) ∧ (¬ 2 ≤ x6 → res = (some (.int (-1)), G, I18))))))) ∧ (¬ 2 ≤ x6 → (¬ (x8 - x8 / 2 * 2) = 0 → ∃ (I22 : zI), Cv X d 178 [.ref 57, .int x2] G I (none, G, I22) ∧ (z_inr ((5 * x2) + 3) 20 ∧ ((¬ (I22 57 35) = (I22 60 ((5 * x2) + 3).toNatClampNeg) → ∀ y26 : Int32, y26 = (x7 + 1) → z_inr ((5 * x2) + 3) 20 ∧ (∀ I28 : zI, I28 = z_up I22 60 ((5 * x2) + 3).toNatClampNeg (I22 57 35) → ∀ y29 : Int32, y29 = x8 + 1 → Ev X (d + 1) 185 57 [.ref 57, .int x1, .int x2, .int x3, .int x4, .int x5, .int 0, .int y26, .int y29, .int x2, .int 0] [] G I28 res)) ∧ ((I22 57 35) = (I22 60 ((5 * x2) + 3).toNatClampNeg) → ∀ y30 : Int32, y30 = (x6 + 1) → ∀ y31 : Int32, y31 = (x7 + 0) → z_inr ((5 * x2) + 3) 20 ∧ (∀ I33 : zI, I33 = z_up I22 60 ((5 * x2) + 3).toNatClampNeg (I22 57 35) → ∀ y34 : Int32, y34 = x8 + 1 → Ev X (d + 1) 185 57 [.ref 57, .int x1, .int x2, .int x3, .int x4, .int x5, .int y30, .int y31, .int y34, .int x2, .int 1] [] G I33 res))))) ∧ ((x8 - x8 / 2 * 2) = 0 → ∃ (I35 : zI), Cv X d 178 [.ref 57, .int x1] G I (none, G, I35) ∧ (z_inr ((5 * x1) + 3) 20 ∧ ((¬ (I35 57 35) = (I35 60 ((5 * x1) + 3).toNatClampNeg) → ∀ y39 : Int32, y39 = (x7 + 1) → z_inr ((5 * x1) + 3) 20 ∧ (∀ I41 : zI, I41 = z_up I35 60 ((5 * x1) + 3).toNatClampNeg (I35 57 35) → ∀ y42 : Int32, y42 = x8 + 1 → Ev X (d + 1) 185 57 [.ref 57, .int x1, .int x2, .int x3, .int x4, .int x5, .int 0, .int y39, .int y42, .int x1, .int 0] [] G I41 res)) ∧ ((I35 57 35) = (I35 60 ((5 * x1) + 3).toNatClampNeg) → ∀ y43 : Int32, y43 = (x6 + 1) → ∀ y44 : Int32, y44 = (x7 + 0) → z_inr ((5 * x1) + 3) 20 ∧ (∀ I46 : zI, I46 = z_up I35 60 ((5 * x1) + 3).toNatClampNeg (I35 57 35) → ∀ y47 : Int32, y47 = x8 + 1 → Ev X (d + 1) 185 57 [.ref 57, .int x1, .int x2, .int x3, .int x4, .int x5, .int y43, .int y44, .int y47, .int x1, .int 1] [] G I46 res)))))))) :
    Ev X (d + 1) 185 57 [.ref 57, .int x1, .int x2, .int x3, .int x4, .int x5, .int x6, .int x7, .int x8, v9, v10] [] G I res := by
  refine Ev_iload hq_185 (show decode prog_7_method_60_code 57 = .ok (.iload 8, 2) by decide +kernel) rfl ?_
  refine Ev_bipush (v := 20) hq_185 (show decode prog_7_method_60_code 59 = .ok (.bipush 20, 2) by decide +kernel) (by decide) ?_
  refine Ev_icmp_ge (tgt := 166) hq_185 (show decode prog_7_method_60_code 61 = .ok (.if_icmp .ge 105, 3) by decide +kernel) (by decide) (fun c1 => ?_) (fun c1 => ?_)
  · have k := k.1 c1
    refine Ev_bipush (v := 100) hq_185 (show decode prog_7_method_60_code 166 = .ok (.bipush 100, 2) by decide +kernel) (by decide) ?_
    refine Ev_aload_n hq_185 (show decode prog_7_method_60_code 168 = .ok (.aload_n 0, 1) by decide +kernel) rfl ?_
    refine Ev_getR hq_185 (show decode prog_7_method_60_code 169 = .ok (.getfield 16, 3) by decide +kernel) rfl (SGn hS (by decide)) (SGk hS rfl) (by decide) rfl (SGr hS rfl) ?_
    refine Ev_iconst (v := 5) hq_185 (show decode prog_7_method_60_code 172 = .ok (.iconst 5, 1) by decide +kernel) (by decide) ?_
    refine Ev_iload_n hq_185 (show decode prog_7_method_60_code 173 = .ok (.iload_n 1, 1) by decide +kernel) rfl ?_
    refine Ev_imul hq_185 (show decode prog_7_method_60_code 174 = .ok (.imul, 1) by decide +kernel) ?_
    refine Ev_iconst (v := 3) hq_185 (show decode prog_7_method_60_code 175 = .ok (.iconst 3, 1) by decide +kernel) (by decide) ?_
    refine Ev_iadd hq_185 (show decode prog_7_method_60_code 176 = .ok (.iadd, 1) by decide +kernel) ?_
    obtain ⟨h2, k⟩ := k
    refine Ev_iald hq_185 (show decode prog_7_method_60_code 177 = .ok (.iaload, 1) by decide +kernel) (SGn hS (by decide)) (SGk hS rfl) (SGi hS rfl h2) ?_
    refine Ev_imul hq_185 (show decode prog_7_method_60_code 178 = .ok (.imul, 1) by decide +kernel) ?_
    refine Ev_aload_n hq_185 (show decode prog_7_method_60_code 179 = .ok (.aload_n 0, 1) by decide +kernel) rfl ?_
    refine Ev_getR hq_185 (show decode prog_7_method_60_code 180 = .ok (.getfield 16, 3) by decide +kernel) rfl (SGn hS (by decide)) (SGk hS rfl) (by decide) rfl (SGr hS rfl) ?_
    refine Ev_iconst (v := 5) hq_185 (show decode prog_7_method_60_code 183 = .ok (.iconst 5, 1) by decide +kernel) (by decide) ?_
    refine Ev_iload_n hq_185 (show decode prog_7_method_60_code 184 = .ok (.iload_n 2, 1) by decide +kernel) rfl ?_
    refine Ev_imul hq_185 (show decode prog_7_method_60_code 185 = .ok (.imul, 1) by decide +kernel) ?_
    refine Ev_iconst (v := 3) hq_185 (show decode prog_7_method_60_code 186 = .ok (.iconst 3, 1) by decide +kernel) (by decide) ?_
    refine Ev_iadd hq_185 (show decode prog_7_method_60_code 187 = .ok (.iadd, 1) by decide +kernel) ?_
    obtain ⟨h3, k⟩ := k
    refine Ev_iald hq_185 (show decode prog_7_method_60_code 188 = .ok (.iaload, 1) by decide +kernel) (SGn hS (by decide)) (SGk hS rfl) (SGi hS rfl h3) ?_
    refine Ev_iadd hq_185 (show decode prog_7_method_60_code 189 = .ok (.iadd, 1) by decide +kernel) ?_
    obtain ⟨y4, ey4⟩ : ∃ y4 : Int32, y4 = ((100 * (I 60 ((5 * x1) + 3).toNatClampNeg)) + (I 60 ((5 * x2) + 3).toNatClampNeg)) := ⟨_, rfl⟩
    have k := k y4 ey4
    rw [← ey4]
    refine Ev_istore (lo2 := [.ref 57, .int x1, .int x2, .int x3, .int x4, .int x5, .int x6, .int x7, .int y4, v9, v10]) hq_185 (show decode prog_7_method_60_code 190 = .ok (.istore 8, 2) by decide +kernel) (z_le rfl) rfl ?_
    refine Ev_aload_n hq_185 (show decode prog_7_method_60_code 192 = .ok (.aload_n 0, 1) by decide +kernel) rfl ?_
    refine Ev_getR hq_185 (show decode prog_7_method_60_code 193 = .ok (.getfield 16, 3) by decide +kernel) rfl (SGn hS (by decide)) (SGk hS rfl) (by decide) rfl (SGr hS rfl) ?_
    refine Ev_iconst (v := 5) hq_185 (show decode prog_7_method_60_code 196 = .ok (.iconst 5, 1) by decide +kernel) (by decide) ?_
    refine Ev_iload_n hq_185 (show decode prog_7_method_60_code 197 = .ok (.iload_n 1, 1) by decide +kernel) rfl ?_
    refine Ev_imul hq_185 (show decode prog_7_method_60_code 198 = .ok (.imul, 1) by decide +kernel) ?_
    refine Ev_iconst (v := 3) hq_185 (show decode prog_7_method_60_code 199 = .ok (.iconst 3, 1) by decide +kernel) (by decide) ?_
    refine Ev_iadd hq_185 (show decode prog_7_method_60_code 200 = .ok (.iadd, 1) by decide +kernel) ?_
    refine Ev_iload hq_185 (show decode prog_7_method_60_code 201 = .ok (.iload 4, 2) by decide +kernel) rfl ?_
    obtain ⟨h5, k⟩ := k
    refine Ev_iast hq_185 (show decode prog_7_method_60_code 203 = .ok (.iastore, 1) by decide +kernel) (SGn hS (by decide)) (SGk hS rfl) (SGi hS rfl h5) ?_
    obtain ⟨I6, eI6⟩ : ∃ I6 : zI, I6 = z_up I 60 ((5 * x1) + 3).toNatClampNeg x4 := ⟨_, rfl⟩
    have k := k I6 eI6
    rw [← eI6]
    refine Ev_aload_n hq_185 (show decode prog_7_method_60_code 204 = .ok (.aload_n 0, 1) by decide +kernel) rfl ?_
    refine Ev_getR hq_185 (show decode prog_7_method_60_code 205 = .ok (.getfield 16, 3) by decide +kernel) rfl (SGn hS (by decide)) (SGk hS rfl) (by decide) rfl (SGr hS rfl) ?_
    refine Ev_iconst (v := 5) hq_185 (show decode prog_7_method_60_code 208 = .ok (.iconst 5, 1) by decide +kernel) (by decide) ?_
    refine Ev_iload_n hq_185 (show decode prog_7_method_60_code 209 = .ok (.iload_n 2, 1) by decide +kernel) rfl ?_
    refine Ev_imul hq_185 (show decode prog_7_method_60_code 210 = .ok (.imul, 1) by decide +kernel) ?_
    refine Ev_iconst (v := 3) hq_185 (show decode prog_7_method_60_code 211 = .ok (.iconst 3, 1) by decide +kernel) (by decide) ?_
    refine Ev_iadd hq_185 (show decode prog_7_method_60_code 212 = .ok (.iadd, 1) by decide +kernel) ?_
    refine Ev_iload hq_185 (show decode prog_7_method_60_code 213 = .ok (.iload 5, 2) by decide +kernel) rfl ?_
    obtain ⟨h7, k⟩ := k
    refine Ev_iast hq_185 (show decode prog_7_method_60_code 215 = .ok (.iastore, 1) by decide +kernel) (SGn hS (by decide)) (SGk hS rfl) (SGi hS rfl h7) ?_
    obtain ⟨I8, eI8⟩ : ∃ I8 : zI, I8 = z_up I6 60 ((5 * x2) + 3).toNatClampNeg x5 := ⟨_, rfl⟩
    have k := k I8 eI8
    rw [← eI8]
    refine Ev_iload hq_185 (show decode prog_7_method_60_code 216 = .ok (.iload 6, 2) by decide +kernel) rfl ?_
    refine Ev_iconst (v := 2) hq_185 (show decode prog_7_method_60_code 218 = .ok (.iconst 2, 1) by decide +kernel) (by decide) ?_
    refine Ev_icmp_ge (tgt := 226) hq_185 (show decode prog_7_method_60_code 219 = .ok (.if_icmp .ge 7, 3) by decide +kernel) (by decide) (fun c9 => ?_) (fun c9 => ?_)
    · have k := k.1 c9
      refine Ev_iload_n hq_185 (show decode prog_7_method_60_code 226 = .ok (.iload_n 3, 1) by decide +kernel) rfl ?_
      refine Ev_if_ne (tgt := 235) hq_185 (show decode prog_7_method_60_code 227 = .ok (.ifCond .ne 8, 3) by decide +kernel) (by decide) (fun c10 => ?_) (fun c10 => ?_)
      · have k := k.1 c10
        refine Ev_iload hq_185 (show decode prog_7_method_60_code 235 = .ok (.iload 8, 2) by decide +kernel) rfl ?_
        exact Ev_iret hq_185 (show decode prog_7_method_60_code 237 = .ok (.ireturn, 1) by decide +kernel) rfl k
      · have k := k.2 (Classical.not_not.mp c10)
        refine Ev_iload hq_185 (show decode prog_7_method_60_code 230 = .ok (.iload 7, 2) by decide +kernel) rfl ?_
        refine Ev_goto (tgt := 237) hq_185 (show decode prog_7_method_60_code 232 = .ok (.goto 5, 3) by decide +kernel) (by decide) ?_
        exact Ev_iret hq_185 (show decode prog_7_method_60_code 237 = .ok (.ireturn, 1) by decide +kernel) rfl k
    · have k := k.2 c9
      refine Ev_iconst (v := (-1)) hq_185 (show decode prog_7_method_60_code 222 = .ok (.iconst (-1), 1) by decide +kernel) (by decide) ?_
      refine Ev_goto (tgt := 237) hq_185 (show decode prog_7_method_60_code 223 = .ok (.goto 14, 3) by decide +kernel) (by decide) ?_
      exact Ev_iret hq_185 (show decode prog_7_method_60_code 237 = .ok (.ireturn, 1) by decide +kernel) rfl k
  · have k := k.2 c1
    refine Ev_iload hq_185 (show decode prog_7_method_60_code 64 = .ok (.iload 6, 2) by decide +kernel) rfl ?_
    refine Ev_iconst (v := 2) hq_185 (show decode prog_7_method_60_code 66 = .ok (.iconst 2, 1) by decide +kernel) (by decide) ?_
    refine Ev_icmp_ge (tgt := 166) hq_185 (show decode prog_7_method_60_code 67 = .ok (.if_icmp .ge 99, 3) by decide +kernel) (by decide) (fun c11 => ?_) (fun c11 => ?_)
    · have k := k.1 c11
      refine Ev_bipush (v := 100) hq_185 (show decode prog_7_method_60_code 166 = .ok (.bipush 100, 2) by decide +kernel) (by decide) ?_
      refine Ev_aload_n hq_185 (show decode prog_7_method_60_code 168 = .ok (.aload_n 0, 1) by decide +kernel) rfl ?_
      refine Ev_getR hq_185 (show decode prog_7_method_60_code 169 = .ok (.getfield 16, 3) by decide +kernel) rfl (SGn hS (by decide)) (SGk hS rfl) (by decide) rfl (SGr hS rfl) ?_
      refine Ev_iconst (v := 5) hq_185 (show decode prog_7_method_60_code 172 = .ok (.iconst 5, 1) by decide +kernel) (by decide) ?_
      refine Ev_iload_n hq_185 (show decode prog_7_method_60_code 173 = .ok (.iload_n 1, 1) by decide +kernel) rfl ?_
      refine Ev_imul hq_185 (show decode prog_7_method_60_code 174 = .ok (.imul, 1) by decide +kernel) ?_
      refine Ev_iconst (v := 3) hq_185 (show decode prog_7_method_60_code 175 = .ok (.iconst 3, 1) by decide +kernel) (by decide) ?_
      refine Ev_iadd hq_185 (show decode prog_7_method_60_code 176 = .ok (.iadd, 1) by decide +kernel) ?_
      obtain ⟨h12, k⟩ := k
      refine Ev_iald hq_185 (show decode prog_7_method_60_code 177 = .ok (.iaload, 1) by decide +kernel) (SGn hS (by decide)) (SGk hS rfl) (SGi hS rfl h12) ?_
      refine Ev_imul hq_185 (show decode prog_7_method_60_code 178 = .ok (.imul, 1) by decide +kernel) ?_
      refine Ev_aload_n hq_185 (show decode prog_7_method_60_code 179 = .ok (.aload_n 0, 1) by decide +kernel) rfl ?_
      refine Ev_getR hq_185 (show decode prog_7_method_60_code 180 = .ok (.getfield 16, 3) by decide +kernel) rfl (SGn hS (by decide)) (SGk hS rfl) (by decide) rfl (SGr hS rfl) ?_
      refine Ev_iconst (v := 5) hq_185 (show decode prog_7_method_60_code 183 = .ok (.iconst 5, 1) by decide +kernel) (by decide) ?_
      refine Ev_iload_n hq_185 (show decode prog_7_method_60_code 184 = .ok (.iload_n 2, 1) by decide +kernel) rfl ?_
      refine Ev_imul hq_185 (show decode prog_7_method_60_code 185 = .ok (.imul, 1) by decide +kernel) ?_
      refine Ev_iconst (v := 3) hq_185 (show decode prog_7_method_60_code 186 = .ok (.iconst 3, 1) by decide +kernel) (by decide) ?_
      refine Ev_iadd hq_185 (show decode prog_7_method_60_code 187 = .ok (.iadd, 1) by decide +kernel) ?_
      obtain ⟨h13, k⟩ := k
      refine Ev_iald hq_185 (show decode prog_7_method_60_code 188 = .ok (.iaload, 1) by decide +kernel) (SGn hS (by decide)) (SGk hS rfl) (SGi hS rfl h13) ?_
      refine Ev_iadd hq_185 (show decode prog_7_method_60_code 189 = .ok (.iadd, 1) by decide +kernel) ?_
      obtain ⟨y14, ey14⟩ : ∃ y14 : Int32, y14 = ((100 * (I 60 ((5 * x1) + 3).toNatClampNeg)) + (I 60 ((5 * x2) + 3).toNatClampNeg)) := ⟨_, rfl⟩
      have k := k y14 ey14
      rw [← ey14]
      refine Ev_istore (lo2 := [.ref 57, .int x1, .int x2, .int x3, .int x4, .int x5, .int x6, .int x7, .int y14, v9, v10]) hq_185 (show decode prog_7_method_60_code 190 = .ok (.istore 8, 2) by decide +kernel) (z_le rfl) rfl ?_
      refine Ev_aload_n hq_185 (show decode prog_7_method_60_code 192 = .ok (.aload_n 0, 1) by decide +kernel) rfl ?_
      refine Ev_getR hq_185 (show decode prog_7_method_60_code 193 = .ok (.getfield 16, 3) by decide +kernel) rfl (SGn hS (by decide)) (SGk hS rfl) (by decide) rfl (SGr hS rfl) ?_
      refine Ev_iconst (v := 5) hq_185 (show decode prog_7_method_60_code 196 = .ok (.iconst 5, 1) by decide +kernel) (by decide) ?_
      refine Ev_iload_n hq_185 (show decode prog_7_method_60_code 197 = .ok (.iload_n 1, 1) by decide +kernel) rfl ?_
      refine Ev_imul hq_185 (show decode prog_7_method_60_code 198 = .ok (.imul, 1) by decide +kernel) ?_
      refine Ev_iconst (v := 3) hq_185 (show decode prog_7_method_60_code 199 = .ok (.iconst 3, 1) by decide +kernel) (by decide) ?_
      refine Ev_iadd hq_185 (show decode prog_7_method_60_code 200 = .ok (.iadd, 1) by decide +kernel) ?_
      refine Ev_iload hq_185 (show decode prog_7_method_60_code 201 = .ok (.iload 4, 2) by decide +kernel) rfl ?_
      obtain ⟨h15, k⟩ := k
      refine Ev_iast hq_185 (show decode prog_7_method_60_code 203 = .ok (.iastore, 1) by decide +kernel) (SGn hS (by decide)) (SGk hS rfl) (SGi hS rfl h15) ?_
      obtain ⟨I16, eI16⟩ : ∃ I16 : zI, I16 = z_up I 60 ((5 * x1) + 3).toNatClampNeg x4 := ⟨_, rfl⟩
      have k := k I16 eI16
      rw [← eI16]
      refine Ev_aload_n hq_185 (show decode prog_7_method_60_code 204 = .ok (.aload_n 0, 1) by decide +kernel) rfl ?_
      refine Ev_getR hq_185 (show decode prog_7_method_60_code 205 = .ok (.getfield 16, 3) by decide +kernel) rfl (SGn hS (by decide)) (SGk hS rfl) (by decide) rfl (SGr hS rfl) ?_
      refine Ev_iconst (v := 5) hq_185 (show decode prog_7_method_60_code 208 = .ok (.iconst 5, 1) by decide +kernel) (by decide) ?_
      refine Ev_iload_n hq_185 (show decode prog_7_method_60_code 209 = .ok (.iload_n 2, 1) by decide +kernel) rfl ?_
      refine Ev_imul hq_185 (show decode prog_7_method_60_code 210 = .ok (.imul, 1) by decide +kernel) ?_
      refine Ev_iconst (v := 3) hq_185 (show decode prog_7_method_60_code 211 = .ok (.iconst 3, 1) by decide +kernel) (by decide) ?_
      refine Ev_iadd hq_185 (show decode prog_7_method_60_code 212 = .ok (.iadd, 1) by decide +kernel) ?_
      refine Ev_iload hq_185 (show decode prog_7_method_60_code 213 = .ok (.iload 5, 2) by decide +kernel) rfl ?_
      obtain ⟨h17, k⟩ := k
      refine Ev_iast hq_185 (show decode prog_7_method_60_code 215 = .ok (.iastore, 1) by decide +kernel) (SGn hS (by decide)) (SGk hS rfl) (SGi hS rfl h17) ?_
      obtain ⟨I18, eI18⟩ : ∃ I18 : zI, I18 = z_up I16 60 ((5 * x2) + 3).toNatClampNeg x5 := ⟨_, rfl⟩
      have k := k I18 eI18
      rw [← eI18]
      refine Ev_iload hq_185 (show decode prog_7_method_60_code 216 = .ok (.iload 6, 2) by decide +kernel) rfl ?_
      refine Ev_iconst (v := 2) hq_185 (show decode prog_7_method_60_code 218 = .ok (.iconst 2, 1) by decide +kernel) (by decide) ?_
      refine Ev_icmp_ge (tgt := 226) hq_185 (show decode prog_7_method_60_code 219 = .ok (.if_icmp .ge 7, 3) by decide +kernel) (by decide) (fun c19 => ?_) (fun c19 => ?_)
      · have k := k.1 c19
        refine Ev_iload_n hq_185 (show decode prog_7_method_60_code 226 = .ok (.iload_n 3, 1) by decide +kernel) rfl ?_
        refine Ev_if_ne (tgt := 235) hq_185 (show decode prog_7_method_60_code 227 = .ok (.ifCond .ne 8, 3) by decide +kernel) (by decide) (fun c20 => ?_) (fun c20 => ?_)
        · have k := k.1 c20
          refine Ev_iload hq_185 (show decode prog_7_method_60_code 235 = .ok (.iload 8, 2) by decide +kernel) rfl ?_
          exact Ev_iret hq_185 (show decode prog_7_method_60_code 237 = .ok (.ireturn, 1) by decide +kernel) rfl k
        · have k := k.2 (Classical.not_not.mp c20)
          refine Ev_iload hq_185 (show decode prog_7_method_60_code 230 = .ok (.iload 7, 2) by decide +kernel) rfl ?_
          refine Ev_goto (tgt := 237) hq_185 (show decode prog_7_method_60_code 232 = .ok (.goto 5, 3) by decide +kernel) (by decide) ?_
          exact Ev_iret hq_185 (show decode prog_7_method_60_code 237 = .ok (.ireturn, 1) by decide +kernel) rfl k
      · have k := k.2 c19
        refine Ev_iconst (v := (-1)) hq_185 (show decode prog_7_method_60_code 222 = .ok (.iconst (-1), 1) by decide +kernel) (by decide) ?_
        refine Ev_goto (tgt := 237) hq_185 (show decode prog_7_method_60_code 223 = .ok (.goto 14, 3) by decide +kernel) (by decide) ?_
        exact Ev_iret hq_185 (show decode prog_7_method_60_code 237 = .ok (.ireturn, 1) by decide +kernel) rfl k
    · have k := k.2 c11
      refine Ev_iload hq_185 (show decode prog_7_method_60_code 70 = .ok (.iload 8, 2) by decide +kernel) rfl ?_
      refine Ev_iconst (v := 2) hq_185 (show decode prog_7_method_60_code 72 = .ok (.iconst 2, 1) by decide +kernel) (by decide) ?_
      refine Ev_irem hq_185 (show decode prog_7_method_60_code 73 = .ok (.irem, 1) by decide +kernel) (by decide) ?_
      refine Ev_if_ne (tgt := 81) hq_185 (show decode prog_7_method_60_code 74 = .ok (.ifCond .ne 7, 3) by decide +kernel) (by decide) (fun c21 => ?_) (fun c21 => ?_)
      · have k := k.1 c21
        refine Ev_iload_n hq_185 (show decode prog_7_method_60_code 81 = .ok (.iload_n 2, 1) by decide +kernel) rfl ?_
        refine Ev_istore (lo2 := [.ref 57, .int x1, .int x2, .int x3, .int x4, .int x5, .int x6, .int x7, .int x8, .int x2, v10]) hq_185 (show decode prog_7_method_60_code 82 = .ok (.istore 9, 2) by decide +kernel) (z_le rfl) rfl ?_
        refine Ev_aload_n hq_185 (show decode prog_7_method_60_code 84 = .ok (.aload_n 0, 1) by decide +kernel) rfl ?_
        refine Ev_iload hq_185 (show decode prog_7_method_60_code 85 = .ok (.iload 9, 2) by decide +kernel) rfl ?_
        obtain ⟨I22, h23, k⟩ := k
        refine Ev_virt (as := [.int x2]) hq_185 (show decode prog_7_method_60_code 87 = .ok (.invokevirtual 241, 3) by decide +kernel) rfl hq_178 rfl (z_le rfl) ⟨(SGn hS (by decide)), (SGk hS rfl), by decide⟩ h23 ?_
        refine Ev_aload_n hq_185 (show decode prog_7_method_60_code 90 = .ok (.aload_n 0, 1) by decide +kernel) rfl ?_
        refine Ev_getI hq_185 (show decode prog_7_method_60_code 91 = .ok (.getfield 232, 3) by decide +kernel) rfl (SGn hS (by decide)) (SGk hS rfl) (by decide) rfl ?_
        refine Ev_aload_n hq_185 (show decode prog_7_method_60_code 94 = .ok (.aload_n 0, 1) by decide +kernel) rfl ?_
        refine Ev_getR hq_185 (show decode prog_7_method_60_code 95 = .ok (.getfield 16, 3) by decide +kernel) rfl (SGn hS (by decide)) (SGk hS rfl) (by decide) rfl (SGr hS rfl) ?_
        refine Ev_iconst (v := 5) hq_185 (show decode prog_7_method_60_code 98 = .ok (.iconst 5, 1) by decide +kernel) (by decide) ?_
        refine Ev_iload hq_185 (show decode prog_7_method_60_code 99 = .ok (.iload 9, 2) by decide +kernel) rfl ?_
        refine Ev_imul hq_185 (show decode prog_7_method_60_code 101 = .ok (.imul, 1) by decide +kernel) ?_
        refine Ev_iconst (v := 3) hq_185 (show decode prog_7_method_60_code 102 = .ok (.iconst 3, 1) by decide +kernel) (by decide) ?_
        refine Ev_iadd hq_185 (show decode prog_7_method_60_code 103 = .ok (.iadd, 1) by decide +kernel) ?_
        obtain ⟨h24, k⟩ := k
        refine Ev_iald hq_185 (show decode prog_7_method_60_code 104 = .ok (.iaload, 1) by decide +kernel) (SGn hS (by decide)) (SGk hS rfl) (SGi hS rfl h24) ?_
        refine Ev_icmp_ne (tgt := 112) hq_185 (show decode prog_7_method_60_code 105 = .ok (.if_icmp .ne 7, 3) by decide +kernel) (by decide) (fun c25 => ?_) (fun c25 => ?_)
        · have k := k.1 c25
          refine Ev_iconst (v := 0) hq_185 (show decode prog_7_method_60_code 112 = .ok (.iconst 0, 1) by decide +kernel) (by decide) ?_
          refine Ev_istore (lo2 := [.ref 57, .int x1, .int x2, .int x3, .int x4, .int x5, .int x6, .int x7, .int x8, .int x2, .int 0]) hq_185 (show decode prog_7_method_60_code 113 = .ok (.istore 10, 2) by decide +kernel) (z_le rfl) rfl ?_
          refine Ev_iload hq_185 (show decode prog_7_method_60_code 115 = .ok (.iload 10, 2) by decide +kernel) rfl ?_
          refine Ev_if_eq (tgt := 127) hq_185 (show decode prog_7_method_60_code 117 = .ok (.ifCond .eq 10, 3) by decide +kernel) (by decide) (fun _ => ?_) (fun hz => absurd (by decide) hz)
          refine Ev_iconst (v := 0) hq_185 (show decode prog_7_method_60_code 127 = .ok (.iconst 0, 1) by decide +kernel) (by decide) ?_
          refine Ev_istore (lo2 := [.ref 57, .int x1, .int x2, .int x3, .int x4, .int x5, .int 0, .int x7, .int x8, .int x2, .int 0]) hq_185 (show decode prog_7_method_60_code 128 = .ok (.istore 6, 2) by decide +kernel) (z_le rfl) rfl ?_
          refine Ev_iload hq_185 (show decode prog_7_method_60_code 130 = .ok (.iload 7, 2) by decide +kernel) rfl ?_
          refine Ev_iload hq_185 (show decode prog_7_method_60_code 132 = .ok (.iload 10, 2) by decide +kernel) rfl ?_
          refine Ev_if_eq (tgt := 141) hq_185 (show decode prog_7_method_60_code 134 = .ok (.ifCond .eq 7, 3) by decide +kernel) (by decide) (fun _ => ?_) (fun hz => absurd (by decide) hz)
          refine Ev_iconst (v := 1) hq_185 (show decode prog_7_method_60_code 141 = .ok (.iconst 1, 1) by decide +kernel) (by decide) ?_
          refine Ev_iadd hq_185 (show decode prog_7_method_60_code 142 = .ok (.iadd, 1) by decide +kernel) ?_
          obtain ⟨y26, ey26⟩ : ∃ y26 : Int32, y26 = (x7 + 1) := ⟨_, rfl⟩
          have k := k y26 ey26
          rw [← ey26]
          refine Ev_istore (lo2 := [.ref 57, .int x1, .int x2, .int x3, .int x4, .int x5, .int 0, .int y26, .int x8, .int x2, .int 0]) hq_185 (show decode prog_7_method_60_code 143 = .ok (.istore 7, 2) by decide +kernel) (z_le rfl) rfl ?_
          refine Ev_aload_n hq_185 (show decode prog_7_method_60_code 145 = .ok (.aload_n 0, 1) by decide +kernel) rfl ?_
          refine Ev_getR hq_185 (show decode prog_7_method_60_code 146 = .ok (.getfield 16, 3) by decide +kernel) rfl (SGn hS (by decide)) (SGk hS rfl) (by decide) rfl (SGr hS rfl) ?_
          refine Ev_iconst (v := 5) hq_185 (show decode prog_7_method_60_code 149 = .ok (.iconst 5, 1) by decide +kernel) (by decide) ?_
          refine Ev_iload hq_185 (show decode prog_7_method_60_code 150 = .ok (.iload 9, 2) by decide +kernel) rfl ?_
          refine Ev_imul hq_185 (show decode prog_7_method_60_code 152 = .ok (.imul, 1) by decide +kernel) ?_
          refine Ev_iconst (v := 3) hq_185 (show decode prog_7_method_60_code 153 = .ok (.iconst 3, 1) by decide +kernel) (by decide) ?_
          refine Ev_iadd hq_185 (show decode prog_7_method_60_code 154 = .ok (.iadd, 1) by decide +kernel) ?_
          refine Ev_aload_n hq_185 (show decode prog_7_method_60_code 155 = .ok (.aload_n 0, 1) by decide +kernel) rfl ?_
          refine Ev_getI hq_185 (show decode prog_7_method_60_code 156 = .ok (.getfield 232, 3) by decide +kernel) rfl (SGn hS (by decide)) (SGk hS rfl) (by decide) rfl ?_
          obtain ⟨h27, k⟩ := k
          refine Ev_iast hq_185 (show decode prog_7_method_60_code 159 = .ok (.iastore, 1) by decide +kernel) (SGn hS (by decide)) (SGk hS rfl) (SGi hS rfl h27) ?_
          obtain ⟨I28, eI28⟩ : ∃ I28 : zI, I28 = z_up I22 60 ((5 * x2) + 3).toNatClampNeg (I22 57 35) := ⟨_, rfl⟩
          have k := k I28 eI28
          rw [← eI28]
          obtain ⟨y29, ey29⟩ : ∃ y29 : Int32, y29 = x8 + 1 := ⟨_, rfl⟩
          have k := k y29 ey29
          refine Ev_iinc (v := y29) (lo2 := [.ref 57, .int x1, .int x2, .int x3, .int x4, .int x5, .int 0, .int y26, .int y29, .int x2, .int 0]) hq_185 (show decode prog_7_method_60_code 160 = .ok (.iinc 8 1, 3) by decide +kernel) rfl (by rw [ey29]; rfl) rfl ?_
          refine Ev_goto (tgt := 57) hq_185 (show decode prog_7_method_60_code 163 = .ok (.goto (-106), 3) by decide +kernel) (by decide) ?_
          exact k
        · have k := k.2 (Classical.not_not.mp c25)
          refine Ev_iconst (v := 1) hq_185 (show decode prog_7_method_60_code 108 = .ok (.iconst 1, 1) by decide +kernel) (by decide) ?_
          refine Ev_goto (tgt := 113) hq_185 (show decode prog_7_method_60_code 109 = .ok (.goto 4, 3) by decide +kernel) (by decide) ?_
          refine Ev_istore (lo2 := [.ref 57, .int x1, .int x2, .int x3, .int x4, .int x5, .int x6, .int x7, .int x8, .int x2, .int 1]) hq_185 (show decode prog_7_method_60_code 113 = .ok (.istore 10, 2) by decide +kernel) (z_le rfl) rfl ?_
          refine Ev_iload hq_185 (show decode prog_7_method_60_code 115 = .ok (.iload 10, 2) by decide +kernel) rfl ?_
          refine Ev_if_eq (tgt := 127) hq_185 (show decode prog_7_method_60_code 117 = .ok (.ifCond .eq 10, 3) by decide +kernel) (by decide) (fun hz => absurd hz (by decide)) (fun _ => ?_)
          refine Ev_iload hq_185 (show decode prog_7_method_60_code 120 = .ok (.iload 6, 2) by decide +kernel) rfl ?_
          refine Ev_iconst (v := 1) hq_185 (show decode prog_7_method_60_code 122 = .ok (.iconst 1, 1) by decide +kernel) (by decide) ?_
          refine Ev_iadd hq_185 (show decode prog_7_method_60_code 123 = .ok (.iadd, 1) by decide +kernel) ?_
          refine Ev_goto (tgt := 128) hq_185 (show decode prog_7_method_60_code 124 = .ok (.goto 4, 3) by decide +kernel) (by decide) ?_
          obtain ⟨y30, ey30⟩ : ∃ y30 : Int32, y30 = (x6 + 1) := ⟨_, rfl⟩
          have k := k y30 ey30
          rw [← ey30]
          refine Ev_istore (lo2 := [.ref 57, .int x1, .int x2, .int x3, .int x4, .int x5, .int y30, .int x7, .int x8, .int x2, .int 1]) hq_185 (show decode prog_7_method_60_code 128 = .ok (.istore 6, 2) by decide +kernel) (z_le rfl) rfl ?_
          refine Ev_iload hq_185 (show decode prog_7_method_60_code 130 = .ok (.iload 7, 2) by decide +kernel) rfl ?_
          refine Ev_iload hq_185 (show decode prog_7_method_60_code 132 = .ok (.iload 10, 2) by decide +kernel) rfl ?_
          refine Ev_if_eq (tgt := 141) hq_185 (show decode prog_7_method_60_code 134 = .ok (.ifCond .eq 7, 3) by decide +kernel) (by decide) (fun hz => absurd hz (by decide)) (fun _ => ?_)
          refine Ev_iconst (v := 0) hq_185 (show decode prog_7_method_60_code 137 = .ok (.iconst 0, 1) by decide +kernel) (by decide) ?_
          refine Ev_goto (tgt := 142) hq_185 (show decode prog_7_method_60_code 138 = .ok (.goto 4, 3) by decide +kernel) (by decide) ?_
          refine Ev_iadd hq_185 (show decode prog_7_method_60_code 142 = .ok (.iadd, 1) by decide +kernel) ?_
          obtain ⟨y31, ey31⟩ : ∃ y31 : Int32, y31 = (x7 + 0) := ⟨_, rfl⟩
          have k := k y31 ey31
          rw [← ey31]
          refine Ev_istore (lo2 := [.ref 57, .int x1, .int x2, .int x3, .int x4, .int x5, .int y30, .int y31, .int x8, .int x2, .int 1]) hq_185 (show decode prog_7_method_60_code 143 = .ok (.istore 7, 2) by decide +kernel) (z_le rfl) rfl ?_
          refine Ev_aload_n hq_185 (show decode prog_7_method_60_code 145 = .ok (.aload_n 0, 1) by decide +kernel) rfl ?_
          refine Ev_getR hq_185 (show decode prog_7_method_60_code 146 = .ok (.getfield 16, 3) by decide +kernel) rfl (SGn hS (by decide)) (SGk hS rfl) (by decide) rfl (SGr hS rfl) ?_
          refine Ev_iconst (v := 5) hq_185 (show decode prog_7_method_60_code 149 = .ok (.iconst 5, 1) by decide +kernel) (by decide) ?_
          refine Ev_iload hq_185 (show decode prog_7_method_60_code 150 = .ok (.iload 9, 2) by decide +kernel) rfl ?_
          refine Ev_imul hq_185 (show decode prog_7_method_60_code 152 = .ok (.imul, 1) by decide +kernel) ?_
          refine Ev_iconst (v := 3) hq_185 (show decode prog_7_method_60_code 153 = .ok (.iconst 3, 1) by decide +kernel) (by decide) ?_
          refine Ev_iadd hq_185 (show decode prog_7_method_60_code 154 = .ok (.iadd, 1) by decide +kernel) ?_
          refine Ev_aload_n hq_185 (show decode prog_7_method_60_code 155 = .ok (.aload_n 0, 1) by decide +kernel) rfl ?_
          refine Ev_getI hq_185 (show decode prog_7_method_60_code 156 = .ok (.getfield 232, 3) by decide +kernel) rfl (SGn hS (by decide)) (SGk hS rfl) (by decide) rfl ?_
          obtain ⟨h32, k⟩ := k
          refine Ev_iast hq_185 (show decode prog_7_method_60_code 159 = .ok (.iastore, 1) by decide +kernel) (SGn hS (by decide)) (SGk hS rfl) (SGi hS rfl h32) ?_
          obtain ⟨I33, eI33⟩ : ∃ I33 : zI, I33 = z_up I22 60 ((5 * x2) + 3).toNatClampNeg (I22 57 35) := ⟨_, rfl⟩
          have k := k I33 eI33
          rw [← eI33]
          obtain ⟨y34, ey34⟩ : ∃ y34 : Int32, y34 = x8 + 1 := ⟨_, rfl⟩
          have k := k y34 ey34
          refine Ev_iinc (v := y34) (lo2 := [.ref 57, .int x1, .int x2, .int x3, .int x4, .int x5, .int y30, .int y31, .int y34, .int x2, .int 1]) hq_185 (show decode prog_7_method_60_code 160 = .ok (.iinc 8 1, 3) by decide +kernel) rfl (by rw [ey34]; rfl) rfl ?_
          refine Ev_goto (tgt := 57) hq_185 (show decode prog_7_method_60_code 163 = .ok (.goto (-106), 3) by decide +kernel) (by decide) ?_
          exact k
      · have k := k.2 (Classical.not_not.mp c21)
        refine Ev_iload_n hq_185 (show decode prog_7_method_60_code 77 = .ok (.iload_n 1, 1) by decide +kernel) rfl ?_
        refine Ev_goto (tgt := 82) hq_185 (show decode prog_7_method_60_code 78 = .ok (.goto 4, 3) by decide +kernel) (by decide) ?_
        refine Ev_istore (lo2 := [.ref 57, .int x1, .int x2, .int x3, .int x4, .int x5, .int x6, .int x7, .int x8, .int x1, v10]) hq_185 (show decode prog_7_method_60_code 82 = .ok (.istore 9, 2) by decide +kernel) (z_le rfl) rfl ?_
        refine Ev_aload_n hq_185 (show decode prog_7_method_60_code 84 = .ok (.aload_n 0, 1) by decide +kernel) rfl ?_
        refine Ev_iload hq_185 (show decode prog_7_method_60_code 85 = .ok (.iload 9, 2) by decide +kernel) rfl ?_
        obtain ⟨I35, h36, k⟩ := k
        refine Ev_virt (as := [.int x1]) hq_185 (show decode prog_7_method_60_code 87 = .ok (.invokevirtual 241, 3) by decide +kernel) rfl hq_178 rfl (z_le rfl) ⟨(SGn hS (by decide)), (SGk hS rfl), by decide⟩ h36 ?_
        refine Ev_aload_n hq_185 (show decode prog_7_method_60_code 90 = .ok (.aload_n 0, 1) by decide +kernel) rfl ?_
        refine Ev_getI hq_185 (show decode prog_7_method_60_code 91 = .ok (.getfield 232, 3) by decide +kernel) rfl (SGn hS (by decide)) (SGk hS rfl) (by decide) rfl ?_
        refine Ev_aload_n hq_185 (show decode prog_7_method_60_code 94 = .ok (.aload_n 0, 1) by decide +kernel) rfl ?_
        refine Ev_getR hq_185 (show decode prog_7_method_60_code 95 = .ok (.getfield 16, 3) by decide +kernel) rfl (SGn hS (by decide)) (SGk hS rfl) (by decide) rfl (SGr hS rfl) ?_
        refine Ev_iconst (v := 5) hq_185 (show decode prog_7_method_60_code 98 = .ok (.iconst 5, 1) by decide +kernel) (by decide) ?_
        refine Ev_iload hq_185 (show decode prog_7_method_60_code 99 = .ok (.iload 9, 2) by decide +kernel) rfl ?_
        refine Ev_imul hq_185 (show decode prog_7_method_60_code 101 = .ok (.imul, 1) by decide +kernel) ?_
        refine Ev_iconst (v := 3) hq_185 (show decode prog_7_method_60_code 102 = .ok (.iconst 3, 1) by decide +kernel) (by decide) ?_
        refine Ev_iadd hq_185 (show decode prog_7_method_60_code 103 = .ok (.iadd, 1) by decide +kernel) ?_
        obtain ⟨h37, k⟩ := k
        refine Ev_iald hq_185 (show decode prog_7_method_60_code 104 = .ok (.iaload, 1) by decide +kernel) (SGn hS (by decide)) (SGk hS rfl) (SGi hS rfl h37) ?_
        refine Ev_icmp_ne (tgt := 112) hq_185 (show decode prog_7_method_60_code 105 = .ok (.if_icmp .ne 7, 3) by decide +kernel) (by decide) (fun c38 => ?_) (fun c38 => ?_)
        · have k := k.1 c38
          refine Ev_iconst (v := 0) hq_185 (show decode prog_7_method_60_code 112 = .ok (.iconst 0, 1) by decide +kernel) (by decide) ?_
          refine Ev_istore (lo2 := [.ref 57, .int x1, .int x2, .int x3, .int x4, .int x5, .int x6, .int x7, .int x8, .int x1, .int 0]) hq_185 (show decode prog_7_method_60_code 113 = .ok (.istore 10, 2) by decide +kernel) (z_le rfl) rfl ?_
          refine Ev_iload hq_185 (show decode prog_7_method_60_code 115 = .ok (.iload 10, 2) by decide +kernel) rfl ?_
          refine Ev_if_eq (tgt := 127) hq_185 (show decode prog_7_method_60_code 117 = .ok (.ifCond .eq 10, 3) by decide +kernel) (by decide) (fun _ => ?_) (fun hz => absurd (by decide) hz)
          refine Ev_iconst (v := 0) hq_185 (show decode prog_7_method_60_code 127 = .ok (.iconst 0, 1) by decide +kernel) (by decide) ?_
          refine Ev_istore (lo2 := [.ref 57, .int x1, .int x2, .int x3, .int x4, .int x5, .int 0, .int x7, .int x8, .int x1, .int 0]) hq_185 (show decode prog_7_method_60_code 128 = .ok (.istore 6, 2) by decide +kernel) (z_le rfl) rfl ?_
          refine Ev_iload hq_185 (show decode prog_7_method_60_code 130 = .ok (.iload 7, 2) by decide +kernel) rfl ?_
          refine Ev_iload hq_185 (show decode prog_7_method_60_code 132 = .ok (.iload 10, 2) by decide +kernel) rfl ?_
          refine Ev_if_eq (tgt := 141) hq_185 (show decode prog_7_method_60_code 134 = .ok (.ifCond .eq 7, 3) by decide +kernel) (by decide) (fun _ => ?_) (fun hz => absurd (by decide) hz)
          refine Ev_iconst (v := 1) hq_185 (show decode prog_7_method_60_code 141 = .ok (.iconst 1, 1) by decide +kernel) (by decide) ?_
          refine Ev_iadd hq_185 (show decode prog_7_method_60_code 142 = .ok (.iadd, 1) by decide +kernel) ?_
          obtain ⟨y39, ey39⟩ : ∃ y39 : Int32, y39 = (x7 + 1) := ⟨_, rfl⟩
          have k := k y39 ey39
          rw [← ey39]
          refine Ev_istore (lo2 := [.ref 57, .int x1, .int x2, .int x3, .int x4, .int x5, .int 0, .int y39, .int x8, .int x1, .int 0]) hq_185 (show decode prog_7_method_60_code 143 = .ok (.istore 7, 2) by decide +kernel) (z_le rfl) rfl ?_
          refine Ev_aload_n hq_185 (show decode prog_7_method_60_code 145 = .ok (.aload_n 0, 1) by decide +kernel) rfl ?_
          refine Ev_getR hq_185 (show decode prog_7_method_60_code 146 = .ok (.getfield 16, 3) by decide +kernel) rfl (SGn hS (by decide)) (SGk hS rfl) (by decide) rfl (SGr hS rfl) ?_
          refine Ev_iconst (v := 5) hq_185 (show decode prog_7_method_60_code 149 = .ok (.iconst 5, 1) by decide +kernel) (by decide) ?_
          refine Ev_iload hq_185 (show decode prog_7_method_60_code 150 = .ok (.iload 9, 2) by decide +kernel) rfl ?_
          refine Ev_imul hq_185 (show decode prog_7_method_60_code 152 = .ok (.imul, 1) by decide +kernel) ?_
          refine Ev_iconst (v := 3) hq_185 (show decode prog_7_method_60_code 153 = .ok (.iconst 3, 1) by decide +kernel) (by decide) ?_
          refine Ev_iadd hq_185 (show decode prog_7_method_60_code 154 = .ok (.iadd, 1) by decide +kernel) ?_
          refine Ev_aload_n hq_185 (show decode prog_7_method_60_code 155 = .ok (.aload_n 0, 1) by decide +kernel) rfl ?_
          refine Ev_getI hq_185 (show decode prog_7_method_60_code 156 = .ok (.getfield 232, 3) by decide +kernel) rfl (SGn hS (by decide)) (SGk hS rfl) (by decide) rfl ?_
          obtain ⟨h40, k⟩ := k
          refine Ev_iast hq_185 (show decode prog_7_method_60_code 159 = .ok (.iastore, 1) by decide +kernel) (SGn hS (by decide)) (SGk hS rfl) (SGi hS rfl h40) ?_
          obtain ⟨I41, eI41⟩ : ∃ I41 : zI, I41 = z_up I35 60 ((5 * x1) + 3).toNatClampNeg (I35 57 35) := ⟨_, rfl⟩
          have k := k I41 eI41
          rw [← eI41]
          obtain ⟨y42, ey42⟩ : ∃ y42 : Int32, y42 = x8 + 1 := ⟨_, rfl⟩
          have k := k y42 ey42
          refine Ev_iinc (v := y42) (lo2 := [.ref 57, .int x1, .int x2, .int x3, .int x4, .int x5, .int 0, .int y39, .int y42, .int x1, .int 0]) hq_185 (show decode prog_7_method_60_code 160 = .ok (.iinc 8 1, 3) by decide +kernel) rfl (by rw [ey42]; rfl) rfl ?_
          refine Ev_goto (tgt := 57) hq_185 (show decode prog_7_method_60_code 163 = .ok (.goto (-106), 3) by decide +kernel) (by decide) ?_
          exact k
        · have k := k.2 (Classical.not_not.mp c38)
          refine Ev_iconst (v := 1) hq_185 (show decode prog_7_method_60_code 108 = .ok (.iconst 1, 1) by decide +kernel) (by decide) ?_
          refine Ev_goto (tgt := 113) hq_185 (show decode prog_7_method_60_code 109 = .ok (.goto 4, 3) by decide +kernel) (by decide) ?_
          refine Ev_istore (lo2 := [.ref 57, .int x1, .int x2, .int x3, .int x4, .int x5, .int x6, .int x7, .int x8, .int x1, .int 1]) hq_185 (show decode prog_7_method_60_code 113 = .ok (.istore 10, 2) by decide +kernel) (z_le rfl) rfl ?_
          refine Ev_iload hq_185 (show decode prog_7_method_60_code 115 = .ok (.iload 10, 2) by decide +kernel) rfl ?_
          refine Ev_if_eq (tgt := 127) hq_185 (show decode prog_7_method_60_code 117 = .ok (.ifCond .eq 10, 3) by decide +kernel) (by decide) (fun hz => absurd hz (by decide)) (fun _ => ?_)
          refine Ev_iload hq_185 (show decode prog_7_method_60_code 120 = .ok (.iload 6, 2) by decide +kernel) rfl ?_
          refine Ev_iconst (v := 1) hq_185 (show decode prog_7_method_60_code 122 = .ok (.iconst 1, 1) by decide +kernel) (by decide) ?_
          refine Ev_iadd hq_185 (show decode prog_7_method_60_code 123 = .ok (.iadd, 1) by decide +kernel) ?_
          refine Ev_goto (tgt := 128) hq_185 (show decode prog_7_method_60_code 124 = .ok (.goto 4, 3) by decide +kernel) (by decide) ?_
          obtain ⟨y43, ey43⟩ : ∃ y43 : Int32, y43 = (x6 + 1) := ⟨_, rfl⟩
          have k := k y43 ey43
          rw [← ey43]
          refine Ev_istore (lo2 := [.ref 57, .int x1, .int x2, .int x3, .int x4, .int x5, .int y43, .int x7, .int x8, .int x1, .int 1]) hq_185 (show decode prog_7_method_60_code 128 = .ok (.istore 6, 2) by decide +kernel) (z_le rfl) rfl ?_
          refine Ev_iload hq_185 (show decode prog_7_method_60_code 130 = .ok (.iload 7, 2) by decide +kernel) rfl ?_
          refine Ev_iload hq_185 (show decode prog_7_method_60_code 132 = .ok (.iload 10, 2) by decide +kernel) rfl ?_
          refine Ev_if_eq (tgt := 141) hq_185 (show decode prog_7_method_60_code 134 = .ok (.ifCond .eq 7, 3) by decide +kernel) (by decide) (fun hz => absurd hz (by decide)) (fun _ => ?_)
          refine Ev_iconst (v := 0) hq_185 (show decode prog_7_method_60_code 137 = .ok (.iconst 0, 1) by decide +kernel) (by decide) ?_
          refine Ev_goto (tgt := 142) hq_185 (show decode prog_7_method_60_code 138 = .ok (.goto 4, 3) by decide +kernel) (by decide) ?_
          refine Ev_iadd hq_185 (show decode prog_7_method_60_code 142 = .ok (.iadd, 1) by decide +kernel) ?_
          obtain ⟨y44, ey44⟩ : ∃ y44 : Int32, y44 = (x7 + 0) := ⟨_, rfl⟩
          have k := k y44 ey44
          rw [← ey44]
          refine Ev_istore (lo2 := [.ref 57, .int x1, .int x2, .int x3, .int x4, .int x5, .int y43, .int y44, .int x8, .int x1, .int 1]) hq_185 (show decode prog_7_method_60_code 143 = .ok (.istore 7, 2) by decide +kernel) (z_le rfl) rfl ?_
          refine Ev_aload_n hq_185 (show decode prog_7_method_60_code 145 = .ok (.aload_n 0, 1) by decide +kernel) rfl ?_
          refine Ev_getR hq_185 (show decode prog_7_method_60_code 146 = .ok (.getfield 16, 3) by decide +kernel) rfl (SGn hS (by decide)) (SGk hS rfl) (by decide) rfl (SGr hS rfl) ?_
          refine Ev_iconst (v := 5) hq_185 (show decode prog_7_method_60_code 149 = .ok (.iconst 5, 1) by decide +kernel) (by decide) ?_
          refine Ev_iload hq_185 (show decode prog_7_method_60_code 150 = .ok (.iload 9, 2) by decide +kernel) rfl ?_
          refine Ev_imul hq_185 (show decode prog_7_method_60_code 152 = .ok (.imul, 1) by decide +kernel) ?_
          refine Ev_iconst (v := 3) hq_185 (show decode prog_7_method_60_code 153 = .ok (.iconst 3, 1) by decide +kernel) (by decide) ?_
          refine Ev_iadd hq_185 (show decode prog_7_method_60_code 154 = .ok (.iadd, 1) by decide +kernel) ?_
          refine Ev_aload_n hq_185 (show decode prog_7_method_60_code 155 = .ok (.aload_n 0, 1) by decide +kernel) rfl ?_
          refine Ev_getI hq_185 (show decode prog_7_method_60_code 156 = .ok (.getfield 232, 3) by decide +kernel) rfl (SGn hS (by decide)) (SGk hS rfl) (by decide) rfl ?_
          obtain ⟨h45, k⟩ := k
          refine Ev_iast hq_185 (show decode prog_7_method_60_code 159 = .ok (.iastore, 1) by decide +kernel) (SGn hS (by decide)) (SGk hS rfl) (SGi hS rfl h45) ?_
          obtain ⟨I46, eI46⟩ : ∃ I46 : zI, I46 = z_up I35 60 ((5 * x1) + 3).toNatClampNeg (I35 57 35) := ⟨_, rfl⟩
          have k := k I46 eI46
          rw [← eI46]
          obtain ⟨y47, ey47⟩ : ∃ y47 : Int32, y47 = x8 + 1 := ⟨_, rfl⟩
          have k := k y47 ey47
          refine Ev_iinc (v := y47) (lo2 := [.ref 57, .int x1, .int x2, .int x3, .int x4, .int x5, .int y43, .int y44, .int y47, .int x1, .int 1]) hq_185 (show decode prog_7_method_60_code 160 = .ok (.iinc 8 1, 3) by decide +kernel) rfl (by rw [ey47]; rfl) rfl ?_
          refine Ev_goto (tgt := 57) hq_185 (show decode prog_7_method_60_code 163 = .ok (.goto (-106), 3) by decide +kernel) (by decide) ?_
          exact k
