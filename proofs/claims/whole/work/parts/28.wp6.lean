set_option maxRecDepth 20000 in
theorem wp_Z_in {X : Nat × (Nat → Int32)} {d : Nat} {G : zG} {I : zI} {res : Option Value × zG × zI} (x0 : Int32) (x1 : Int32) (x2 : Int32) 
    (k : (x0 < x1 → res = (some (.int 0), G, I)) ∧ (¬ x0 < x1 → (x2 < x0 → res = (some (.int 0), G, I)) ∧ (¬ x2 < x0 → res = (some (.int 1), G, I)))) :
    Ev X d 131 0 [.int x0, .int x1, .int x2] [] G I res := by
  refine Ev_iload_n hq_131 (show decode prog_7_method_3_code 0 = .ok (.iload_n 0, 1) by decide +kernel) rfl ?_
  refine Ev_iload_n hq_131 (show decode prog_7_method_3_code 1 = .ok (.iload_n 1, 1) by decide +kernel) rfl ?_
  refine Ev_icmp_lt (tgt := 14) hq_131 (show decode prog_7_method_3_code 2 = .ok (.if_icmp .lt 12, 3) by decide +kernel) (by decide) (fun c1 => ?_) (fun c1 => ?_)
  · have k := k.1 c1
    refine Ev_iconst (v := 0) hq_131 (show decode prog_7_method_3_code 14 = .ok (.iconst 0, 1) by decide +kernel) (by decide) ?_
    exact Ev_iret hq_131 (show decode prog_7_method_3_code 15 = .ok (.ireturn, 1) by decide +kernel) rfl k
  · have k := k.2 c1
    refine Ev_iload_n hq_131 (show decode prog_7_method_3_code 5 = .ok (.iload_n 0, 1) by decide +kernel) rfl ?_
    refine Ev_iload_n hq_131 (show decode prog_7_method_3_code 6 = .ok (.iload_n 2, 1) by decide +kernel) rfl ?_
    refine Ev_icmp_gt (tgt := 14) hq_131 (show decode prog_7_method_3_code 7 = .ok (.if_icmp .gt 7, 3) by decide +kernel) (by decide) (fun c2 => ?_) (fun c2 => ?_)
    · have k := k.1 c2
      refine Ev_iconst (v := 0) hq_131 (show decode prog_7_method_3_code 14 = .ok (.iconst 0, 1) by decide +kernel) (by decide) ?_
      exact Ev_iret hq_131 (show decode prog_7_method_3_code 15 = .ok (.ireturn, 1) by decide +kernel) rfl k
    · have k := k.2 c2
      refine Ev_iconst (v := 1) hq_131 (show decode prog_7_method_3_code 10 = .ok (.iconst 1, 1) by decide +kernel) (by decide) ?_
      refine Ev_goto (tgt := 15) hq_131 (show decode prog_7_method_3_code 11 = .ok (.goto 4, 3) by decide +kernel) (by decide) ?_
      exact Ev_iret hq_131 (show decode prog_7_method_3_code 15 = .ok (.ireturn, 1) by decide +kernel) rfl k
set_option maxRecDepth 20000 in
theorem wp_Z_wordFrom {X : Nat × (Nat → Int32)} {d : Nat} {G : zG} {I : zI} {res : Option Value × zG × zI} (x1 : Int32) (x2 : Int32) 
    (k : Ev X d 132 2 [.ref 57, .int x1, .int x2, .int 0, zU, zU] [] G I res) :
    Ev X d 132 0 [.ref 57, .int x1, .int x2, zU, zU, zU] [] G I res := by
  refine Ev_iconst (v := 0) hq_132 (show decode prog_7_method_13_code 0 = .ok (.iconst 0, 1) by decide +kernel) (by decide) ?_
  refine Ev_istore_n (lo2 := [.ref 57, .int x1, .int x2, .int 0, zU, zU]) hq_132 (show decode prog_7_method_13_code 1 = .ok (.istore_n 3, 1) by decide +kernel) (z_le rfl) rfl ?_
  exact k
set_option maxRecDepth 20000 in
theorem wp_Z_wordFrom_2 {X : Nat × (Nat → Int32)} {d : Nat} {G : zG} {I : zI} {res : Option Value × zG × zI} (x1 : Int32) (x2 : Int32) (x3 : Int32) (v4 : Value) (cv4 : v4.category = 1) (v5 : Value) (cv5 : v5.category = 1) 
    (k : (12 ≤ x3 → res = (some (.int 12), G, I)) ∧ (¬ 12 ≤ x3 → (8 < (x2 - x1) → Ev X d 132 26 [.ref 57, .int x1, .int x2, .int x3, .int 0, .int 0] [] G I res) ∧ (¬ 8 < (x2 - x1) → Ev X d 132 26 [.ref 57, .int x1, .int x2, .int x3, .int 1, .int 0] [] G I res))) :
    Ev X d 132 2 [.ref 57, .int x1, .int x2, .int x3, v4, v5] [] G I res := by
  refine Ev_iload_n hq_132 (show decode prog_7_method_13_code 2 = .ok (.iload_n 3, 1) by decide +kernel) rfl ?_
  refine Ev_bipush (v := 12) hq_132 (show decode prog_7_method_13_code 3 = .ok (.bipush 12, 2) by decide +kernel) (by decide) ?_
  refine Ev_icmp_ge (tgt := 101) hq_132 (show decode prog_7_method_13_code 5 = .ok (.if_icmp .ge 96, 3) by decide +kernel) (by decide) (fun c1 => ?_) (fun c1 => ?_)
  · have k := k.1 c1
    refine Ev_bipush (v := 12) hq_132 (show decode prog_7_method_13_code 101 = .ok (.bipush 12, 2) by decide +kernel) (by decide) ?_
    exact Ev_iret hq_132 (show decode prog_7_method_13_code 103 = .ok (.ireturn, 1) by decide +kernel) rfl k
  · have k := k.2 c1
    refine Ev_iload_n hq_132 (show decode prog_7_method_13_code 8 = .ok (.iload_n 2, 1) by decide +kernel) rfl ?_
    refine Ev_iload_n hq_132 (show decode prog_7_method_13_code 9 = .ok (.iload_n 1, 1) by decide +kernel) rfl ?_
    refine Ev_isub hq_132 (show decode prog_7_method_13_code 10 = .ok (.isub, 1) by decide +kernel) ?_
    refine Ev_bipush (v := 8) hq_132 (show decode prog_7_method_13_code 11 = .ok (.bipush 8, 2) by decide +kernel) (by decide) ?_
    refine Ev_icmp_gt (tgt := 20) hq_132 (show decode prog_7_method_13_code 13 = .ok (.if_icmp .gt 7, 3) by decide +kernel) (by decide) (fun c2 => ?_) (fun c2 => ?_)
    · have k := k.1 c2
      refine Ev_iconst (v := 0) hq_132 (show decode prog_7_method_13_code 20 = .ok (.iconst 0, 1) by decide +kernel) (by decide) ?_
      refine Ev_istore (lo2 := [.ref 57, .int x1, .int x2, .int x3, .int 0, v5]) hq_132 (show decode prog_7_method_13_code 21 = .ok (.istore 4, 2) by decide +kernel) (z_le rfl) rfl ?_
      refine Ev_iconst (v := 0) hq_132 (show decode prog_7_method_13_code 23 = .ok (.iconst 0, 1) by decide +kernel) (by decide) ?_
      refine Ev_istore (lo2 := [.ref 57, .int x1, .int x2, .int x3, .int 0, .int 0]) hq_132 (show decode prog_7_method_13_code 24 = .ok (.istore 5, 2) by decide +kernel) (z_le rfl) rfl ?_
      exact k
    · have k := k.2 c2
      refine Ev_iconst (v := 1) hq_132 (show decode prog_7_method_13_code 16 = .ok (.iconst 1, 1) by decide +kernel) (by decide) ?_
      refine Ev_goto (tgt := 21) hq_132 (show decode prog_7_method_13_code 17 = .ok (.goto 4, 3) by decide +kernel) (by decide) ?_
      refine Ev_istore (lo2 := [.ref 57, .int x1, .int x2, .int x3, .int 1, v5]) hq_132 (show decode prog_7_method_13_code 21 = .ok (.istore 4, 2) by decide +kernel) (z_le rfl) rfl ?_
      refine Ev_iconst (v := 0) hq_132 (show decode prog_7_method_13_code 23 = .ok (.iconst 0, 1) by decide +kernel) (by decide) ?_
      refine Ev_istore (lo2 := [.ref 57, .int x1, .int x2, .int x3, .int 1, .int 0]) hq_132 (show decode prog_7_method_13_code 24 = .ok (.istore 5, 2) by decide +kernel) (z_le rfl) rfl ?_
      exact k
set_option maxRecDepth 20000 in
theorem wp_Z_wordFrom_26 {X : Nat × (Nat → Int32)} {d : Nat} {G : zG} {I : zI} {res : Option Value × zG × zI} (x1 : Int32) (x2 : Int32) (x3 : Int32) (x4 : Int32) (x5 : Int32) (hS : SG G) 
    (k : (8 ≤ x5 → (x4 = 0 → ∀ y3 : Int32, y3 = x3 + 1 → Ev X d 132 2 [.ref 57, .int x1, .int x2, .int y3, .int x4, .int x5] [] G I res) ∧ (¬ x4 = 0 → res = (some (.int x3), G, I))) ∧ (¬ 8 ≤ x5 → (x4 = 0 → (x4 = 0 → ∀ y6 : Int32, y6 = x3 + 1 → Ev X d 132 2 [.ref 57, .int x1, .int x2, .int y6, .int x4, .int x5] [] G I res) ∧ (¬ x4 = 0 → res = (some (.int x3), G, I))) ∧ (¬ x4 = 0 → z_inr ((8 * x3) + x5) 96 ∧ ((x2 ≤ (x1 + x5) → (¬ (I 69 ((8 * x3) + x5).toNatClampNeg) = 32 → ∀ y10 : Int32, y10 = x5 + 1 → Ev X d 132 26 [.ref 57, .int x1, .int x2, .int x3, .int 0, .int y10] [] G I res) ∧ ((I 69 ((8 * x3) + x5).toNatClampNeg) = 32 → ∀ y11 : Int32, y11 = x5 + 1 → Ev X d 132 26 [.ref 57, .int x1, .int x2, .int x3, .int 1, .int y11] [] G I res)) ∧ (¬ x2 ≤ (x1 + x5) → z_inr (x1 + x5) 160 ∧ ((¬ (I 69 ((8 * x3) + x5).toNatClampNeg) = (I 61 (x1 + x5).toNatClampNeg) → ∀ y14 : Int32, y14 = x5 + 1 → Ev X d 132 26 [.ref 57, .int x1, .int x2, .int x3, .int 0, .int y14] [] G I res) ∧ ((I 69 ((8 * x3) + x5).toNatClampNeg) = (I 61 (x1 + x5).toNatClampNeg) → ∀ y15 : Int32, y15 = x5 + 1 → Ev X d 132 26 [.ref 57, .int x1, .int x2, .int x3, .int 1, .int y15] [] G I res))))))) :
    Ev X d 132 26 [.ref 57, .int x1, .int x2, .int x3, .int x4, .int x5] [] G I res := by
  refine Ev_iload hq_132 (show decode prog_7_method_13_code 26 = .ok (.iload 5, 2) by decide +kernel) rfl ?_
  refine Ev_bipush (v := 8) hq_132 (show decode prog_7_method_13_code 28 = .ok (.bipush 8, 2) by decide +kernel) (by decide) ?_
  refine Ev_icmp_ge (tgt := 88) hq_132 (show decode prog_7_method_13_code 30 = .ok (.if_icmp .ge 58, 3) by decide +kernel) (by decide) (fun c1 => ?_) (fun c1 => ?_)
  · have k := k.1 c1
    refine Ev_iload hq_132 (show decode prog_7_method_13_code 88 = .ok (.iload 4, 2) by decide +kernel) rfl ?_
    refine Ev_if_eq (tgt := 95) hq_132 (show decode prog_7_method_13_code 90 = .ok (.ifCond .eq 5, 3) by decide +kernel) (by decide) (fun c2 => ?_) (fun c2 => ?_)
    · have k := k.1 c2
      obtain ⟨y3, ey3⟩ : ∃ y3 : Int32, y3 = x3 + 1 := ⟨_, rfl⟩
      have k := k y3 ey3
      refine Ev_iinc (v := y3) (lo2 := [.ref 57, .int x1, .int x2, .int y3, .int x4, .int x5]) hq_132 (show decode prog_7_method_13_code 95 = .ok (.iinc 3 1, 3) by decide +kernel) rfl (by rw [ey3]; rfl) rfl ?_
      refine Ev_goto (tgt := 2) hq_132 (show decode prog_7_method_13_code 98 = .ok (.goto (-96), 3) by decide +kernel) (by decide) ?_
      exact k
    · have k := k.2 c2
      refine Ev_iload_n hq_132 (show decode prog_7_method_13_code 93 = .ok (.iload_n 3, 1) by decide +kernel) rfl ?_
      exact Ev_iret hq_132 (show decode prog_7_method_13_code 94 = .ok (.ireturn, 1) by decide +kernel) rfl k
  · have k := k.2 c1
    refine Ev_iload hq_132 (show decode prog_7_method_13_code 33 = .ok (.iload 4, 2) by decide +kernel) rfl ?_
    refine Ev_if_eq (tgt := 88) hq_132 (show decode prog_7_method_13_code 35 = .ok (.ifCond .eq 53, 3) by decide +kernel) (by decide) (fun c4 => ?_) (fun c4 => ?_)
    · have k := k.1 c4
      refine Ev_iload hq_132 (show decode prog_7_method_13_code 88 = .ok (.iload 4, 2) by decide +kernel) rfl ?_
      refine Ev_if_eq (tgt := 95) hq_132 (show decode prog_7_method_13_code 90 = .ok (.ifCond .eq 5, 3) by decide +kernel) (by decide) (fun c5 => ?_) (fun c5 => ?_)
      · have k := k.1 c5
        obtain ⟨y6, ey6⟩ : ∃ y6 : Int32, y6 = x3 + 1 := ⟨_, rfl⟩
        have k := k y6 ey6
        refine Ev_iinc (v := y6) (lo2 := [.ref 57, .int x1, .int x2, .int y6, .int x4, .int x5]) hq_132 (show decode prog_7_method_13_code 95 = .ok (.iinc 3 1, 3) by decide +kernel) rfl (by rw [ey6]; rfl) rfl ?_
        refine Ev_goto (tgt := 2) hq_132 (show decode prog_7_method_13_code 98 = .ok (.goto (-96), 3) by decide +kernel) (by decide) ?_
        exact k
      · have k := k.2 c5
        refine Ev_iload_n hq_132 (show decode prog_7_method_13_code 93 = .ok (.iload_n 3, 1) by decide +kernel) rfl ?_
        exact Ev_iret hq_132 (show decode prog_7_method_13_code 94 = .ok (.ireturn, 1) by decide +kernel) rfl k
    · have k := k.2 c4
      refine Ev_aload_n hq_132 (show decode prog_7_method_13_code 38 = .ok (.aload_n 0, 1) by decide +kernel) rfl ?_
      refine Ev_getR hq_132 (show decode prog_7_method_13_code 39 = .ok (.getfield 43, 3) by decide +kernel) rfl (SGn hS (by decide)) (SGk hS rfl) (by decide) rfl (SGr hS rfl) ?_
      refine Ev_bipush (v := 8) hq_132 (show decode prog_7_method_13_code 42 = .ok (.bipush 8, 2) by decide +kernel) (by decide) ?_
      refine Ev_iload_n hq_132 (show decode prog_7_method_13_code 44 = .ok (.iload_n 3, 1) by decide +kernel) rfl ?_
      refine Ev_imul hq_132 (show decode prog_7_method_13_code 45 = .ok (.imul, 1) by decide +kernel) ?_
      refine Ev_iload hq_132 (show decode prog_7_method_13_code 46 = .ok (.iload 5, 2) by decide +kernel) rfl ?_
      refine Ev_iadd hq_132 (show decode prog_7_method_13_code 48 = .ok (.iadd, 1) by decide +kernel) ?_
      obtain ⟨h7, k⟩ := k
      refine Ev_iald hq_132 (show decode prog_7_method_13_code 49 = .ok (.iaload, 1) by decide +kernel) (SGn hS (by decide)) (SGk hS rfl) (SGi hS rfl h7) ?_
      refine Ev_iload_n hq_132 (show decode prog_7_method_13_code 50 = .ok (.iload_n 1, 1) by decide +kernel) rfl ?_
      refine Ev_iload hq_132 (show decode prog_7_method_13_code 51 = .ok (.iload 5, 2) by decide +kernel) rfl ?_
      refine Ev_iadd hq_132 (show decode prog_7_method_13_code 53 = .ok (.iadd, 1) by decide +kernel) ?_
      refine Ev_iload_n hq_132 (show decode prog_7_method_13_code 54 = .ok (.iload_n 2, 1) by decide +kernel) rfl ?_
      refine Ev_icmp_ge (tgt := 70) hq_132 (show decode prog_7_method_13_code 55 = .ok (.if_icmp .ge 15, 3) by decide +kernel) (by decide) (fun c8 => ?_) (fun c8 => ?_)
      · have k := k.1 c8
        refine Ev_bipush (v := 32) hq_132 (show decode prog_7_method_13_code 70 = .ok (.bipush 32, 2) by decide +kernel) (by decide) ?_
        refine Ev_icmp_ne (tgt := 79) hq_132 (show decode prog_7_method_13_code 72 = .ok (.if_icmp .ne 7, 3) by decide +kernel) (by decide) (fun c9 => ?_) (fun c9 => ?_)
        · have k := k.1 c9
          refine Ev_iconst (v := 0) hq_132 (show decode prog_7_method_13_code 79 = .ok (.iconst 0, 1) by decide +kernel) (by decide) ?_
          refine Ev_istore (lo2 := [.ref 57, .int x1, .int x2, .int x3, .int 0, .int x5]) hq_132 (show decode prog_7_method_13_code 80 = .ok (.istore 4, 2) by decide +kernel) (z_le rfl) rfl ?_
          obtain ⟨y10, ey10⟩ : ∃ y10 : Int32, y10 = x5 + 1 := ⟨_, rfl⟩
          have k := k y10 ey10
          refine Ev_iinc (v := y10) (lo2 := [.ref 57, .int x1, .int x2, .int x3, .int 0, .int y10]) hq_132 (show decode prog_7_method_13_code 82 = .ok (.iinc 5 1, 3) by decide +kernel) rfl (by rw [ey10]; rfl) rfl ?_
          refine Ev_goto (tgt := 26) hq_132 (show decode prog_7_method_13_code 85 = .ok (.goto (-59), 3) by decide +kernel) (by decide) ?_
          exact k
        · have k := k.2 (Classical.not_not.mp c9)
          refine Ev_iconst (v := 1) hq_132 (show decode prog_7_method_13_code 75 = .ok (.iconst 1, 1) by decide +kernel) (by decide) ?_
          refine Ev_goto (tgt := 80) hq_132 (show decode prog_7_method_13_code 76 = .ok (.goto 4, 3) by decide +kernel) (by decide) ?_
          refine Ev_istore (lo2 := [.ref 57, .int x1, .int x2, .int x3, .int 1, .int x5]) hq_132 (show decode prog_7_method_13_code 80 = .ok (.istore 4, 2) by decide +kernel) (z_le rfl) rfl ?_
          obtain ⟨y11, ey11⟩ : ∃ y11 : Int32, y11 = x5 + 1 := ⟨_, rfl⟩
          have k := k y11 ey11
          refine Ev_iinc (v := y11) (lo2 := [.ref 57, .int x1, .int x2, .int x3, .int 1, .int y11]) hq_132 (show decode prog_7_method_13_code 82 = .ok (.iinc 5 1, 3) by decide +kernel) rfl (by rw [ey11]; rfl) rfl ?_
          refine Ev_goto (tgt := 26) hq_132 (show decode prog_7_method_13_code 85 = .ok (.goto (-59), 3) by decide +kernel) (by decide) ?_
          exact k
      · have k := k.2 c8
        refine Ev_aload_n hq_132 (show decode prog_7_method_13_code 58 = .ok (.aload_n 0, 1) by decide +kernel) rfl ?_
        refine Ev_getR hq_132 (show decode prog_7_method_13_code 59 = .ok (.getfield 19, 3) by decide +kernel) rfl (SGn hS (by decide)) (SGk hS rfl) (by decide) rfl (SGr hS rfl) ?_
        refine Ev_iload_n hq_132 (show decode prog_7_method_13_code 62 = .ok (.iload_n 1, 1) by decide +kernel) rfl ?_
        refine Ev_iload hq_132 (show decode prog_7_method_13_code 63 = .ok (.iload 5, 2) by decide +kernel) rfl ?_
        refine Ev_iadd hq_132 (show decode prog_7_method_13_code 65 = .ok (.iadd, 1) by decide +kernel) ?_
        obtain ⟨h12, k⟩ := k
        refine Ev_iald hq_132 (show decode prog_7_method_13_code 66 = .ok (.iaload, 1) by decide +kernel) (SGn hS (by decide)) (SGk hS rfl) (SGi hS rfl h12) ?_
        refine Ev_goto (tgt := 72) hq_132 (show decode prog_7_method_13_code 67 = .ok (.goto 5, 3) by decide +kernel) (by decide) ?_
        refine Ev_icmp_ne (tgt := 79) hq_132 (show decode prog_7_method_13_code 72 = .ok (.if_icmp .ne 7, 3) by decide +kernel) (by decide) (fun c13 => ?_) (fun c13 => ?_)
        · have k := k.1 c13
          refine Ev_iconst (v := 0) hq_132 (show decode prog_7_method_13_code 79 = .ok (.iconst 0, 1) by decide +kernel) (by decide) ?_
          refine Ev_istore (lo2 := [.ref 57, .int x1, .int x2, .int x3, .int 0, .int x5]) hq_132 (show decode prog_7_method_13_code 80 = .ok (.istore 4, 2) by decide +kernel) (z_le rfl) rfl ?_
          obtain ⟨y14, ey14⟩ : ∃ y14 : Int32, y14 = x5 + 1 := ⟨_, rfl⟩
          have k := k y14 ey14
          refine Ev_iinc (v := y14) (lo2 := [.ref 57, .int x1, .int x2, .int x3, .int 0, .int y14]) hq_132 (show decode prog_7_method_13_code 82 = .ok (.iinc 5 1, 3) by decide +kernel) rfl (by rw [ey14]; rfl) rfl ?_
          refine Ev_goto (tgt := 26) hq_132 (show decode prog_7_method_13_code 85 = .ok (.goto (-59), 3) by decide +kernel) (by decide) ?_
          exact k
        · have k := k.2 (Classical.not_not.mp c13)
          refine Ev_iconst (v := 1) hq_132 (show decode prog_7_method_13_code 75 = .ok (.iconst 1, 1) by decide +kernel) (by decide) ?_
          refine Ev_goto (tgt := 80) hq_132 (show decode prog_7_method_13_code 76 = .ok (.goto 4, 3) by decide +kernel) (by decide) ?_
          refine Ev_istore (lo2 := [.ref 57, .int x1, .int x2, .int x3, .int 1, .int x5]) hq_132 (show decode prog_7_method_13_code 80 = .ok (.istore 4, 2) by decide +kernel) (z_le rfl) rfl ?_
          obtain ⟨y15, ey15⟩ : ∃ y15 : Int32, y15 = x5 + 1 := ⟨_, rfl⟩
          have k := k y15 ey15
          refine Ev_iinc (v := y15) (lo2 := [.ref 57, .int x1, .int x2, .int x3, .int 1, .int y15]) hq_132 (show decode prog_7_method_13_code 82 = .ok (.iinc 5 1, 3) by decide +kernel) rfl (by rw [ey15]; rfl) rfl ?_
          refine Ev_goto (tgt := 26) hq_132 (show decode prog_7_method_13_code 85 = .ok (.goto (-59), 3) by decide +kernel) (by decide) ?_
          exact k
set_option maxRecDepth 20000 in
theorem wp_Z_eRead {X : Nat × (Nat → Int32)} {d : Nat} {G : zG} {I : zI} {res : Option Value × zG × zI}  (hS : SG G) 
    (k : (∀ I1 : zI, I1 = z_up I 57 24 0 → (∀ I2 : zI, I2 = z_up I1 57 25 0 → Ev X d 133 14 [.ref 57, .int 1, .int 1, zU] [] G I2 res))) :
    Ev X d 133 0 [.ref 57, zU, zU, zU] [] G I res := by
  refine Ev_aload_n hq_133 (show decode prog_7_method_22_code 0 = .ok (.aload_n 0, 1) by decide +kernel) rfl ?_
  refine Ev_iconst (v := 0) hq_133 (show decode prog_7_method_22_code 1 = .ok (.iconst 0, 1) by decide +kernel) (by decide) ?_
  refine Ev_putI hq_133 (show decode prog_7_method_22_code 2 = .ok (.putfield 129, 3) by decide +kernel) rfl (SGn hS (by decide)) (SGk hS rfl) (by decide) (by decide) rfl (fun hz => by cases hz) ?_
  obtain ⟨I1, eI1⟩ : ∃ I1 : zI, I1 = z_up I 57 24 0 := ⟨_, rfl⟩
  have k := k I1 eI1
  rw [← eI1]
  refine Ev_aload_n hq_133 (show decode prog_7_method_22_code 5 = .ok (.aload_n 0, 1) by decide +kernel) rfl ?_
  refine Ev_iconst (v := 0) hq_133 (show decode prog_7_method_22_code 6 = .ok (.iconst 0, 1) by decide +kernel) (by decide) ?_
  refine Ev_putI hq_133 (show decode prog_7_method_22_code 7 = .ok (.putfield 136, 3) by decide +kernel) rfl (SGn hS (by decide)) (SGk hS rfl) (by decide) (by decide) rfl (fun hz => by cases hz) ?_
  obtain ⟨I2, eI2⟩ : ∃ I2 : zI, I2 = z_up I1 57 25 0 := ⟨_, rfl⟩
  have k := k I2 eI2
  rw [← eI2]
  refine Ev_iconst (v := 1) hq_133 (show decode prog_7_method_22_code 10 = .ok (.iconst 1, 1) by decide +kernel) (by decide) ?_
  refine Ev_istore_n (lo2 := [.ref 57, .int 1, zU, zU]) hq_133 (show decode prog_7_method_22_code 11 = .ok (.istore_n 1, 1) by decide +kernel) (z_le rfl) rfl ?_
  refine Ev_iconst (v := 1) hq_133 (show decode prog_7_method_22_code 12 = .ok (.iconst 1, 1) by decide +kernel) (by decide) ?_
  refine Ev_istore_n (lo2 := [.ref 57, .int 1, .int 1, zU]) hq_133 (show decode prog_7_method_22_code 13 = .ok (.istore_n 2, 1) by decide +kernel) (z_le rfl) rfl ?_
  exact k
set_option maxRecDepth 20000 in
theorem wp_Z_eRead_14 {X : Nat × (Nat → Int32)} {d : Nat} {G : zG} {I : zI} {res : Option Value × zG × zI} (x1 : Int32) (x2 : Int32) (v3 : Value) (cv3 : v3.category = 1) (hS : SG G) 
    (k : ∃ (I1 : zI), Cv X d 130 [.ref 57] G I (none, G, I1) ∧ ((x1 = 0 → (¬ (I1 57 20) = 59 → (¬ (I1 57 20) = 41 → ∃ (r8 : Int32) (I6 : zI), Cv X d 139 [.ref 57] G I1 (some (.int r8), G, I6) ∧ ((r8 = (-1) → res = (some (.int 0), G, I6)) ∧ (¬ r8 = (-1) → ∃ (r12 : Int32) (I10 : zI), Cv X d 140 [.ref 57, .int r8] G I6 (some (.int r12), G, I10) ∧ ((¬ r12 = 0 → (12 < r8 → Ev X (d + 1) 133 14 [.ref 57, .int 1, .int 0, .int r8] [] G I10 res) ∧ (¬ 12 < r8 → Ev X (d + 1) 133 14 [.ref 57, .int 1, .int 1, .int r8] [] G I10 res)) ∧ (r12 = 0 → res = (some (.int 0), G, I10)))))) ∧ ((I1 57 20) = 41 → ∃ (I15 : zI), Cv X d 135 [.ref 57, .int 1] G I1 (none, G, I15) ∧ ((¬ (I15 57 24) = 0 → (∀ I18 : zI, I18 = z_up I15 57 24 ((I15 57 24) - 1) → (∀ I19 : zI, I19 = z_up I18 57 25 ((I18 57 25) - 1) → ∃ (I20 : zI), Cv X d 135 [.ref 57, .int 7] G I19 (none, G, I20) ∧ (Ev X (d + 1) 133 14 [.ref 57, .int x1, .int x2, v3] [] G I20 res)))) ∧ ((I15 57 24) = 0 → res = (some (.int 0), G, I15))))) ∧ ((I1 57 20) = 59 → ∃ (I22 : zI), Cv X d 135 [.ref 57, .int 1] G I1 (none, G, I22) ∧ ((¬ (I22 57 24) = 0 → res = (some (.int 0), G, I22)) ∧ ((I22 57 24) = 0 → res = (some (.int 1), G, I22))))) ∧ (¬ x1 = 0 → ((I1 57 20) = 1 → (¬ (I1 57 20) = 1 → ∃ (I27 : zI), Cv X d 134 [.ref 57, .int (I1 57 21)] G I1 (none, G, I27) ∧ (∃ (I29 : zI), Cv X d 135 [.ref 57, .int 7] G I27 (none, G, I29) ∧ (Ev X (d + 1) 133 14 [.ref 57, .int 0, .int x2, v3] [] G I29 res))) ∧ ((I1 57 20) = 1 → ∃ (I31 : zI), Cv X d 134 [.ref 57, .int (100000 + (I1 57 21))] G I1 (none, G, I31) ∧ (∃ (I33 : zI), Cv X d 135 [.ref 57, .int 7] G I31 (none, G, I33) ∧ (Ev X (d + 1) 133 14 [.ref 57, .int 0, .int x2, v3] [] G I33 res)))) ∧ (¬ (I1 57 20) = 1 → (¬ (I1 57 20) = 2 → (¬ (I1 57 20) = 6 → (¬ (I1 57 20) = 45 → (¬ (I1 57 20) = 40 → res = (some (.int 0), G, I1)) ∧ ((I1 57 20) = 40 → ∃ (r41 : Int32) (I39 : zI), Cv X d 137 [.ref 57, .int 0] G I1 (some (.int r41), G, I39) ∧ ((¬ r41 = 0 → Ev X (d + 1) 133 14 [.ref 57, .int x1, .int 1, v3] [] G I39 res) ∧ (r41 = 0 → res = (some (.int 0), G, I39))))) ∧ ((I1 57 20) = 45 → ∃ (r45 : Int32) (I43 : zI), Cv X d 137 [.ref 57, .int 19] G I1 (some (.int r45), G, I43) ∧ ((¬ r45 = 0 → Ev X (d + 1) 133 14 [.ref 57, .int x1, .int 0, v3] [] G I43 res) ∧ (r45 = 0 → res = (some (.int 0), G, I43))))) ∧ ((I1 57 20) = 6 → (x2 = 0 → (¬ (I1 57 20) = 45 → (¬ (I1 57 20) = 40 → res = (some (.int 0), G, I1)) ∧ ((I1 57 20) = 40 → ∃ (r52 : Int32) (I50 : zI), Cv X d 137 [.ref 57, .int 0] G I1 (some (.int r52), G, I50) ∧ ((¬ r52 = 0 → Ev X (d + 1) 133 14 [.ref 57, .int x1, .int 1, v3] [] G I50 res) ∧ (r52 = 0 → res = (some (.int 0), G, I50))))) ∧ ((I1 57 20) = 45 → ∃ (r56 : Int32) (I54 : zI), Cv X d 137 [.ref 57, .int 19] G I1 (some (.int r56), G, I54) ∧ ((¬ r56 = 0 → Ev X (d + 1) 133 14 [.ref 57, .int x1, .int 0, v3] [] G I54 res) ∧ (r56 = 0 → res = (some (.int 0), G, I54))))) ∧ (¬ x2 = 0 → ∃ (r60 : Int32) (I58 : zI), Cv X d 137 [.ref 57, .int 13] G I1 (some (.int r60), G, I58) ∧ ((¬ r60 = 0 → Ev X (d + 1) 133 14 [.ref 57, .int x1, .int x2, v3] [] G I58 res) ∧ (r60 = 0 → res = (some (.int 0), G, I58)))))) ∧ ((I1 57 20) = 2 → (¬ (I1 57 20) = 1 → ∃ (I63 : zI), Cv X d 134 [.ref 57, .int (I1 57 21)] G I1 (none, G, I63) ∧ (∃ (I65 : zI), Cv X d 135 [.ref 57, .int 7] G I63 (none, G, I65) ∧ (Ev X (d + 1) 133 14 [.ref 57, .int 0, .int x2, v3] [] G I65 res))) ∧ ((I1 57 20) = 1 → ∃ (I67 : zI), Cv X d 134 [.ref 57, .int (100000 + (I1 57 21))] G I1 (none, G, I67) ∧ (∃ (I69 : zI), Cv X d 135 [.ref 57, .int 7] G I67 (none, G, I69) ∧ (Ev X (d + 1) 133 14 [.ref 57, .int 0, .int x2, v3] [] G I69 res)))))))) :
    Ev X (d + 1) 133 14 [.ref 57, .int x1, .int x2, v3] [] G I res := by
  refine Ev_aload_n hq_133 (show decode prog_7_method_22_code 14 = .ok (.aload_n 0, 1) by decide +kernel) rfl ?_
  obtain ⟨I1, h2, k⟩ := k
  refine Ev_virt (as := []) hq_133 (show decode prog_7_method_22_code 15 = .ok (.invokevirtual 149, 3) by decide +kernel) rfl hq_130 rfl (z_le rfl) ⟨(SGn hS (by decide)), (SGk hS rfl), by decide⟩ h2 ?_
  refine Ev_iload_n hq_133 (show decode prog_7_method_22_code 18 = .ok (.iload_n 1, 1) by decide +kernel) rfl ?_
  refine Ev_if_eq (tgt := 150) hq_133 (show decode prog_7_method_22_code 19 = .ok (.ifCond .eq 131, 3) by decide +kernel) (by decide) (fun c3 => ?_) (fun c3 => ?_)
  · have k := k.1 c3
    refine Ev_aload_n hq_133 (show decode prog_7_method_22_code 150 = .ok (.aload_n 0, 1) by decide +kernel) rfl ?_
    refine Ev_getI hq_133 (show decode prog_7_method_22_code 151 = .ok (.getfield 116, 3) by decide +kernel) rfl (SGn hS (by decide)) (SGk hS rfl) (by decide) rfl ?_
    refine Ev_bipush (v := 59) hq_133 (show decode prog_7_method_22_code 154 = .ok (.bipush 59, 2) by decide +kernel) (by decide) ?_
    refine Ev_icmp_ne (tgt := 177) hq_133 (show decode prog_7_method_22_code 156 = .ok (.if_icmp .ne 21, 3) by decide +kernel) (by decide) (fun c4 => ?_) (fun c4 => ?_)
    · have k := k.1 c4
      refine Ev_aload_n hq_133 (show decode prog_7_method_22_code 177 = .ok (.aload_n 0, 1) by decide +kernel) rfl ?_
      refine Ev_getI hq_133 (show decode prog_7_method_22_code 178 = .ok (.getfield 116, 3) by decide +kernel) rfl (SGn hS (by decide)) (SGk hS rfl) (by decide) rfl ?_
      refine Ev_bipush (v := 41) hq_133 (show decode prog_7_method_22_code 181 = .ok (.bipush 41, 2) by decide +kernel) (by decide) ?_
      refine Ev_icmp_ne (tgt := 229) hq_133 (show decode prog_7_method_22_code 183 = .ok (.if_icmp .ne 46, 3) by decide +kernel) (by decide) (fun c5 => ?_) (fun c5 => ?_)
      · have k := k.1 c5
        refine Ev_aload_n hq_133 (show decode prog_7_method_22_code 229 = .ok (.aload_n 0, 1) by decide +kernel) rfl ?_
        obtain ⟨r8, I6, h7, k⟩ := k
        refine Ev_virt (as := []) hq_133 (show decode prog_7_method_22_code 230 = .ok (.invokevirtual 156, 3) by decide +kernel) rfl hq_139 rfl (z_le rfl) ⟨(SGn hS (by decide)), (SGk hS rfl), by decide⟩ h7 ?_
        refine Ev_istore_n (lo2 := [.ref 57, .int x1, .int x2, .int r8]) hq_133 (show decode prog_7_method_22_code 233 = .ok (.istore_n 3, 1) by decide +kernel) (z_le rfl) rfl ?_
        refine Ev_iload_n hq_133 (show decode prog_7_method_22_code 234 = .ok (.iload_n 3, 1) by decide +kernel) rfl ?_
        refine Ev_iconst (v := (-1)) hq_133 (show decode prog_7_method_22_code 235 = .ok (.iconst (-1), 1) by decide +kernel) (by decide) ?_
        refine Ev_icmp_eq (tgt := 247) hq_133 (show decode prog_7_method_22_code 236 = .ok (.if_icmp .eq 11, 3) by decide +kernel) (by decide) (fun c9 => ?_) (fun c9 => ?_)
        · have k := k.1 c9
          refine Ev_iconst (v := 0) hq_133 (show decode prog_7_method_22_code 247 = .ok (.iconst 0, 1) by decide +kernel) (by decide) ?_
          exact Ev_iret hq_133 (show decode prog_7_method_22_code 248 = .ok (.ireturn, 1) by decide +kernel) rfl k
        · have k := k.2 c9
          refine Ev_aload_n hq_133 (show decode prog_7_method_22_code 239 = .ok (.aload_n 0, 1) by decide +kernel) rfl ?_
          refine Ev_iload_n hq_133 (show decode prog_7_method_22_code 240 = .ok (.iload_n 3, 1) by decide +kernel) rfl ?_
          obtain ⟨r12, I10, h11, k⟩ := k
          refine Ev_virt (as := [.int r8]) hq_133 (show decode prog_7_method_22_code 241 = .ok (.invokevirtual 159, 3) by decide +kernel) rfl hq_140 rfl (z_le rfl) ⟨(SGn hS (by decide)), (SGk hS rfl), by decide⟩ h11 ?_
          refine Ev_if_ne (tgt := 249) hq_133 (show decode prog_7_method_22_code 244 = .ok (.ifCond .ne 5, 3) by decide +kernel) (by decide) (fun c13 => ?_) (fun c13 => ?_)
          · have k := k.1 c13
            refine Ev_iconst (v := 1) hq_133 (show decode prog_7_method_22_code 249 = .ok (.iconst 1, 1) by decide +kernel) (by decide) ?_
            refine Ev_istore_n (lo2 := [.ref 57, .int 1, .int x2, .int r8]) hq_133 (show decode prog_7_method_22_code 250 = .ok (.istore_n 1, 1) by decide +kernel) (z_le rfl) rfl ?_
            refine Ev_iload_n hq_133 (show decode prog_7_method_22_code 251 = .ok (.iload_n 3, 1) by decide +kernel) rfl ?_
            refine Ev_bipush (v := 12) hq_133 (show decode prog_7_method_22_code 252 = .ok (.bipush 12, 2) by decide +kernel) (by decide) ?_
            refine Ev_icmp_gt (tgt := 261) hq_133 (show decode prog_7_method_22_code 254 = .ok (.if_icmp .gt 7, 3) by decide +kernel) (by decide) (fun c14 => ?_) (fun c14 => ?_)
            · have k := k.1 c14
              refine Ev_iconst (v := 0) hq_133 (show decode prog_7_method_22_code 261 = .ok (.iconst 0, 1) by decide +kernel) (by decide) ?_
              refine Ev_istore_n (lo2 := [.ref 57, .int 1, .int 0, .int r8]) hq_133 (show decode prog_7_method_22_code 262 = .ok (.istore_n 2, 1) by decide +kernel) (z_le rfl) rfl ?_
              refine Ev_goto (tgt := 14) hq_133 (show decode prog_7_method_22_code 263 = .ok (.goto (-249), 3) by decide +kernel) (by decide) ?_
              exact k
            · have k := k.2 c14
              refine Ev_iconst (v := 1) hq_133 (show decode prog_7_method_22_code 257 = .ok (.iconst 1, 1) by decide +kernel) (by decide) ?_
              refine Ev_goto (tgt := 262) hq_133 (show decode prog_7_method_22_code 258 = .ok (.goto 4, 3) by decide +kernel) (by decide) ?_
              refine Ev_istore_n (lo2 := [.ref 57, .int 1, .int 1, .int r8]) hq_133 (show decode prog_7_method_22_code 262 = .ok (.istore_n 2, 1) by decide +kernel) (z_le rfl) rfl ?_
              refine Ev_goto (tgt := 14) hq_133 (show decode prog_7_method_22_code 263 = .ok (.goto (-249), 3) by decide +kernel) (by decide) ?_
              exact k
          · have k := k.2 (Classical.not_not.mp c13)
            refine Ev_iconst (v := 0) hq_133 (show decode prog_7_method_22_code 247 = .ok (.iconst 0, 1) by decide +kernel) (by decide) ?_
            exact Ev_iret hq_133 (show decode prog_7_method_22_code 248 = .ok (.ireturn, 1) by decide +kernel) rfl k
      · have k := k.2 (Classical.not_not.mp c5)
        refine Ev_aload_n hq_133 (show decode prog_7_method_22_code 186 = .ok (.aload_n 0, 1) by decide +kernel) rfl ?_
        refine Ev_iconst (v := 1) hq_133 (show decode prog_7_method_22_code 187 = .ok (.iconst 1, 1) by decide +kernel) (by decide) ?_
        obtain ⟨I15, h16, k⟩ := k
        refine Ev_virt (as := [.int 1]) hq_133 (show decode prog_7_method_22_code 188 = .ok (.invokevirtual 146, 3) by decide +kernel) rfl hq_135 rfl (z_le rfl) ⟨(SGn hS (by decide)), (SGk hS rfl), by decide⟩ h16 ?_
        refine Ev_aload_n hq_133 (show decode prog_7_method_22_code 191 = .ok (.aload_n 0, 1) by decide +kernel) rfl ?_
        refine Ev_getI hq_133 (show decode prog_7_method_22_code 192 = .ok (.getfield 129, 3) by decide +kernel) rfl (SGn hS (by decide)) (SGk hS rfl) (by decide) rfl ?_
        refine Ev_if_ne (tgt := 200) hq_133 (show decode prog_7_method_22_code 195 = .ok (.ifCond .ne 5, 3) by decide +kernel) (by decide) (fun c17 => ?_) (fun c17 => ?_)
        · have k := k.1 c17
          refine Ev_aload_n hq_133 (show decode prog_7_method_22_code 200 = .ok (.aload_n 0, 1) by decide +kernel) rfl ?_
          refine Ev_dup hq_133 (show decode prog_7_method_22_code 201 = .ok (.dup, 1) by decide +kernel) rfl ?_
          refine Ev_getI hq_133 (show decode prog_7_method_22_code 202 = .ok (.getfield 129, 3) by decide +kernel) rfl (SGn hS (by decide)) (SGk hS rfl) (by decide) rfl ?_
          refine Ev_iconst (v := 1) hq_133 (show decode prog_7_method_22_code 205 = .ok (.iconst 1, 1) by decide +kernel) (by decide) ?_
          refine Ev_isub hq_133 (show decode prog_7_method_22_code 206 = .ok (.isub, 1) by decide +kernel) ?_
          refine Ev_putI hq_133 (show decode prog_7_method_22_code 207 = .ok (.putfield 129, 3) by decide +kernel) rfl (SGn hS (by decide)) (SGk hS rfl) (by decide) (by decide) rfl (fun hz => by cases hz) ?_
          obtain ⟨I18, eI18⟩ : ∃ I18 : zI, I18 = z_up I15 57 24 ((I15 57 24) - 1) := ⟨_, rfl⟩
          have k := k I18 eI18
          rw [← eI18]
          refine Ev_aload_n hq_133 (show decode prog_7_method_22_code 210 = .ok (.aload_n 0, 1) by decide +kernel) rfl ?_
          refine Ev_dup hq_133 (show decode prog_7_method_22_code 211 = .ok (.dup, 1) by decide +kernel) rfl ?_
          refine Ev_getI hq_133 (show decode prog_7_method_22_code 212 = .ok (.getfield 136, 3) by decide +kernel) rfl (SGn hS (by decide)) (SGk hS rfl) (by decide) rfl ?_
          refine Ev_iconst (v := 1) hq_133 (show decode prog_7_method_22_code 215 = .ok (.iconst 1, 1) by decide +kernel) (by decide) ?_
          refine Ev_isub hq_133 (show decode prog_7_method_22_code 216 = .ok (.isub, 1) by decide +kernel) ?_
          refine Ev_putI hq_133 (show decode prog_7_method_22_code 217 = .ok (.putfield 136, 3) by decide +kernel) rfl (SGn hS (by decide)) (SGk hS rfl) (by decide) (by decide) rfl (fun hz => by cases hz) ?_
          obtain ⟨I19, eI19⟩ : ∃ I19 : zI, I19 = z_up I18 57 25 ((I18 57 25) - 1) := ⟨_, rfl⟩
          have k := k I19 eI19
          rw [← eI19]
          refine Ev_aload_n hq_133 (show decode prog_7_method_22_code 220 = .ok (.aload_n 0, 1) by decide +kernel) rfl ?_
          refine Ev_bipush (v := 7) hq_133 (show decode prog_7_method_22_code 221 = .ok (.bipush 7, 2) by decide +kernel) (by decide) ?_
          obtain ⟨I20, h21, k⟩ := k
          refine Ev_virt (as := [.int 7]) hq_133 (show decode prog_7_method_22_code 223 = .ok (.invokevirtual 146, 3) by decide +kernel) rfl hq_135 rfl (z_le rfl) ⟨(SGn hS (by decide)), (SGk hS rfl), by decide⟩ h21 ?_
          refine Ev_goto (tgt := 14) hq_133 (show decode prog_7_method_22_code 226 = .ok (.goto (-212), 3) by decide +kernel) (by decide) ?_
          exact k
        · have k := k.2 (Classical.not_not.mp c17)
          refine Ev_iconst (v := 0) hq_133 (show decode prog_7_method_22_code 198 = .ok (.iconst 0, 1) by decide +kernel) (by decide) ?_
          exact Ev_iret hq_133 (show decode prog_7_method_22_code 199 = .ok (.ireturn, 1) by decide +kernel) rfl k
    · have k := k.2 (Classical.not_not.mp c4)
      refine Ev_aload_n hq_133 (show decode prog_7_method_22_code 159 = .ok (.aload_n 0, 1) by decide +kernel) rfl ?_
      refine Ev_iconst (v := 1) hq_133 (show decode prog_7_method_22_code 160 = .ok (.iconst 1, 1) by decide +kernel) (by decide) ?_
      obtain ⟨I22, h23, k⟩ := k
      refine Ev_virt (as := [.int 1]) hq_133 (show decode prog_7_method_22_code 161 = .ok (.invokevirtual 146, 3) by decide +kernel) rfl hq_135 rfl (z_le rfl) ⟨(SGn hS (by decide)), (SGk hS rfl), by decide⟩ h23 ?_
      refine Ev_aload_n hq_133 (show decode prog_7_method_22_code 164 = .ok (.aload_n 0, 1) by decide +kernel) rfl ?_
      refine Ev_getI hq_133 (show decode prog_7_method_22_code 165 = .ok (.getfield 129, 3) by decide +kernel) rfl (SGn hS (by decide)) (SGk hS rfl) (by decide) rfl ?_
      refine Ev_if_ne (tgt := 175) hq_133 (show decode prog_7_method_22_code 168 = .ok (.ifCond .ne 7, 3) by decide +kernel) (by decide) (fun c24 => ?_) (fun c24 => ?_)
      · have k := k.1 c24
        refine Ev_iconst (v := 0) hq_133 (show decode prog_7_method_22_code 175 = .ok (.iconst 0, 1) by decide +kernel) (by decide) ?_
        exact Ev_iret hq_133 (show decode prog_7_method_22_code 176 = .ok (.ireturn, 1) by decide +kernel) rfl k
      · have k := k.2 (Classical.not_not.mp c24)
        refine Ev_iconst (v := 1) hq_133 (show decode prog_7_method_22_code 171 = .ok (.iconst 1, 1) by decide +kernel) (by decide) ?_
        refine Ev_goto (tgt := 176) hq_133 (show decode prog_7_method_22_code 172 = .ok (.goto 4, 3) by decide +kernel) (by decide) ?_
        exact Ev_iret hq_133 (show decode prog_7_method_22_code 176 = .ok (.ireturn, 1) by decide +kernel) rfl k
  · have k := k.2 c3
    refine Ev_aload_n hq_133 (show decode prog_7_method_22_code 22 = .ok (.aload_n 0, 1) by decide +kernel) rfl ?_
    refine Ev_getI hq_133 (show decode prog_7_method_22_code 23 = .ok (.getfield 116, 3) by decide +kernel) rfl (SGn hS (by decide)) (SGk hS rfl) (by decide) rfl ?_
    refine Ev_iconst (v := 1) hq_133 (show decode prog_7_method_22_code 26 = .ok (.iconst 1, 1) by decide +kernel) (by decide) ?_
    refine Ev_icmp_eq (tgt := 38) hq_133 (show decode prog_7_method_22_code 27 = .ok (.if_icmp .eq 11, 3) by decide +kernel) (by decide) (fun c25 => ?_) (fun c25 => ?_)
    · have k := k.1 c25
      refine Ev_aload_n hq_133 (show decode prog_7_method_22_code 38 = .ok (.aload_n 0, 1) by decide +kernel) rfl ?_
      refine Ev_aload_n hq_133 (show decode prog_7_method_22_code 39 = .ok (.aload_n 0, 1) by decide +kernel) rfl ?_
      refine Ev_getI hq_133 (show decode prog_7_method_22_code 40 = .ok (.getfield 116, 3) by decide +kernel) rfl (SGn hS (by decide)) (SGk hS rfl) (by decide) rfl ?_
      refine Ev_iconst (v := 1) hq_133 (show decode prog_7_method_22_code 43 = .ok (.iconst 1, 1) by decide +kernel) (by decide) ?_
      refine Ev_icmp_ne (tgt := 57) hq_133 (show decode prog_7_method_22_code 44 = .ok (.if_icmp .ne 13, 3) by decide +kernel) (by decide) (fun c26 => ?_) (fun c26 => ?_)
      · have k := k.1 c26
        refine Ev_aload_n hq_133 (show decode prog_7_method_22_code 57 = .ok (.aload_n 0, 1) by decide +kernel) rfl ?_
        refine Ev_getI hq_133 (show decode prog_7_method_22_code 58 = .ok (.getfield 119, 3) by decide +kernel) rfl (SGn hS (by decide)) (SGk hS rfl) (by decide) rfl ?_
        obtain ⟨I27, h28, k⟩ := k
        refine Ev_virt (as := [.int (I1 57 21)]) hq_133 (show decode prog_7_method_22_code 61 = .ok (.invokevirtual 139, 3) by decide +kernel) rfl hq_134 rfl (z_le rfl) ⟨(SGn hS (by decide)), (SGk hS rfl), by decide⟩ h28 ?_
        refine Ev_aload_n hq_133 (show decode prog_7_method_22_code 64 = .ok (.aload_n 0, 1) by decide +kernel) rfl ?_
        refine Ev_bipush (v := 7) hq_133 (show decode prog_7_method_22_code 65 = .ok (.bipush 7, 2) by decide +kernel) (by decide) ?_
        obtain ⟨I29, h30, k⟩ := k
        refine Ev_virt (as := [.int 7]) hq_133 (show decode prog_7_method_22_code 67 = .ok (.invokevirtual 146, 3) by decide +kernel) rfl hq_135 rfl (z_le rfl) ⟨(SGn hS (by decide)), (SGk hS rfl), by decide⟩ h30 ?_
        refine Ev_iconst (v := 0) hq_133 (show decode prog_7_method_22_code 70 = .ok (.iconst 0, 1) by decide +kernel) (by decide) ?_
        refine Ev_istore_n (lo2 := [.ref 57, .int 0, .int x2, v3]) hq_133 (show decode prog_7_method_22_code 71 = .ok (.istore_n 1, 1) by decide +kernel) (z_le rfl) rfl ?_
        refine Ev_goto (tgt := 14) hq_133 (show decode prog_7_method_22_code 72 = .ok (.goto (-58), 3) by decide +kernel) (by decide) ?_
        exact k
      · have k := k.2 (Classical.not_not.mp c26)
        refine Ev_ldc (v := 100000) hq_133 (show decode prog_7_method_22_code 47 = .ok (.ldc 152, 2) by decide +kernel) rfl ?_
        refine Ev_aload_n hq_133 (show decode prog_7_method_22_code 49 = .ok (.aload_n 0, 1) by decide +kernel) rfl ?_
        refine Ev_getI hq_133 (show decode prog_7_method_22_code 50 = .ok (.getfield 119, 3) by decide +kernel) rfl (SGn hS (by decide)) (SGk hS rfl) (by decide) rfl ?_
        refine Ev_iadd hq_133 (show decode prog_7_method_22_code 53 = .ok (.iadd, 1) by decide +kernel) ?_
        refine Ev_goto (tgt := 61) hq_133 (show decode prog_7_method_22_code 54 = .ok (.goto 7, 3) by decide +kernel) (by decide) ?_
        obtain ⟨I31, h32, k⟩ := k
        refine Ev_virt (as := [.int (100000 + (I1 57 21))]) hq_133 (show decode prog_7_method_22_code 61 = .ok (.invokevirtual 139, 3) by decide +kernel) rfl hq_134 rfl (z_le rfl) ⟨(SGn hS (by decide)), (SGk hS rfl), by decide⟩ h32 ?_
        refine Ev_aload_n hq_133 (show decode prog_7_method_22_code 64 = .ok (.aload_n 0, 1) by decide +kernel) rfl ?_
        refine Ev_bipush (v := 7) hq_133 (show decode prog_7_method_22_code 65 = .ok (.bipush 7, 2) by decide +kernel) (by decide) ?_
        obtain ⟨I33, h34, k⟩ := k
        refine Ev_virt (as := [.int 7]) hq_133 (show decode prog_7_method_22_code 67 = .ok (.invokevirtual 146, 3) by decide +kernel) rfl hq_135 rfl (z_le rfl) ⟨(SGn hS (by decide)), (SGk hS rfl), by decide⟩ h34 ?_
        refine Ev_iconst (v := 0) hq_133 (show decode prog_7_method_22_code 70 = .ok (.iconst 0, 1) by decide +kernel) (by decide) ?_
        refine Ev_istore_n (lo2 := [.ref 57, .int 0, .int x2, v3]) hq_133 (show decode prog_7_method_22_code 71 = .ok (.istore_n 1, 1) by decide +kernel) (z_le rfl) rfl ?_
        refine Ev_goto (tgt := 14) hq_133 (show decode prog_7_method_22_code 72 = .ok (.goto (-58), 3) by decide +kernel) (by decide) ?_
        exact k
    · have k := k.2 c25
      refine Ev_aload_n hq_133 (show decode prog_7_method_22_code 30 = .ok (.aload_n 0, 1) by decide +kernel) rfl ?_
      refine Ev_getI hq_133 (show decode prog_7_method_22_code 31 = .ok (.getfield 116, 3) by decide +kernel) rfl (SGn hS (by decide)) (SGk hS rfl) (by decide) rfl ?_
      refine Ev_iconst (v := 2) hq_133 (show decode prog_7_method_22_code 34 = .ok (.iconst 2, 1) by decide +kernel) (by decide) ?_
      refine Ev_icmp_ne (tgt := 75) hq_133 (show decode prog_7_method_22_code 35 = .ok (.if_icmp .ne 40, 3) by decide +kernel) (by decide) (fun c35 => ?_) (fun c35 => ?_)
      · have k := k.1 c35
        refine Ev_aload_n hq_133 (show decode prog_7_method_22_code 75 = .ok (.aload_n 0, 1) by decide +kernel) rfl ?_
        refine Ev_getI hq_133 (show decode prog_7_method_22_code 76 = .ok (.getfield 116, 3) by decide +kernel) rfl (SGn hS (by decide)) (SGk hS rfl) (by decide) rfl ?_
        refine Ev_bipush (v := 6) hq_133 (show decode prog_7_method_22_code 79 = .ok (.bipush 6, 2) by decide +kernel) (by decide) ?_
        refine Ev_icmp_ne (tgt := 99) hq_133 (show decode prog_7_method_22_code 81 = .ok (.if_icmp .ne 18, 3) by decide +kernel) (by decide) (fun c36 => ?_) (fun c36 => ?_)
        · have k := k.1 c36
          refine Ev_aload_n hq_133 (show decode prog_7_method_22_code 99 = .ok (.aload_n 0, 1) by decide +kernel) rfl ?_
          refine Ev_getI hq_133 (show decode prog_7_method_22_code 100 = .ok (.getfield 116, 3) by decide +kernel) rfl (SGn hS (by decide)) (SGk hS rfl) (by decide) rfl ?_
          refine Ev_bipush (v := 45) hq_133 (show decode prog_7_method_22_code 103 = .ok (.bipush 45, 2) by decide +kernel) (by decide) ?_
          refine Ev_icmp_ne (tgt := 124) hq_133 (show decode prog_7_method_22_code 105 = .ok (.if_icmp .ne 19, 3) by decide +kernel) (by decide) (fun c37 => ?_) (fun c37 => ?_)
          · have k := k.1 c37
            refine Ev_aload_n hq_133 (show decode prog_7_method_22_code 124 = .ok (.aload_n 0, 1) by decide +kernel) rfl ?_
            refine Ev_getI hq_133 (show decode prog_7_method_22_code 125 = .ok (.getfield 116, 3) by decide +kernel) rfl (SGn hS (by decide)) (SGk hS rfl) (by decide) rfl ?_
            refine Ev_bipush (v := 40) hq_133 (show decode prog_7_method_22_code 128 = .ok (.bipush 40, 2) by decide +kernel) (by decide) ?_
            refine Ev_icmp_ne (tgt := 148) hq_133 (show decode prog_7_method_22_code 130 = .ok (.if_icmp .ne 18, 3) by decide +kernel) (by decide) (fun c38 => ?_) (fun c38 => ?_)
            · have k := k.1 c38
              refine Ev_iconst (v := 0) hq_133 (show decode prog_7_method_22_code 148 = .ok (.iconst 0, 1) by decide +kernel) (by decide) ?_
              exact Ev_iret hq_133 (show decode prog_7_method_22_code 149 = .ok (.ireturn, 1) by decide +kernel) rfl k
            · have k := k.2 (Classical.not_not.mp c38)
              refine Ev_aload_n hq_133 (show decode prog_7_method_22_code 133 = .ok (.aload_n 0, 1) by decide +kernel) rfl ?_
              refine Ev_iconst (v := 0) hq_133 (show decode prog_7_method_22_code 134 = .ok (.iconst 0, 1) by decide +kernel) (by decide) ?_
              obtain ⟨r41, I39, h40, k⟩ := k
              refine Ev_virt (as := [.int 0]) hq_133 (show decode prog_7_method_22_code 135 = .ok (.invokevirtual 153, 3) by decide +kernel) rfl hq_137 rfl (z_le rfl) ⟨(SGn hS (by decide)), (SGk hS rfl), by decide⟩ h40 ?_
              refine Ev_if_ne (tgt := 143) hq_133 (show decode prog_7_method_22_code 138 = .ok (.ifCond .ne 5, 3) by decide +kernel) (by decide) (fun c42 => ?_) (fun c42 => ?_)
              · have k := k.1 c42
                refine Ev_iconst (v := 1) hq_133 (show decode prog_7_method_22_code 143 = .ok (.iconst 1, 1) by decide +kernel) (by decide) ?_
                refine Ev_istore_n (lo2 := [.ref 57, .int x1, .int 1, v3]) hq_133 (show decode prog_7_method_22_code 144 = .ok (.istore_n 2, 1) by decide +kernel) (z_le rfl) rfl ?_
                refine Ev_goto (tgt := 14) hq_133 (show decode prog_7_method_22_code 145 = .ok (.goto (-131), 3) by decide +kernel) (by decide) ?_
                exact k
              · have k := k.2 (Classical.not_not.mp c42)
                refine Ev_iconst (v := 0) hq_133 (show decode prog_7_method_22_code 141 = .ok (.iconst 0, 1) by decide +kernel) (by decide) ?_
                exact Ev_iret hq_133 (show decode prog_7_method_22_code 142 = .ok (.ireturn, 1) by decide +kernel) rfl k
          · have k := k.2 (Classical.not_not.mp c37)
            refine Ev_aload_n hq_133 (show decode prog_7_method_22_code 108 = .ok (.aload_n 0, 1) by decide +kernel) rfl ?_
            refine Ev_bipush (v := 19) hq_133 (show decode prog_7_method_22_code 109 = .ok (.bipush 19, 2) by decide +kernel) (by decide) ?_
            obtain ⟨r45, I43, h44, k⟩ := k
            refine Ev_virt (as := [.int 19]) hq_133 (show decode prog_7_method_22_code 111 = .ok (.invokevirtual 153, 3) by decide +kernel) rfl hq_137 rfl (z_le rfl) ⟨(SGn hS (by decide)), (SGk hS rfl), by decide⟩ h44 ?_
            refine Ev_if_ne (tgt := 119) hq_133 (show decode prog_7_method_22_code 114 = .ok (.ifCond .ne 5, 3) by decide +kernel) (by decide) (fun c46 => ?_) (fun c46 => ?_)
            · have k := k.1 c46
              refine Ev_iconst (v := 0) hq_133 (show decode prog_7_method_22_code 119 = .ok (.iconst 0, 1) by decide +kernel) (by decide) ?_
              refine Ev_istore_n (lo2 := [.ref 57, .int x1, .int 0, v3]) hq_133 (show decode prog_7_method_22_code 120 = .ok (.istore_n 2, 1) by decide +kernel) (z_le rfl) rfl ?_
              refine Ev_goto (tgt := 14) hq_133 (show decode prog_7_method_22_code 121 = .ok (.goto (-107), 3) by decide +kernel) (by decide) ?_
              exact k
            · have k := k.2 (Classical.not_not.mp c46)
              refine Ev_iconst (v := 0) hq_133 (show decode prog_7_method_22_code 117 = .ok (.iconst 0, 1) by decide +kernel) (by decide) ?_
              exact Ev_iret hq_133 (show decode prog_7_method_22_code 118 = .ok (.ireturn, 1) by decide +kernel) rfl k
        · have k := k.2 (Classical.not_not.mp c36)
          refine Ev_iload_n hq_133 (show decode prog_7_method_22_code 84 = .ok (.iload_n 2, 1) by decide +kernel) rfl ?_
          refine Ev_if_eq (tgt := 99) hq_133 (show decode prog_7_method_22_code 85 = .ok (.ifCond .eq 14, 3) by decide +kernel) (by decide) (fun c47 => ?_) (fun c47 => ?_)
          · have k := k.1 c47
            refine Ev_aload_n hq_133 (show decode prog_7_method_22_code 99 = .ok (.aload_n 0, 1) by decide +kernel) rfl ?_
            refine Ev_getI hq_133 (show decode prog_7_method_22_code 100 = .ok (.getfield 116, 3) by decide +kernel) rfl (SGn hS (by decide)) (SGk hS rfl) (by decide) rfl ?_
            refine Ev_bipush (v := 45) hq_133 (show decode prog_7_method_22_code 103 = .ok (.bipush 45, 2) by decide +kernel) (by decide) ?_
            refine Ev_icmp_ne (tgt := 124) hq_133 (show decode prog_7_method_22_code 105 = .ok (.if_icmp .ne 19, 3) by decide +kernel) (by decide) (fun c48 => ?_) (fun c48 => ?_)
            · have k := k.1 c48
              refine Ev_aload_n hq_133 (show decode prog_7_method_22_code 124 = .ok (.aload_n 0, 1) by decide +kernel) rfl ?_
              refine Ev_getI hq_133 (show decode prog_7_method_22_code 125 = .ok (.getfield 116, 3) by decide +kernel) rfl (SGn hS (by decide)) (SGk hS rfl) (by decide) rfl ?_
              refine Ev_bipush (v := 40) hq_133 (show decode prog_7_method_22_code 128 = .ok (.bipush 40, 2) by decide +kernel) (by decide) ?_
              refine Ev_icmp_ne (tgt := 148) hq_133 (show decode prog_7_method_22_code 130 = .ok (.if_icmp .ne 18, 3) by decide +kernel) (by decide) (fun c49 => ?_) (fun c49 => ?_)
              · have k := k.1 c49
                refine Ev_iconst (v := 0) hq_133 (show decode prog_7_method_22_code 148 = .ok (.iconst 0, 1) by decide +kernel) (by decide) ?_
                exact Ev_iret hq_133 (show decode prog_7_method_22_code 149 = .ok (.ireturn, 1) by decide +kernel) rfl k
              · have k := k.2 (Classical.not_not.mp c49)
                refine Ev_aload_n hq_133 (show decode prog_7_method_22_code 133 = .ok (.aload_n 0, 1) by decide +kernel) rfl ?_
                refine Ev_iconst (v := 0) hq_133 (show decode prog_7_method_22_code 134 = .ok (.iconst 0, 1) by decide +kernel) (by decide) ?_
                obtain ⟨r52, I50, h51, k⟩ := k
                refine Ev_virt (as := [.int 0]) hq_133 (show decode prog_7_method_22_code 135 = .ok (.invokevirtual 153, 3) by decide +kernel) rfl hq_137 rfl (z_le rfl) ⟨(SGn hS (by decide)), (SGk hS rfl), by decide⟩ h51 ?_
                refine Ev_if_ne (tgt := 143) hq_133 (show decode prog_7_method_22_code 138 = .ok (.ifCond .ne 5, 3) by decide +kernel) (by decide) (fun c53 => ?_) (fun c53 => ?_)
                · have k := k.1 c53
                  refine Ev_iconst (v := 1) hq_133 (show decode prog_7_method_22_code 143 = .ok (.iconst 1, 1) by decide +kernel) (by decide) ?_
                  refine Ev_istore_n (lo2 := [.ref 57, .int x1, .int 1, v3]) hq_133 (show decode prog_7_method_22_code 144 = .ok (.istore_n 2, 1) by decide +kernel) (z_le rfl) rfl ?_
                  refine Ev_goto (tgt := 14) hq_133 (show decode prog_7_method_22_code 145 = .ok (.goto (-131), 3) by decide +kernel) (by decide) ?_
                  exact k
                · have k := k.2 (Classical.not_not.mp c53)
                  refine Ev_iconst (v := 0) hq_133 (show decode prog_7_method_22_code 141 = .ok (.iconst 0, 1) by decide +kernel) (by decide) ?_
                  exact Ev_iret hq_133 (show decode prog_7_method_22_code 142 = .ok (.ireturn, 1) by decide +kernel) rfl k
            · have k := k.2 (Classical.not_not.mp c48)
              refine Ev_aload_n hq_133 (show decode prog_7_method_22_code 108 = .ok (.aload_n 0, 1) by decide +kernel) rfl ?_
              refine Ev_bipush (v := 19) hq_133 (show decode prog_7_method_22_code 109 = .ok (.bipush 19, 2) by decide +kernel) (by decide) ?_
              obtain ⟨r56, I54, h55, k⟩ := k
              refine Ev_virt (as := [.int 19]) hq_133 (show decode prog_7_method_22_code 111 = .ok (.invokevirtual 153, 3) by decide +kernel) rfl hq_137 rfl (z_le rfl) ⟨(SGn hS (by decide)), (SGk hS rfl), by decide⟩ h55 ?_
              refine Ev_if_ne (tgt := 119) hq_133 (show decode prog_7_method_22_code 114 = .ok (.ifCond .ne 5, 3) by decide +kernel) (by decide) (fun c57 => ?_) (fun c57 => ?_)
              · have k := k.1 c57
                refine Ev_iconst (v := 0) hq_133 (show decode prog_7_method_22_code 119 = .ok (.iconst 0, 1) by decide +kernel) (by decide) ?_
                refine Ev_istore_n (lo2 := [.ref 57, .int x1, .int 0, v3]) hq_133 (show decode prog_7_method_22_code 120 = .ok (.istore_n 2, 1) by decide +kernel) (z_le rfl) rfl ?_
                refine Ev_goto (tgt := 14) hq_133 (show decode prog_7_method_22_code 121 = .ok (.goto (-107), 3) by decide +kernel) (by decide) ?_
                exact k
              · have k := k.2 (Classical.not_not.mp c57)
                refine Ev_iconst (v := 0) hq_133 (show decode prog_7_method_22_code 117 = .ok (.iconst 0, 1) by decide +kernel) (by decide) ?_
                exact Ev_iret hq_133 (show decode prog_7_method_22_code 118 = .ok (.ireturn, 1) by decide +kernel) rfl k
          · have k := k.2 c47
            refine Ev_aload_n hq_133 (show decode prog_7_method_22_code 88 = .ok (.aload_n 0, 1) by decide +kernel) rfl ?_
            refine Ev_bipush (v := 13) hq_133 (show decode prog_7_method_22_code 89 = .ok (.bipush 13, 2) by decide +kernel) (by decide) ?_
            obtain ⟨r60, I58, h59, k⟩ := k
            refine Ev_virt (as := [.int 13]) hq_133 (show decode prog_7_method_22_code 91 = .ok (.invokevirtual 153, 3) by decide +kernel) rfl hq_137 rfl (z_le rfl) ⟨(SGn hS (by decide)), (SGk hS rfl), by decide⟩ h59 ?_
            refine Ev_if_ne (tgt := 14) hq_133 (show decode prog_7_method_22_code 94 = .ok (.ifCond .ne (-80), 3) by decide +kernel) (by decide) (fun c61 => ?_) (fun c61 => ?_)
            · have k := k.1 c61
              exact k
            · have k := k.2 (Classical.not_not.mp c61)
              refine Ev_iconst (v := 0) hq_133 (show decode prog_7_method_22_code 97 = .ok (.iconst 0, 1) by decide +kernel) (by decide) ?_
              exact Ev_iret hq_133 (show decode prog_7_method_22_code 98 = .ok (.ireturn, 1) by decide +kernel) rfl k
      · have k := k.2 (Classical.not_not.mp c35)
        refine Ev_aload_n hq_133 (show decode prog_7_method_22_code 38 = .ok (.aload_n 0, 1) by decide +kernel) rfl ?_
        refine Ev_aload_n hq_133 (show decode prog_7_method_22_code 39 = .ok (.aload_n 0, 1) by decide +kernel) rfl ?_
        refine Ev_getI hq_133 (show decode prog_7_method_22_code 40 = .ok (.getfield 116, 3) by decide +kernel) rfl (SGn hS (by decide)) (SGk hS rfl) (by decide) rfl ?_
        refine Ev_iconst (v := 1) hq_133 (show decode prog_7_method_22_code 43 = .ok (.iconst 1, 1) by decide +kernel) (by decide) ?_
        refine Ev_icmp_ne (tgt := 57) hq_133 (show decode prog_7_method_22_code 44 = .ok (.if_icmp .ne 13, 3) by decide +kernel) (by decide) (fun c62 => ?_) (fun c62 => ?_)
        · have k := k.1 c62
          refine Ev_aload_n hq_133 (show decode prog_7_method_22_code 57 = .ok (.aload_n 0, 1) by decide +kernel) rfl ?_
          refine Ev_getI hq_133 (show decode prog_7_method_22_code 58 = .ok (.getfield 119, 3) by decide +kernel) rfl (SGn hS (by decide)) (SGk hS rfl) (by decide) rfl ?_
          obtain ⟨I63, h64, k⟩ := k
          refine Ev_virt (as := [.int (I1 57 21)]) hq_133 (show decode prog_7_method_22_code 61 = .ok (.invokevirtual 139, 3) by decide +kernel) rfl hq_134 rfl (z_le rfl) ⟨(SGn hS (by decide)), (SGk hS rfl), by decide⟩ h64 ?_
          refine Ev_aload_n hq_133 (show decode prog_7_method_22_code 64 = .ok (.aload_n 0, 1) by decide +kernel) rfl ?_
          refine Ev_bipush (v := 7) hq_133 (show decode prog_7_method_22_code 65 = .ok (.bipush 7, 2) by decide +kernel) (by decide) ?_
          obtain ⟨I65, h66, k⟩ := k
          refine Ev_virt (as := [.int 7]) hq_133 (show decode prog_7_method_22_code 67 = .ok (.invokevirtual 146, 3) by decide +kernel) rfl hq_135 rfl (z_le rfl) ⟨(SGn hS (by decide)), (SGk hS rfl), by decide⟩ h66 ?_
          refine Ev_iconst (v := 0) hq_133 (show decode prog_7_method_22_code 70 = .ok (.iconst 0, 1) by decide +kernel) (by decide) ?_
          refine Ev_istore_n (lo2 := [.ref 57, .int 0, .int x2, v3]) hq_133 (show decode prog_7_method_22_code 71 = .ok (.istore_n 1, 1) by decide +kernel) (z_le rfl) rfl ?_
          refine Ev_goto (tgt := 14) hq_133 (show decode prog_7_method_22_code 72 = .ok (.goto (-58), 3) by decide +kernel) (by decide) ?_
          exact k
        · have k := k.2 (Classical.not_not.mp c62)
          refine Ev_ldc (v := 100000) hq_133 (show decode prog_7_method_22_code 47 = .ok (.ldc 152, 2) by decide +kernel) rfl ?_
          refine Ev_aload_n hq_133 (show decode prog_7_method_22_code 49 = .ok (.aload_n 0, 1) by decide +kernel) rfl ?_
          refine Ev_getI hq_133 (show decode prog_7_method_22_code 50 = .ok (.getfield 119, 3) by decide +kernel) rfl (SGn hS (by decide)) (SGk hS rfl) (by decide) rfl ?_
          refine Ev_iadd hq_133 (show decode prog_7_method_22_code 53 = .ok (.iadd, 1) by decide +kernel) ?_
          refine Ev_goto (tgt := 61) hq_133 (show decode prog_7_method_22_code 54 = .ok (.goto 7, 3) by decide +kernel) (by decide) ?_
          obtain ⟨I67, h68, k⟩ := k
          refine Ev_virt (as := [.int (100000 + (I1 57 21))]) hq_133 (show decode prog_7_method_22_code 61 = .ok (.invokevirtual 139, 3) by decide +kernel) rfl hq_134 rfl (z_le rfl) ⟨(SGn hS (by decide)), (SGk hS rfl), by decide⟩ h68 ?_
          refine Ev_aload_n hq_133 (show decode prog_7_method_22_code 64 = .ok (.aload_n 0, 1) by decide +kernel) rfl ?_
          refine Ev_bipush (v := 7) hq_133 (show decode prog_7_method_22_code 65 = .ok (.bipush 7, 2) by decide +kernel) (by decide) ?_
          obtain ⟨I69, h70, k⟩ := k
          refine Ev_virt (as := [.int 7]) hq_133 (show decode prog_7_method_22_code 67 = .ok (.invokevirtual 146, 3) by decide +kernel) rfl hq_135 rfl (z_le rfl) ⟨(SGn hS (by decide)), (SGk hS rfl), by decide⟩ h70 ?_
          refine Ev_iconst (v := 0) hq_133 (show decode prog_7_method_22_code 70 = .ok (.iconst 0, 1) by decide +kernel) (by decide) ?_
          refine Ev_istore_n (lo2 := [.ref 57, .int 0, .int x2, v3]) hq_133 (show decode prog_7_method_22_code 71 = .ok (.istore_n 1, 1) by decide +kernel) (z_le rfl) rfl ?_
          refine Ev_goto (tgt := 14) hq_133 (show decode prog_7_method_22_code 72 = .ok (.goto (-58), 3) by decide +kernel) (by decide) ?_
          exact k
set_option maxRecDepth 20000 in
theorem wp_Z_puts {X : Nat × (Nat → Int32)} {d : Nat} {G : zG} {I : zI} {res : Option Value × zG × zI} (x1 : Int32) (hS : SG G) 
    (k : z_inr ((200 * (I 57 8)) + (I 57 26)) 1200 ∧ (∀ I2 : zI, I2 = z_up I 62 ((200 * (I 57 8)) + (I 57 26)).toNatClampNeg x1 → (∀ I3 : zI, I3 = z_up I2 57 26 ((I2 57 26) + 1) → res = (none, G, I3)))) :
    Ev X d 134 0 [.ref 57, .int x1] [] G I res := by
  refine Ev_aload_n hq_134 (show decode prog_7_method_16_code 0 = .ok (.aload_n 0, 1) by decide +kernel) rfl ?_
  refine Ev_getR hq_134 (show decode prog_7_method_16_code 1 = .ok (.getfield 22, 3) by decide +kernel) rfl (SGn hS (by decide)) (SGk hS rfl) (by decide) rfl (SGr hS rfl) ?_
  refine Ev_sipush (v := 200) hq_134 (show decode prog_7_method_16_code 4 = .ok (.sipush 200, 3) by decide +kernel) (by decide) ?_
  refine Ev_aload_n hq_134 (show decode prog_7_method_16_code 7 = .ok (.aload_n 0, 1) by decide +kernel) rfl ?_
  refine Ev_getI hq_134 (show decode prog_7_method_16_code 8 = .ok (.getfield 101, 3) by decide +kernel) rfl (SGn hS (by decide)) (SGk hS rfl) (by decide) rfl ?_
  refine Ev_imul hq_134 (show decode prog_7_method_16_code 11 = .ok (.imul, 1) by decide +kernel) ?_
  refine Ev_aload_n hq_134 (show decode prog_7_method_16_code 12 = .ok (.aload_n 0, 1) by decide +kernel) rfl ?_
  refine Ev_getI hq_134 (show decode prog_7_method_16_code 13 = .ok (.getfield 126, 3) by decide +kernel) rfl (SGn hS (by decide)) (SGk hS rfl) (by decide) rfl ?_
  refine Ev_iadd hq_134 (show decode prog_7_method_16_code 16 = .ok (.iadd, 1) by decide +kernel) ?_
  refine Ev_iload_n hq_134 (show decode prog_7_method_16_code 17 = .ok (.iload_n 1, 1) by decide +kernel) rfl ?_
  obtain ⟨h1, k⟩ := k
  refine Ev_iast hq_134 (show decode prog_7_method_16_code 18 = .ok (.iastore, 1) by decide +kernel) (SGn hS (by decide)) (SGk hS rfl) (SGi hS rfl h1) ?_
  obtain ⟨I2, eI2⟩ : ∃ I2 : zI, I2 = z_up I 62 ((200 * (I 57 8)) + (I 57 26)).toNatClampNeg x1 := ⟨_, rfl⟩
  have k := k I2 eI2
  rw [← eI2]
  refine Ev_aload_n hq_134 (show decode prog_7_method_16_code 19 = .ok (.aload_n 0, 1) by decide +kernel) rfl ?_
  refine Ev_dup hq_134 (show decode prog_7_method_16_code 20 = .ok (.dup, 1) by decide +kernel) rfl ?_
  refine Ev_getI hq_134 (show decode prog_7_method_16_code 21 = .ok (.getfield 126, 3) by decide +kernel) rfl (SGn hS (by decide)) (SGk hS rfl) (by decide) rfl ?_
  refine Ev_iconst (v := 1) hq_134 (show decode prog_7_method_16_code 24 = .ok (.iconst 1, 1) by decide +kernel) (by decide) ?_
  refine Ev_iadd hq_134 (show decode prog_7_method_16_code 25 = .ok (.iadd, 1) by decide +kernel) ?_
  refine Ev_putI hq_134 (show decode prog_7_method_16_code 26 = .ok (.putfield 126, 3) by decide +kernel) rfl (SGn hS (by decide)) (SGk hS rfl) (by decide) (by decide) rfl (fun hz => by cases hz) ?_
  obtain ⟨I3, eI3⟩ : ∃ I3 : zI, I3 = z_up I2 57 26 ((I2 57 26) + 1) := ⟨_, rfl⟩
  have k := k I3 eI3
  rw [← eI3]
  exact Ev_vret hq_134 (show decode prog_7_method_16_code 29 = .ok (.return_, 1) by decide +kernel) k
set_option maxRecDepth 20000 in
theorem wp_Z_unwinds {X : Nat × (Nat → Int32)} {d : Nat} {G : zG} {I : zI} {res : Option Value × zG × zI} (x1 : Int32) (hS : SG G) 
    (k : ((I 57 24) ≤ 0 → res = (none, G, I)) ∧ (¬ (I 57 24) ≤ 0 → z_inr ((I 57 24) - 1) 200 ∧ (∃ (r5 : Int32) (I3 : zI), Cv X d 136 [.int (I 70 ((I 57 24) - 1).toNatClampNeg)] G I (some (.int r5), G, I3) ∧ ((r5 < x1 → res = (none, G, I3)) ∧ (¬ r5 < x1 → (∀ I7 : zI, I7 = z_up I3 57 24 ((I3 57 24) - 1) → z_inr (I7 57 24) 200 ∧ (∀ y9 : Int32, y9 = (I7 70 (I7 57 24).toNatClampNeg) → (y9 = 13 → (∀ I11 : zI, I11 = z_up I7 57 25 ((I7 57 25) - 1) → ∃ (I12 : zI), Cv X d 134 [.ref 57, .int y9] G I11 (none, G, I12) ∧ (Ev X (d + 1) 135 0 [.ref 57, .int x1, .int y9] [] G I12 res))) ∧ (¬ y9 = 13 → (¬ y9 = 19 → (∀ I15 : zI, I15 = z_up I7 57 25 ((I7 57 25) - 0) → ∃ (I16 : zI), Cv X d 134 [.ref 57, .int y9] G I15 (none, G, I16) ∧ (Ev X (d + 1) 135 0 [.ref 57, .int x1, .int y9] [] G I16 res))) ∧ (y9 = 19 → (∀ I18 : zI, I18 = z_up I7 57 25 ((I7 57 25) - 1) → ∃ (I19 : zI), Cv X d 134 [.ref 57, .int y9] G I18 (none, G, I19) ∧ (Ev X (d + 1) 135 0 [.ref 57, .int x1, .int y9] [] G I19 res))))))))))) :
    Ev X (d + 1) 135 0 [.ref 57, .int x1, zU] [] G I res := by
  refine Ev_aload_n hq_135 (show decode prog_7_method_17_code 0 = .ok (.aload_n 0, 1) by decide +kernel) rfl ?_
  refine Ev_getI hq_135 (show decode prog_7_method_17_code 1 = .ok (.getfield 129, 3) by decide +kernel) rfl (SGn hS (by decide)) (SGk hS rfl) (by decide) rfl ?_
  refine Ev_if_le (tgt := 79) hq_135 (show decode prog_7_method_17_code 4 = .ok (.ifCond .le 75, 3) by decide +kernel) (by decide) (fun c1 => ?_) (fun c1 => ?_)
  · have k := k.1 c1
    exact Ev_vret hq_135 (show decode prog_7_method_17_code 79 = .ok (.return_, 1) by decide +kernel) k
  · have k := k.2 c1
    refine Ev_aload_n hq_135 (show decode prog_7_method_17_code 7 = .ok (.aload_n 0, 1) by decide +kernel) rfl ?_
    refine Ev_getR hq_135 (show decode prog_7_method_17_code 8 = .ok (.getfield 46, 3) by decide +kernel) rfl (SGn hS (by decide)) (SGk hS rfl) (by decide) rfl (SGr hS rfl) ?_
    refine Ev_aload_n hq_135 (show decode prog_7_method_17_code 11 = .ok (.aload_n 0, 1) by decide +kernel) rfl ?_
    refine Ev_getI hq_135 (show decode prog_7_method_17_code 12 = .ok (.getfield 129, 3) by decide +kernel) rfl (SGn hS (by decide)) (SGk hS rfl) (by decide) rfl ?_
    refine Ev_iconst (v := 1) hq_135 (show decode prog_7_method_17_code 15 = .ok (.iconst 1, 1) by decide +kernel) (by decide) ?_
    refine Ev_isub hq_135 (show decode prog_7_method_17_code 16 = .ok (.isub, 1) by decide +kernel) ?_
    obtain ⟨h2, k⟩ := k
    refine Ev_iald hq_135 (show decode prog_7_method_17_code 17 = .ok (.iaload, 1) by decide +kernel) (SGn hS (by decide)) (SGk hS rfl) (SGi hS rfl h2) ?_
    obtain ⟨r5, I3, h4, k⟩ := k
    refine Ev_stat (as := [.int (I 70 ((I 57 24) - 1).toNatClampNeg)]) hq_135 (show decode prog_7_method_17_code 18 = .ok (.invokestatic 132, 3) by decide +kernel) rfl (Or.inl rfl) hq_136 rfl (z_le rfl) h4 ?_
    refine Ev_iload_n hq_135 (show decode prog_7_method_17_code 21 = .ok (.iload_n 1, 1) by decide +kernel) rfl ?_
    refine Ev_icmp_lt (tgt := 79) hq_135 (show decode prog_7_method_17_code 22 = .ok (.if_icmp .lt 57, 3) by decide +kernel) (by decide) (fun c6 => ?_) (fun c6 => ?_)
    · have k := k.1 c6
      exact Ev_vret hq_135 (show decode prog_7_method_17_code 79 = .ok (.return_, 1) by decide +kernel) k
    · have k := k.2 c6
      refine Ev_aload_n hq_135 (show decode prog_7_method_17_code 25 = .ok (.aload_n 0, 1) by decide +kernel) rfl ?_
      refine Ev_dup hq_135 (show decode prog_7_method_17_code 26 = .ok (.dup, 1) by decide +kernel) rfl ?_
      refine Ev_getI hq_135 (show decode prog_7_method_17_code 27 = .ok (.getfield 129, 3) by decide +kernel) rfl (SGn hS (by decide)) (SGk hS rfl) (by decide) rfl ?_
      refine Ev_iconst (v := 1) hq_135 (show decode prog_7_method_17_code 30 = .ok (.iconst 1, 1) by decide +kernel) (by decide) ?_
      refine Ev_isub hq_135 (show decode prog_7_method_17_code 31 = .ok (.isub, 1) by decide +kernel) ?_
      refine Ev_putI hq_135 (show decode prog_7_method_17_code 32 = .ok (.putfield 129, 3) by decide +kernel) rfl (SGn hS (by decide)) (SGk hS rfl) (by decide) (by decide) rfl (fun hz => by cases hz) ?_
      obtain ⟨I7, eI7⟩ : ∃ I7 : zI, I7 = z_up I3 57 24 ((I3 57 24) - 1) := ⟨_, rfl⟩
      have k := k I7 eI7
      rw [← eI7]
      refine Ev_aload_n hq_135 (show decode prog_7_method_17_code 35 = .ok (.aload_n 0, 1) by decide +kernel) rfl ?_
      refine Ev_getR hq_135 (show decode prog_7_method_17_code 36 = .ok (.getfield 46, 3) by decide +kernel) rfl (SGn hS (by decide)) (SGk hS rfl) (by decide) rfl (SGr hS rfl) ?_
      refine Ev_aload_n hq_135 (show decode prog_7_method_17_code 39 = .ok (.aload_n 0, 1) by decide +kernel) rfl ?_
      refine Ev_getI hq_135 (show decode prog_7_method_17_code 40 = .ok (.getfield 129, 3) by decide +kernel) rfl (SGn hS (by decide)) (SGk hS rfl) (by decide) rfl ?_
      obtain ⟨h8, k⟩ := k
      refine Ev_iald hq_135 (show decode prog_7_method_17_code 43 = .ok (.iaload, 1) by decide +kernel) (SGn hS (by decide)) (SGk hS rfl) (SGi hS rfl h8) ?_
      obtain ⟨y9, ey9⟩ : ∃ y9 : Int32, y9 = (I7 70 (I7 57 24).toNatClampNeg) := ⟨_, rfl⟩
      have k := k y9 ey9
      rw [← ey9]
      refine Ev_istore_n (lo2 := [.ref 57, .int x1, .int y9]) hq_135 (show decode prog_7_method_17_code 44 = .ok (.istore_n 2, 1) by decide +kernel) (z_le rfl) rfl ?_
      refine Ev_aload_n hq_135 (show decode prog_7_method_17_code 45 = .ok (.aload_n 0, 1) by decide +kernel) rfl ?_
      refine Ev_dup hq_135 (show decode prog_7_method_17_code 46 = .ok (.dup, 1) by decide +kernel) rfl ?_
      refine Ev_getI hq_135 (show decode prog_7_method_17_code 47 = .ok (.getfield 136, 3) by decide +kernel) rfl (SGn hS (by decide)) (SGk hS rfl) (by decide) rfl ?_
      refine Ev_iload_n hq_135 (show decode prog_7_method_17_code 50 = .ok (.iload_n 2, 1) by decide +kernel) rfl ?_
      refine Ev_bipush (v := 13) hq_135 (show decode prog_7_method_17_code 51 = .ok (.bipush 13, 2) by decide +kernel) (by decide) ?_
      refine Ev_icmp_eq (tgt := 62) hq_135 (show decode prog_7_method_17_code 53 = .ok (.if_icmp .eq 9, 3) by decide +kernel) (by decide) (fun c10 => ?_) (fun c10 => ?_)
      · have k := k.1 c10
        refine Ev_iconst (v := 1) hq_135 (show decode prog_7_method_17_code 62 = .ok (.iconst 1, 1) by decide +kernel) (by decide) ?_
        refine Ev_goto (tgt := 67) hq_135 (show decode prog_7_method_17_code 63 = .ok (.goto 4, 3) by decide +kernel) (by decide) ?_
        refine Ev_isub hq_135 (show decode prog_7_method_17_code 67 = .ok (.isub, 1) by decide +kernel) ?_
        refine Ev_putI hq_135 (show decode prog_7_method_17_code 68 = .ok (.putfield 136, 3) by decide +kernel) rfl (SGn hS (by decide)) (SGk hS rfl) (by decide) (by decide) rfl (fun hz => by cases hz) ?_
        obtain ⟨I11, eI11⟩ : ∃ I11 : zI, I11 = z_up I7 57 25 ((I7 57 25) - 1) := ⟨_, rfl⟩
        have k := k I11 eI11
        rw [← eI11]
        refine Ev_aload_n hq_135 (show decode prog_7_method_17_code 71 = .ok (.aload_n 0, 1) by decide +kernel) rfl ?_
        refine Ev_iload_n hq_135 (show decode prog_7_method_17_code 72 = .ok (.iload_n 2, 1) by decide +kernel) rfl ?_
        obtain ⟨I12, h13, k⟩ := k
        refine Ev_virt (as := [.int y9]) hq_135 (show decode prog_7_method_17_code 73 = .ok (.invokevirtual 139, 3) by decide +kernel) rfl hq_134 rfl (z_le rfl) ⟨(SGn hS (by decide)), (SGk hS rfl), by decide⟩ h13 ?_
        refine Ev_goto (tgt := 0) hq_135 (show decode prog_7_method_17_code 76 = .ok (.goto (-76), 3) by decide +kernel) (by decide) ?_
        exact k
      · have k := k.2 c10
        refine Ev_iload_n hq_135 (show decode prog_7_method_17_code 56 = .ok (.iload_n 2, 1) by decide +kernel) rfl ?_
        refine Ev_bipush (v := 19) hq_135 (show decode prog_7_method_17_code 57 = .ok (.bipush 19, 2) by decide +kernel) (by decide) ?_
        refine Ev_icmp_ne (tgt := 66) hq_135 (show decode prog_7_method_17_code 59 = .ok (.if_icmp .ne 7, 3) by decide +kernel) (by decide) (fun c14 => ?_) (fun c14 => ?_)
        · have k := k.1 c14
          refine Ev_iconst (v := 0) hq_135 (show decode prog_7_method_17_code 66 = .ok (.iconst 0, 1) by decide +kernel) (by decide) ?_
          refine Ev_isub hq_135 (show decode prog_7_method_17_code 67 = .ok (.isub, 1) by decide +kernel) ?_
          refine Ev_putI hq_135 (show decode prog_7_method_17_code 68 = .ok (.putfield 136, 3) by decide +kernel) rfl (SGn hS (by decide)) (SGk hS rfl) (by decide) (by decide) rfl (fun hz => by cases hz) ?_
          obtain ⟨I15, eI15⟩ : ∃ I15 : zI, I15 = z_up I7 57 25 ((I7 57 25) - 0) := ⟨_, rfl⟩
          have k := k I15 eI15
          rw [← eI15]
          refine Ev_aload_n hq_135 (show decode prog_7_method_17_code 71 = .ok (.aload_n 0, 1) by decide +kernel) rfl ?_
          refine Ev_iload_n hq_135 (show decode prog_7_method_17_code 72 = .ok (.iload_n 2, 1) by decide +kernel) rfl ?_
          obtain ⟨I16, h17, k⟩ := k
          refine Ev_virt (as := [.int y9]) hq_135 (show decode prog_7_method_17_code 73 = .ok (.invokevirtual 139, 3) by decide +kernel) rfl hq_134 rfl (z_le rfl) ⟨(SGn hS (by decide)), (SGk hS rfl), by decide⟩ h17 ?_
          refine Ev_goto (tgt := 0) hq_135 (show decode prog_7_method_17_code 76 = .ok (.goto (-76), 3) by decide +kernel) (by decide) ?_
          exact k
        · have k := k.2 (Classical.not_not.mp c14)
          refine Ev_iconst (v := 1) hq_135 (show decode prog_7_method_17_code 62 = .ok (.iconst 1, 1) by decide +kernel) (by decide) ?_
          refine Ev_goto (tgt := 67) hq_135 (show decode prog_7_method_17_code 63 = .ok (.goto 4, 3) by decide +kernel) (by decide) ?_
          refine Ev_isub hq_135 (show decode prog_7_method_17_code 67 = .ok (.isub, 1) by decide +kernel) ?_
          refine Ev_putI hq_135 (show decode prog_7_method_17_code 68 = .ok (.putfield 136, 3) by decide +kernel) rfl (SGn hS (by decide)) (SGk hS rfl) (by decide) (by decide) rfl (fun hz => by cases hz) ?_
          obtain ⟨I18, eI18⟩ : ∃ I18 : zI, I18 = z_up I7 57 25 ((I7 57 25) - 1) := ⟨_, rfl⟩
          have k := k I18 eI18
          rw [← eI18]
          refine Ev_aload_n hq_135 (show decode prog_7_method_17_code 71 = .ok (.aload_n 0, 1) by decide +kernel) rfl ?_
          refine Ev_iload_n hq_135 (show decode prog_7_method_17_code 72 = .ok (.iload_n 2, 1) by decide +kernel) rfl ?_
          obtain ⟨I19, h20, k⟩ := k
          refine Ev_virt (as := [.int y9]) hq_135 (show decode prog_7_method_17_code 73 = .ok (.invokevirtual 139, 3) by decide +kernel) rfl hq_134 rfl (z_le rfl) ⟨(SGn hS (by decide)), (SGk hS rfl), by decide⟩ h20 ?_
          refine Ev_goto (tgt := 0) hq_135 (show decode prog_7_method_17_code 76 = .ok (.goto (-76), 3) by decide +kernel) (by decide) ?_
          exact k
set_option maxRecDepth 20000 in
theorem wp_Z_unwinds_0 {X : Nat × (Nat → Int32)} {d : Nat} {G : zG} {I : zI} {res : Option Value × zG × zI} (x1 : Int32) (x2 : Int32) (hS : SG G) 
    (k : ((I 57 24) ≤ 0 → res = (none, G, I)) ∧ (¬ (I 57 24) ≤ 0 → z_inr ((I 57 24) - 1) 200 ∧ (∃ (r5 : Int32) (I3 : zI), Cv X d 136 [.int (I 70 ((I 57 24) - 1).toNatClampNeg)] G I (some (.int r5), G, I3) ∧ ((r5 < x1 → res = (none, G, I3)) ∧ (¬ r5 < x1 → (∀ I7 : zI, I7 = z_up I3 57 24 ((I3 57 24) - 1) → z_inr (I7 57 24) 200 ∧ (∀ y9 : Int32, y9 = (I7 70 (I7 57 24).toNatClampNeg) → (y9 = 13 → (∀ I11 : zI, I11 = z_up I7 57 25 ((I7 57 25) - 1) → ∃ (I12 : zI), Cv X d 134 [.ref 57, .int y9] G I11 (none, G, I12) ∧ (Ev X (d + 1) 135 0 [.ref 57, .int x1, .int y9] [] G I12 res))) ∧ (¬ y9 = 13 → (¬ y9 = 19 → (∀ I15 : zI, I15 = z_up I7 57 25 ((I7 57 25) - 0) → ∃ (I16 : zI), Cv X d 134 [.ref 57, .int y9] G I15 (none, G, I16) ∧ (Ev X (d + 1) 135 0 [.ref 57, .int x1, .int y9] [] G I16 res))) ∧ (y9 = 19 → (∀ I18 : zI, I18 = z_up I7 57 25 ((I7 57 25) - 1) → ∃ (I19 : zI), Cv X d 134 [.ref 57, .int y9] G I18 (none, G, I19) ∧ (Ev X (d + 1) 135 0 [.ref 57, .int x1, .int y9] [] G I19 res))))))))))) :
    Ev X (d + 1) 135 0 [.ref 57, .int x1, .int x2] [] G I res := by
  refine Ev_aload_n hq_135 (show decode prog_7_method_17_code 0 = .ok (.aload_n 0, 1) by decide +kernel) rfl ?_
  refine Ev_getI hq_135 (show decode prog_7_method_17_code 1 = .ok (.getfield 129, 3) by decide +kernel) rfl (SGn hS (by decide)) (SGk hS rfl) (by decide) rfl ?_
  refine Ev_if_le (tgt := 79) hq_135 (show decode prog_7_method_17_code 4 = .ok (.ifCond .le 75, 3) by decide +kernel) (by decide) (fun c1 => ?_) (fun c1 => ?_)
  · have k := k.1 c1
    exact Ev_vret hq_135 (show decode prog_7_method_17_code 79 = .ok (.return_, 1) by decide +kernel) k
  · have k := k.2 c1
    refine Ev_aload_n hq_135 (show decode prog_7_method_17_code 7 = .ok (.aload_n 0, 1) by decide +kernel) rfl ?_
    refine Ev_getR hq_135 (show decode prog_7_method_17_code 8 = .ok (.getfield 46, 3) by decide +kernel) rfl (SGn hS (by decide)) (SGk hS rfl) (by decide) rfl (SGr hS rfl) ?_
    refine Ev_aload_n hq_135 (show decode prog_7_method_17_code 11 = .ok (.aload_n 0, 1) by decide +kernel) rfl ?_
    refine Ev_getI hq_135 (show decode prog_7_method_17_code 12 = .ok (.getfield 129, 3) by decide +kernel) rfl (SGn hS (by decide)) (SGk hS rfl) (by decide) rfl ?_
    refine Ev_iconst (v := 1) hq_135 (show decode prog_7_method_17_code 15 = .ok (.iconst 1, 1) by decide +kernel) (by decide) ?_
    refine Ev_isub hq_135 (show decode prog_7_method_17_code 16 = .ok (.isub, 1) by decide +kernel) ?_
    obtain ⟨h2, k⟩ := k
    refine Ev_iald hq_135 (show decode prog_7_method_17_code 17 = .ok (.iaload, 1) by decide +kernel) (SGn hS (by decide)) (SGk hS rfl) (SGi hS rfl h2) ?_
    obtain ⟨r5, I3, h4, k⟩ := k
    refine Ev_stat (as := [.int (I 70 ((I 57 24) - 1).toNatClampNeg)]) hq_135 (show decode prog_7_method_17_code 18 = .ok (.invokestatic 132, 3) by decide +kernel) rfl (Or.inl rfl) hq_136 rfl (z_le rfl) h4 ?_
    refine Ev_iload_n hq_135 (show decode prog_7_method_17_code 21 = .ok (.iload_n 1, 1) by decide +kernel) rfl ?_
    refine Ev_icmp_lt (tgt := 79) hq_135 (show decode prog_7_method_17_code 22 = .ok (.if_icmp .lt 57, 3) by decide +kernel) (by decide) (fun c6 => ?_) (fun c6 => ?_)
    · have k := k.1 c6
      exact Ev_vret hq_135 (show decode prog_7_method_17_code 79 = .ok (.return_, 1) by decide +kernel) k
    · have k := k.2 c6
      refine Ev_aload_n hq_135 (show decode prog_7_method_17_code 25 = .ok (.aload_n 0, 1) by decide +kernel) rfl ?_
      refine Ev_dup hq_135 (show decode prog_7_method_17_code 26 = .ok (.dup, 1) by decide +kernel) rfl ?_
      refine Ev_getI hq_135 (show decode prog_7_method_17_code 27 = .ok (.getfield 129, 3) by decide +kernel) rfl (SGn hS (by decide)) (SGk hS rfl) (by decide) rfl ?_
      refine Ev_iconst (v := 1) hq_135 (show decode prog_7_method_17_code 30 = .ok (.iconst 1, 1) by decide +kernel) (by decide) ?_
      refine Ev_isub hq_135 (show decode prog_7_method_17_code 31 = .ok (.isub, 1) by decide +kernel) ?_
      refine Ev_putI hq_135 (show decode prog_7_method_17_code 32 = .ok (.putfield 129, 3) by decide +kernel) rfl (SGn hS (by decide)) (SGk hS rfl) (by decide) (by decide) rfl (fun hz => by cases hz) ?_
      obtain ⟨I7, eI7⟩ : ∃ I7 : zI, I7 = z_up I3 57 24 ((I3 57 24) - 1) := ⟨_, rfl⟩
      have k := k I7 eI7
      rw [← eI7]
      refine Ev_aload_n hq_135 (show decode prog_7_method_17_code 35 = .ok (.aload_n 0, 1) by decide +kernel) rfl ?_
      refine Ev_getR hq_135 (show decode prog_7_method_17_code 36 = .ok (.getfield 46, 3) by decide +kernel) rfl (SGn hS (by decide)) (SGk hS rfl) (by decide) rfl (SGr hS rfl) ?_
      refine Ev_aload_n hq_135 (show decode prog_7_method_17_code 39 = .ok (.aload_n 0, 1) by decide +kernel) rfl ?_
      refine Ev_getI hq_135 (show decode prog_7_method_17_code 40 = .ok (.getfield 129, 3) by decide +kernel) rfl (SGn hS (by decide)) (SGk hS rfl) (by decide) rfl ?_
      obtain ⟨h8, k⟩ := k
      refine Ev_iald hq_135 (show decode prog_7_method_17_code 43 = .ok (.iaload, 1) by decide +kernel) (SGn hS (by decide)) (SGk hS rfl) (SGi hS rfl h8) ?_
      obtain ⟨y9, ey9⟩ : ∃ y9 : Int32, y9 = (I7 70 (I7 57 24).toNatClampNeg) := ⟨_, rfl⟩
      have k := k y9 ey9
      rw [← ey9]
      refine Ev_istore_n (lo2 := [.ref 57, .int x1, .int y9]) hq_135 (show decode prog_7_method_17_code 44 = .ok (.istore_n 2, 1) by decide +kernel) (z_le rfl) rfl ?_
      refine Ev_aload_n hq_135 (show decode prog_7_method_17_code 45 = .ok (.aload_n 0, 1) by decide +kernel) rfl ?_
      refine Ev_dup hq_135 (show decode prog_7_method_17_code 46 = .ok (.dup, 1) by decide +kernel) rfl ?_
      refine Ev_getI hq_135 (show decode prog_7_method_17_code 47 = .ok (.getfield 136, 3) by decide +kernel) rfl (SGn hS (by decide)) (SGk hS rfl) (by decide) rfl ?_
      refine Ev_iload_n hq_135 (show decode prog_7_method_17_code 50 = .ok (.iload_n 2, 1) by decide +kernel) rfl ?_
      refine Ev_bipush (v := 13) hq_135 (show decode prog_7_method_17_code 51 = .ok (.bipush 13, 2) by decide +kernel) (by decide) ?_
      refine Ev_icmp_eq (tgt := 62) hq_135 (show decode prog_7_method_17_code 53 = .ok (.if_icmp .eq 9, 3) by decide +kernel) (by decide) (fun c10 => ?_) (fun c10 => ?_)
      · have k := k.1 c10
        refine Ev_iconst (v := 1) hq_135 (show decode prog_7_method_17_code 62 = .ok (.iconst 1, 1) by decide +kernel) (by decide) ?_
        refine Ev_goto (tgt := 67) hq_135 (show decode prog_7_method_17_code 63 = .ok (.goto 4, 3) by decide +kernel) (by decide) ?_
        refine Ev_isub hq_135 (show decode prog_7_method_17_code 67 = .ok (.isub, 1) by decide +kernel) ?_
        refine Ev_putI hq_135 (show decode prog_7_method_17_code 68 = .ok (.putfield 136, 3) by decide +kernel) rfl (SGn hS (by decide)) (SGk hS rfl) (by decide) (by decide) rfl (fun hz => by cases hz) ?_
        obtain ⟨I11, eI11⟩ : ∃ I11 : zI, I11 = z_up I7 57 25 ((I7 57 25) - 1) := ⟨_, rfl⟩
        have k := k I11 eI11
        rw [← eI11]
        refine Ev_aload_n hq_135 (show decode prog_7_method_17_code 71 = .ok (.aload_n 0, 1) by decide +kernel) rfl ?_
        refine Ev_iload_n hq_135 (show decode prog_7_method_17_code 72 = .ok (.iload_n 2, 1) by decide +kernel) rfl ?_
        obtain ⟨I12, h13, k⟩ := k
        refine Ev_virt (as := [.int y9]) hq_135 (show decode prog_7_method_17_code 73 = .ok (.invokevirtual 139, 3) by decide +kernel) rfl hq_134 rfl (z_le rfl) ⟨(SGn hS (by decide)), (SGk hS rfl), by decide⟩ h13 ?_
        refine Ev_goto (tgt := 0) hq_135 (show decode prog_7_method_17_code 76 = .ok (.goto (-76), 3) by decide +kernel) (by decide) ?_
        exact k
      · have k := k.2 c10
        refine Ev_iload_n hq_135 (show decode prog_7_method_17_code 56 = .ok (.iload_n 2, 1) by decide +kernel) rfl ?_
        refine Ev_bipush (v := 19) hq_135 (show decode prog_7_method_17_code 57 = .ok (.bipush 19, 2) by decide +kernel) (by decide) ?_
        refine Ev_icmp_ne (tgt := 66) hq_135 (show decode prog_7_method_17_code 59 = .ok (.if_icmp .ne 7, 3) by decide +kernel) (by decide) (fun c14 => ?_) (fun c14 => ?_)
        · have k := k.1 c14
          refine Ev_iconst (v := 0) hq_135 (show decode prog_7_method_17_code 66 = .ok (.iconst 0, 1) by decide +kernel) (by decide) ?_
          refine Ev_isub hq_135 (show decode prog_7_method_17_code 67 = .ok (.isub, 1) by decide +kernel) ?_
          refine Ev_putI hq_135 (show decode prog_7_method_17_code 68 = .ok (.putfield 136, 3) by decide +kernel) rfl (SGn hS (by decide)) (SGk hS rfl) (by decide) (by decide) rfl (fun hz => by cases hz) ?_
          obtain ⟨I15, eI15⟩ : ∃ I15 : zI, I15 = z_up I7 57 25 ((I7 57 25) - 0) := ⟨_, rfl⟩
          have k := k I15 eI15
          rw [← eI15]
          refine Ev_aload_n hq_135 (show decode prog_7_method_17_code 71 = .ok (.aload_n 0, 1) by decide +kernel) rfl ?_
          refine Ev_iload_n hq_135 (show decode prog_7_method_17_code 72 = .ok (.iload_n 2, 1) by decide +kernel) rfl ?_
          obtain ⟨I16, h17, k⟩ := k
          refine Ev_virt (as := [.int y9]) hq_135 (show decode prog_7_method_17_code 73 = .ok (.invokevirtual 139, 3) by decide +kernel) rfl hq_134 rfl (z_le rfl) ⟨(SGn hS (by decide)), (SGk hS rfl), by decide⟩ h17 ?_
          refine Ev_goto (tgt := 0) hq_135 (show decode prog_7_method_17_code 76 = .ok (.goto (-76), 3) by decide +kernel) (by decide) ?_
          exact k
        · have k := k.2 (Classical.not_not.mp c14)
          refine Ev_iconst (v := 1) hq_135 (show decode prog_7_method_17_code 62 = .ok (.iconst 1, 1) by decide +kernel) (by decide) ?_
          refine Ev_goto (tgt := 67) hq_135 (show decode prog_7_method_17_code 63 = .ok (.goto 4, 3) by decide +kernel) (by decide) ?_
          refine Ev_isub hq_135 (show decode prog_7_method_17_code 67 = .ok (.isub, 1) by decide +kernel) ?_
          refine Ev_putI hq_135 (show decode prog_7_method_17_code 68 = .ok (.putfield 136, 3) by decide +kernel) rfl (SGn hS (by decide)) (SGk hS rfl) (by decide) (by decide) rfl (fun hz => by cases hz) ?_
          obtain ⟨I18, eI18⟩ : ∃ I18 : zI, I18 = z_up I7 57 25 ((I7 57 25) - 1) := ⟨_, rfl⟩
          have k := k I18 eI18
          rw [← eI18]
          refine Ev_aload_n hq_135 (show decode prog_7_method_17_code 71 = .ok (.aload_n 0, 1) by decide +kernel) rfl ?_
          refine Ev_iload_n hq_135 (show decode prog_7_method_17_code 72 = .ok (.iload_n 2, 1) by decide +kernel) rfl ?_
          obtain ⟨I19, h20, k⟩ := k
          refine Ev_virt (as := [.int y9]) hq_135 (show decode prog_7_method_17_code 73 = .ok (.invokevirtual 139, 3) by decide +kernel) rfl hq_134 rfl (z_le rfl) ⟨(SGn hS (by decide)), (SGk hS rfl), by decide⟩ h20 ?_
          refine Ev_goto (tgt := 0) hq_135 (show decode prog_7_method_17_code 76 = .ok (.goto (-76), 3) by decide +kernel) (by decide) ?_
          exact k
set_option maxRecDepth 20000 in
theorem wp_Z_rank {X : Nat × (Nat → Int32)} {d : Nat} {G : zG} {I : zI} {res : Option Value × zG × zI} (x0 : Int32) 
    (k : (¬ x0 = 0 → (¬ x0 = 11 → (¬ x0 = 12 → (¬ x0 = 13 → (15 < x0 → (17 < x0 → (¬ x0 = 18 → res = (some (.int 7), G, I)) ∧ (x0 = 18 → res = (some (.int 6), G, I))) ∧ (¬ 17 < x0 → res = (some (.int 5), G, I))) ∧ (¬ 15 < x0 → res = (some (.int 4), G, I))) ∧ (x0 = 13 → res = (some (.int 3), G, I))) ∧ (x0 = 12 → res = (some (.int 2), G, I))) ∧ (x0 = 11 → res = (some (.int 1), G, I))) ∧ (x0 = 0 → res = (some (.int 0), G, I))) :
    Ev X d 136 0 [.int x0] [] G I res := by
  refine Ev_iload_n hq_136 (show decode prog_7_method_15_code 0 = .ok (.iload_n 0, 1) by decide +kernel) rfl ?_
  refine Ev_if_ne (tgt := 8) hq_136 (show decode prog_7_method_15_code 1 = .ok (.ifCond .ne 7, 3) by decide +kernel) (by decide) (fun c1 => ?_) (fun c1 => ?_)
  · have k := k.1 c1
    refine Ev_iload_n hq_136 (show decode prog_7_method_15_code 8 = .ok (.iload_n 0, 1) by decide +kernel) rfl ?_
    refine Ev_bipush (v := 11) hq_136 (show decode prog_7_method_15_code 9 = .ok (.bipush 11, 2) by decide +kernel) (by decide) ?_
    refine Ev_icmp_ne (tgt := 18) hq_136 (show decode prog_7_method_15_code 11 = .ok (.if_icmp .ne 7, 3) by decide +kernel) (by decide) (fun c2 => ?_) (fun c2 => ?_)
    · have k := k.1 c2
      refine Ev_iload_n hq_136 (show decode prog_7_method_15_code 18 = .ok (.iload_n 0, 1) by decide +kernel) rfl ?_
      refine Ev_bipush (v := 12) hq_136 (show decode prog_7_method_15_code 19 = .ok (.bipush 12, 2) by decide +kernel) (by decide) ?_
      refine Ev_icmp_ne (tgt := 28) hq_136 (show decode prog_7_method_15_code 21 = .ok (.if_icmp .ne 7, 3) by decide +kernel) (by decide) (fun c3 => ?_) (fun c3 => ?_)
      · have k := k.1 c3
        refine Ev_iload_n hq_136 (show decode prog_7_method_15_code 28 = .ok (.iload_n 0, 1) by decide +kernel) rfl ?_
        refine Ev_bipush (v := 13) hq_136 (show decode prog_7_method_15_code 29 = .ok (.bipush 13, 2) by decide +kernel) (by decide) ?_
        refine Ev_icmp_ne (tgt := 38) hq_136 (show decode prog_7_method_15_code 31 = .ok (.if_icmp .ne 7, 3) by decide +kernel) (by decide) (fun c4 => ?_) (fun c4 => ?_)
        · have k := k.1 c4
          refine Ev_iload_n hq_136 (show decode prog_7_method_15_code 38 = .ok (.iload_n 0, 1) by decide +kernel) rfl ?_
          refine Ev_bipush (v := 15) hq_136 (show decode prog_7_method_15_code 39 = .ok (.bipush 15, 2) by decide +kernel) (by decide) ?_
          refine Ev_icmp_gt (tgt := 48) hq_136 (show decode prog_7_method_15_code 41 = .ok (.if_icmp .gt 7, 3) by decide +kernel) (by decide) (fun c5 => ?_) (fun c5 => ?_)
          · have k := k.1 c5
            refine Ev_iload_n hq_136 (show decode prog_7_method_15_code 48 = .ok (.iload_n 0, 1) by decide +kernel) rfl ?_
            refine Ev_bipush (v := 17) hq_136 (show decode prog_7_method_15_code 49 = .ok (.bipush 17, 2) by decide +kernel) (by decide) ?_
            refine Ev_icmp_gt (tgt := 58) hq_136 (show decode prog_7_method_15_code 51 = .ok (.if_icmp .gt 7, 3) by decide +kernel) (by decide) (fun c6 => ?_) (fun c6 => ?_)
            · have k := k.1 c6
              refine Ev_iload_n hq_136 (show decode prog_7_method_15_code 58 = .ok (.iload_n 0, 1) by decide +kernel) rfl ?_
              refine Ev_bipush (v := 18) hq_136 (show decode prog_7_method_15_code 59 = .ok (.bipush 18, 2) by decide +kernel) (by decide) ?_
              refine Ev_icmp_ne (tgt := 69) hq_136 (show decode prog_7_method_15_code 61 = .ok (.if_icmp .ne 8, 3) by decide +kernel) (by decide) (fun c7 => ?_) (fun c7 => ?_)
              · have k := k.1 c7
                refine Ev_bipush (v := 7) hq_136 (show decode prog_7_method_15_code 69 = .ok (.bipush 7, 2) by decide +kernel) (by decide) ?_
                exact Ev_iret hq_136 (show decode prog_7_method_15_code 71 = .ok (.ireturn, 1) by decide +kernel) rfl k
              · have k := k.2 (Classical.not_not.mp c7)
                refine Ev_bipush (v := 6) hq_136 (show decode prog_7_method_15_code 64 = .ok (.bipush 6, 2) by decide +kernel) (by decide) ?_
                refine Ev_goto (tgt := 71) hq_136 (show decode prog_7_method_15_code 66 = .ok (.goto 5, 3) by decide +kernel) (by decide) ?_
                exact Ev_iret hq_136 (show decode prog_7_method_15_code 71 = .ok (.ireturn, 1) by decide +kernel) rfl k
            · have k := k.2 c6
              refine Ev_iconst (v := 5) hq_136 (show decode prog_7_method_15_code 54 = .ok (.iconst 5, 1) by decide +kernel) (by decide) ?_
              refine Ev_goto (tgt := 71) hq_136 (show decode prog_7_method_15_code 55 = .ok (.goto 16, 3) by decide +kernel) (by decide) ?_
              exact Ev_iret hq_136 (show decode prog_7_method_15_code 71 = .ok (.ireturn, 1) by decide +kernel) rfl k
          · have k := k.2 c5
            refine Ev_iconst (v := 4) hq_136 (show decode prog_7_method_15_code 44 = .ok (.iconst 4, 1) by decide +kernel) (by decide) ?_
            refine Ev_goto (tgt := 71) hq_136 (show decode prog_7_method_15_code 45 = .ok (.goto 26, 3) by decide +kernel) (by decide) ?_
            exact Ev_iret hq_136 (show decode prog_7_method_15_code 71 = .ok (.ireturn, 1) by decide +kernel) rfl k
        · have k := k.2 (Classical.not_not.mp c4)
          refine Ev_iconst (v := 3) hq_136 (show decode prog_7_method_15_code 34 = .ok (.iconst 3, 1) by decide +kernel) (by decide) ?_
          refine Ev_goto (tgt := 71) hq_136 (show decode prog_7_method_15_code 35 = .ok (.goto 36, 3) by decide +kernel) (by decide) ?_
          exact Ev_iret hq_136 (show decode prog_7_method_15_code 71 = .ok (.ireturn, 1) by decide +kernel) rfl k
      · have k := k.2 (Classical.not_not.mp c3)
        refine Ev_iconst (v := 2) hq_136 (show decode prog_7_method_15_code 24 = .ok (.iconst 2, 1) by decide +kernel) (by decide) ?_
        refine Ev_goto (tgt := 71) hq_136 (show decode prog_7_method_15_code 25 = .ok (.goto 46, 3) by decide +kernel) (by decide) ?_
        exact Ev_iret hq_136 (show decode prog_7_method_15_code 71 = .ok (.ireturn, 1) by decide +kernel) rfl k
    · have k := k.2 (Classical.not_not.mp c2)
      refine Ev_iconst (v := 1) hq_136 (show decode prog_7_method_15_code 14 = .ok (.iconst 1, 1) by decide +kernel) (by decide) ?_
      refine Ev_goto (tgt := 71) hq_136 (show decode prog_7_method_15_code 15 = .ok (.goto 56, 3) by decide +kernel) (by decide) ?_
      exact Ev_iret hq_136 (show decode prog_7_method_15_code 71 = .ok (.ireturn, 1) by decide +kernel) rfl k
  · have k := k.2 (Classical.not_not.mp c1)
    refine Ev_iconst (v := 0) hq_136 (show decode prog_7_method_15_code 4 = .ok (.iconst 0, 1) by decide +kernel) (by decide) ?_
    refine Ev_goto (tgt := 71) hq_136 (show decode prog_7_method_15_code 5 = .ok (.goto 66, 3) by decide +kernel) (by decide) ?_
    exact Ev_iret hq_136 (show decode prog_7_method_15_code 71 = .ok (.ireturn, 1) by decide +kernel) rfl k
set_option maxRecDepth 20000 in
theorem wp_Z_opensOne {X : Nat × (Nat → Int32)} {d : Nat} {G : zG} {I : zI} {res : Option Value × zG × zI} (x1 : Int32) (hS : SG G) 
    (k : (¬ (I 57 25) = 5 → (∀ I2 : zI, I2 = z_up I 57 25 ((I 57 25) + 1) → ∃ (I3 : zI), Cv X d 138 [.ref 57, .int x1] G I2 (none, G, I3) ∧ (res = (some (.int 1), G, I3)))) ∧ ((I 57 25) = 5 → res = (some (.int 0), G, I))) :
    Ev X (d + 1) 137 0 [.ref 57, .int x1] [] G I res := by
  refine Ev_aload_n hq_137 (show decode prog_7_method_19_code 0 = .ok (.aload_n 0, 1) by decide +kernel) rfl ?_
  refine Ev_getI hq_137 (show decode prog_7_method_19_code 1 = .ok (.getfield 136, 3) by decide +kernel) rfl (SGn hS (by decide)) (SGk hS rfl) (by decide) rfl ?_
  refine Ev_iconst (v := 5) hq_137 (show decode prog_7_method_19_code 4 = .ok (.iconst 5, 1) by decide +kernel) (by decide) ?_
  refine Ev_icmp_ne (tgt := 10) hq_137 (show decode prog_7_method_19_code 5 = .ok (.if_icmp .ne 5, 3) by decide +kernel) (by decide) (fun c1 => ?_) (fun c1 => ?_)
  · have k := k.1 c1
    refine Ev_aload_n hq_137 (show decode prog_7_method_19_code 10 = .ok (.aload_n 0, 1) by decide +kernel) rfl ?_
    refine Ev_dup hq_137 (show decode prog_7_method_19_code 11 = .ok (.dup, 1) by decide +kernel) rfl ?_
    refine Ev_getI hq_137 (show decode prog_7_method_19_code 12 = .ok (.getfield 136, 3) by decide +kernel) rfl (SGn hS (by decide)) (SGk hS rfl) (by decide) rfl ?_
    refine Ev_iconst (v := 1) hq_137 (show decode prog_7_method_19_code 15 = .ok (.iconst 1, 1) by decide +kernel) (by decide) ?_
    refine Ev_iadd hq_137 (show decode prog_7_method_19_code 16 = .ok (.iadd, 1) by decide +kernel) ?_
    refine Ev_putI hq_137 (show decode prog_7_method_19_code 17 = .ok (.putfield 136, 3) by decide +kernel) rfl (SGn hS (by decide)) (SGk hS rfl) (by decide) (by decide) rfl (fun hz => by cases hz) ?_
    obtain ⟨I2, eI2⟩ : ∃ I2 : zI, I2 = z_up I 57 25 ((I 57 25) + 1) := ⟨_, rfl⟩
    have k := k I2 eI2
    rw [← eI2]
    refine Ev_aload_n hq_137 (show decode prog_7_method_19_code 20 = .ok (.aload_n 0, 1) by decide +kernel) rfl ?_
    refine Ev_iload_n hq_137 (show decode prog_7_method_19_code 21 = .ok (.iload_n 1, 1) by decide +kernel) rfl ?_
    obtain ⟨I3, h4, k⟩ := k
    refine Ev_virt (as := [.int x1]) hq_137 (show decode prog_7_method_19_code 22 = .ok (.invokevirtual 143, 3) by decide +kernel) rfl hq_138 rfl (z_le rfl) ⟨(SGn hS (by decide)), (SGk hS rfl), by decide⟩ h4 ?_
    refine Ev_iconst (v := 1) hq_137 (show decode prog_7_method_19_code 25 = .ok (.iconst 1, 1) by decide +kernel) (by decide) ?_
    exact Ev_iret hq_137 (show decode prog_7_method_19_code 26 = .ok (.ireturn, 1) by decide +kernel) rfl k
  · have k := k.2 (Classical.not_not.mp c1)
    refine Ev_iconst (v := 0) hq_137 (show decode prog_7_method_19_code 8 = .ok (.iconst 0, 1) by decide +kernel) (by decide) ?_
    exact Ev_iret hq_137 (show decode prog_7_method_19_code 9 = .ok (.ireturn, 1) by decide +kernel) rfl k
set_option maxRecDepth 20000 in
theorem wp_Z_holds {X : Nat × (Nat → Int32)} {d : Nat} {G : zG} {I : zI} {res : Option Value × zG × zI} (x1 : Int32) (hS : SG G) 
    (k : z_inr (I 57 24) 200 ∧ (∀ I2 : zI, I2 = z_up I 70 (I 57 24).toNatClampNeg x1 → (∀ I3 : zI, I3 = z_up I2 57 24 ((I2 57 24) + 1) → res = (none, G, I3)))) :
    Ev X d 138 0 [.ref 57, .int x1] [] G I res := by
  refine Ev_aload_n hq_138 (show decode prog_7_method_18_code 0 = .ok (.aload_n 0, 1) by decide +kernel) rfl ?_
  refine Ev_getR hq_138 (show decode prog_7_method_18_code 1 = .ok (.getfield 46, 3) by decide +kernel) rfl (SGn hS (by decide)) (SGk hS rfl) (by decide) rfl (SGr hS rfl) ?_
  refine Ev_aload_n hq_138 (show decode prog_7_method_18_code 4 = .ok (.aload_n 0, 1) by decide +kernel) rfl ?_
  refine Ev_getI hq_138 (show decode prog_7_method_18_code 5 = .ok (.getfield 129, 3) by decide +kernel) rfl (SGn hS (by decide)) (SGk hS rfl) (by decide) rfl ?_
  refine Ev_iload_n hq_138 (show decode prog_7_method_18_code 8 = .ok (.iload_n 1, 1) by decide +kernel) rfl ?_
  obtain ⟨h1, k⟩ := k
  refine Ev_iast hq_138 (show decode prog_7_method_18_code 9 = .ok (.iastore, 1) by decide +kernel) (SGn hS (by decide)) (SGk hS rfl) (SGi hS rfl h1) ?_
  obtain ⟨I2, eI2⟩ : ∃ I2 : zI, I2 = z_up I 70 (I 57 24).toNatClampNeg x1 := ⟨_, rfl⟩
  have k := k I2 eI2
  rw [← eI2]
  refine Ev_aload_n hq_138 (show decode prog_7_method_18_code 10 = .ok (.aload_n 0, 1) by decide +kernel) rfl ?_
  refine Ev_dup hq_138 (show decode prog_7_method_18_code 11 = .ok (.dup, 1) by decide +kernel) rfl ?_
  refine Ev_getI hq_138 (show decode prog_7_method_18_code 12 = .ok (.getfield 129, 3) by decide +kernel) rfl (SGn hS (by decide)) (SGk hS rfl) (by decide) rfl ?_
  refine Ev_iconst (v := 1) hq_138 (show decode prog_7_method_18_code 15 = .ok (.iconst 1, 1) by decide +kernel) (by decide) ?_
  refine Ev_iadd hq_138 (show decode prog_7_method_18_code 16 = .ok (.iadd, 1) by decide +kernel) ?_
  refine Ev_putI hq_138 (show decode prog_7_method_18_code 17 = .ok (.putfield 129, 3) by decide +kernel) rfl (SGn hS (by decide)) (SGk hS rfl) (by decide) (by decide) rfl (fun hz => by cases hz) ?_
  obtain ⟨I3, eI3⟩ : ∃ I3 : zI, I3 = z_up I2 57 24 ((I2 57 24) + 1) := ⟨_, rfl⟩
  have k := k I3 eI3
  rw [← eI3]
  exact Ev_vret hq_138 (show decode prog_7_method_18_code 20 = .ok (.return_, 1) by decide +kernel) k
set_option maxRecDepth 20000 in
theorem wp_Z_signOf {X : Nat × (Nat → Int32)} {d : Nat} {G : zG} {I : zI} {res : Option Value × zG × zI}  (hS : SG G) 
    (k : (¬ (I 57 20) = 4 → (¬ (I 57 20) = 5 → (¬ (I 57 20) = 60 → (¬ (I 57 20) = 61 → (¬ (I 57 20) = 43 → (¬ (I 57 20) = 45 → (¬ (I 57 20) = 42 → res = (some (.int (-1)), G, I)) ∧ ((I 57 20) = 42 → res = (some (.int 18), G, I))) ∧ ((I 57 20) = 45 → res = (some (.int 17), G, I))) ∧ ((I 57 20) = 43 → res = (some (.int 16), G, I))) ∧ ((I 57 20) = 61 → res = (some (.int 15), G, I))) ∧ ((I 57 20) = 60 → res = (some (.int 14), G, I))) ∧ ((I 57 20) = 5 → res = (some (.int 12), G, I))) ∧ ((I 57 20) = 4 → res = (some (.int 11), G, I))) :
    Ev X d 139 0 [.ref 57] [] G I res := by
  refine Ev_aload_n hq_139 (show decode prog_7_method_21_code 0 = .ok (.aload_n 0, 1) by decide +kernel) rfl ?_
  refine Ev_getI hq_139 (show decode prog_7_method_21_code 1 = .ok (.getfield 116, 3) by decide +kernel) rfl (SGn hS (by decide)) (SGk hS rfl) (by decide) rfl ?_
  refine Ev_iconst (v := 4) hq_139 (show decode prog_7_method_21_code 4 = .ok (.iconst 4, 1) by decide +kernel) (by decide) ?_
  refine Ev_icmp_ne (tgt := 13) hq_139 (show decode prog_7_method_21_code 5 = .ok (.if_icmp .ne 8, 3) by decide +kernel) (by decide) (fun c1 => ?_) (fun c1 => ?_)
  · have k := k.1 c1
    refine Ev_aload_n hq_139 (show decode prog_7_method_21_code 13 = .ok (.aload_n 0, 1) by decide +kernel) rfl ?_
    refine Ev_getI hq_139 (show decode prog_7_method_21_code 14 = .ok (.getfield 116, 3) by decide +kernel) rfl (SGn hS (by decide)) (SGk hS rfl) (by decide) rfl ?_
    refine Ev_iconst (v := 5) hq_139 (show decode prog_7_method_21_code 17 = .ok (.iconst 5, 1) by decide +kernel) (by decide) ?_
    refine Ev_icmp_ne (tgt := 26) hq_139 (show decode prog_7_method_21_code 18 = .ok (.if_icmp .ne 8, 3) by decide +kernel) (by decide) (fun c2 => ?_) (fun c2 => ?_)
    · have k := k.1 c2
      refine Ev_aload_n hq_139 (show decode prog_7_method_21_code 26 = .ok (.aload_n 0, 1) by decide +kernel) rfl ?_
      refine Ev_getI hq_139 (show decode prog_7_method_21_code 27 = .ok (.getfield 116, 3) by decide +kernel) rfl (SGn hS (by decide)) (SGk hS rfl) (by decide) rfl ?_
      refine Ev_bipush (v := 60) hq_139 (show decode prog_7_method_21_code 30 = .ok (.bipush 60, 2) by decide +kernel) (by decide) ?_
      refine Ev_icmp_ne (tgt := 40) hq_139 (show decode prog_7_method_21_code 32 = .ok (.if_icmp .ne 8, 3) by decide +kernel) (by decide) (fun c3 => ?_) (fun c3 => ?_)
      · have k := k.1 c3
        refine Ev_aload_n hq_139 (show decode prog_7_method_21_code 40 = .ok (.aload_n 0, 1) by decide +kernel) rfl ?_
        refine Ev_getI hq_139 (show decode prog_7_method_21_code 41 = .ok (.getfield 116, 3) by decide +kernel) rfl (SGn hS (by decide)) (SGk hS rfl) (by decide) rfl ?_
        refine Ev_bipush (v := 61) hq_139 (show decode prog_7_method_21_code 44 = .ok (.bipush 61, 2) by decide +kernel) (by decide) ?_
        refine Ev_icmp_ne (tgt := 54) hq_139 (show decode prog_7_method_21_code 46 = .ok (.if_icmp .ne 8, 3) by decide +kernel) (by decide) (fun c4 => ?_) (fun c4 => ?_)
        · have k := k.1 c4
          refine Ev_aload_n hq_139 (show decode prog_7_method_21_code 54 = .ok (.aload_n 0, 1) by decide +kernel) rfl ?_
          refine Ev_getI hq_139 (show decode prog_7_method_21_code 55 = .ok (.getfield 116, 3) by decide +kernel) rfl (SGn hS (by decide)) (SGk hS rfl) (by decide) rfl ?_
          refine Ev_bipush (v := 43) hq_139 (show decode prog_7_method_21_code 58 = .ok (.bipush 43, 2) by decide +kernel) (by decide) ?_
          refine Ev_icmp_ne (tgt := 68) hq_139 (show decode prog_7_method_21_code 60 = .ok (.if_icmp .ne 8, 3) by decide +kernel) (by decide) (fun c5 => ?_) (fun c5 => ?_)
          · have k := k.1 c5
            refine Ev_aload_n hq_139 (show decode prog_7_method_21_code 68 = .ok (.aload_n 0, 1) by decide +kernel) rfl ?_
            refine Ev_getI hq_139 (show decode prog_7_method_21_code 69 = .ok (.getfield 116, 3) by decide +kernel) rfl (SGn hS (by decide)) (SGk hS rfl) (by decide) rfl ?_
            refine Ev_bipush (v := 45) hq_139 (show decode prog_7_method_21_code 72 = .ok (.bipush 45, 2) by decide +kernel) (by decide) ?_
            refine Ev_icmp_ne (tgt := 82) hq_139 (show decode prog_7_method_21_code 74 = .ok (.if_icmp .ne 8, 3) by decide +kernel) (by decide) (fun c6 => ?_) (fun c6 => ?_)
            · have k := k.1 c6
              refine Ev_aload_n hq_139 (show decode prog_7_method_21_code 82 = .ok (.aload_n 0, 1) by decide +kernel) rfl ?_
              refine Ev_getI hq_139 (show decode prog_7_method_21_code 83 = .ok (.getfield 116, 3) by decide +kernel) rfl (SGn hS (by decide)) (SGk hS rfl) (by decide) rfl ?_
              refine Ev_bipush (v := 42) hq_139 (show decode prog_7_method_21_code 86 = .ok (.bipush 42, 2) by decide +kernel) (by decide) ?_
              refine Ev_icmp_ne (tgt := 96) hq_139 (show decode prog_7_method_21_code 88 = .ok (.if_icmp .ne 8, 3) by decide +kernel) (by decide) (fun c7 => ?_) (fun c7 => ?_)
              · have k := k.1 c7
                refine Ev_iconst (v := (-1)) hq_139 (show decode prog_7_method_21_code 96 = .ok (.iconst (-1), 1) by decide +kernel) (by decide) ?_
                exact Ev_iret hq_139 (show decode prog_7_method_21_code 97 = .ok (.ireturn, 1) by decide +kernel) rfl k
              · have k := k.2 (Classical.not_not.mp c7)
                refine Ev_bipush (v := 18) hq_139 (show decode prog_7_method_21_code 91 = .ok (.bipush 18, 2) by decide +kernel) (by decide) ?_
                refine Ev_goto (tgt := 97) hq_139 (show decode prog_7_method_21_code 93 = .ok (.goto 4, 3) by decide +kernel) (by decide) ?_
                exact Ev_iret hq_139 (show decode prog_7_method_21_code 97 = .ok (.ireturn, 1) by decide +kernel) rfl k
            · have k := k.2 (Classical.not_not.mp c6)
              refine Ev_bipush (v := 17) hq_139 (show decode prog_7_method_21_code 77 = .ok (.bipush 17, 2) by decide +kernel) (by decide) ?_
              refine Ev_goto (tgt := 97) hq_139 (show decode prog_7_method_21_code 79 = .ok (.goto 18, 3) by decide +kernel) (by decide) ?_
              exact Ev_iret hq_139 (show decode prog_7_method_21_code 97 = .ok (.ireturn, 1) by decide +kernel) rfl k
          · have k := k.2 (Classical.not_not.mp c5)
            refine Ev_bipush (v := 16) hq_139 (show decode prog_7_method_21_code 63 = .ok (.bipush 16, 2) by decide +kernel) (by decide) ?_
            refine Ev_goto (tgt := 97) hq_139 (show decode prog_7_method_21_code 65 = .ok (.goto 32, 3) by decide +kernel) (by decide) ?_
            exact Ev_iret hq_139 (show decode prog_7_method_21_code 97 = .ok (.ireturn, 1) by decide +kernel) rfl k
        · have k := k.2 (Classical.not_not.mp c4)
          refine Ev_bipush (v := 15) hq_139 (show decode prog_7_method_21_code 49 = .ok (.bipush 15, 2) by decide +kernel) (by decide) ?_
          refine Ev_goto (tgt := 97) hq_139 (show decode prog_7_method_21_code 51 = .ok (.goto 46, 3) by decide +kernel) (by decide) ?_
          exact Ev_iret hq_139 (show decode prog_7_method_21_code 97 = .ok (.ireturn, 1) by decide +kernel) rfl k
      · have k := k.2 (Classical.not_not.mp c3)
        refine Ev_bipush (v := 14) hq_139 (show decode prog_7_method_21_code 35 = .ok (.bipush 14, 2) by decide +kernel) (by decide) ?_
        refine Ev_goto (tgt := 97) hq_139 (show decode prog_7_method_21_code 37 = .ok (.goto 60, 3) by decide +kernel) (by decide) ?_
        exact Ev_iret hq_139 (show decode prog_7_method_21_code 97 = .ok (.ireturn, 1) by decide +kernel) rfl k
    · have k := k.2 (Classical.not_not.mp c2)
      refine Ev_bipush (v := 12) hq_139 (show decode prog_7_method_21_code 21 = .ok (.bipush 12, 2) by decide +kernel) (by decide) ?_
      refine Ev_goto (tgt := 97) hq_139 (show decode prog_7_method_21_code 23 = .ok (.goto 74, 3) by decide +kernel) (by decide) ?_
      exact Ev_iret hq_139 (show decode prog_7_method_21_code 97 = .ok (.ireturn, 1) by decide +kernel) rfl k
  · have k := k.2 (Classical.not_not.mp c1)
    refine Ev_bipush (v := 11) hq_139 (show decode prog_7_method_21_code 8 = .ok (.bipush 11, 2) by decide +kernel) (by decide) ?_
    refine Ev_goto (tgt := 97) hq_139 (show decode prog_7_method_21_code 10 = .ok (.goto 87, 3) by decide +kernel) (by decide) ?_
    exact Ev_iret hq_139 (show decode prog_7_method_21_code 97 = .ok (.ireturn, 1) by decide +kernel) rfl k
set_option maxRecDepth 20000 in
theorem wp_Z_between {X : Nat × (Nat → Int32)} {d : Nat} {G : zG} {I : zI} {res : Option Value × zG × zI} (x1 : Int32) (hS : SG G) 
    (k : ∃ (r3 : Int32) (I1 : zI), Cv X d 136 [.int x1] G I (some (.int r3), G, I1) ∧ ((¬ r3 = 4 → ∃ (r7 : Int32) (I5 : zI), Cv X d 136 [.int x1] G I1 (some (.int r7), G, I5) ∧ (∃ (I8 : zI), Cv X d 135 [.ref 57, .int r7] G I5 (none, G, I8) ∧ (∃ (r12 : Int32) (I10 : zI), Cv X d 136 [.int x1] G I8 (some (.int r12), G, I10) ∧ ((¬ r12 = 4 → ∃ (I14 : zI), Cv X d 138 [.ref 57, .int x1] G I10 (none, G, I14) ∧ (res = (some (.int 1), G, I14))) ∧ (r12 = 4 → ((I10 57 24) ≤ 0 → ∃ (I17 : zI), Cv X d 138 [.ref 57, .int x1] G I10 (none, G, I17) ∧ (res = (some (.int 1), G, I17))) ∧ (¬ (I10 57 24) ≤ 0 → z_inr ((I10 57 24) - 1) 200 ∧ (∃ (r22 : Int32) (I20 : zI), Cv X d 136 [.int (I10 70 ((I10 57 24) - 1).toNatClampNeg)] G I10 (some (.int r22), G, I20) ∧ ((¬ r22 = 4 → ∃ (I24 : zI), Cv X d 138 [.ref 57, .int x1] G I20 (none, G, I24) ∧ (res = (some (.int 1), G, I24))) ∧ (r22 = 4 → res = (some (.int 0), G, I20)))))))))) ∧ (r3 = 4 → ∃ (I26 : zI), Cv X d 135 [.ref 57, .int 5] G I1 (none, G, I26) ∧ (∃ (r30 : Int32) (I28 : zI), Cv X d 136 [.int x1] G I26 (some (.int r30), G, I28) ∧ ((¬ r30 = 4 → ∃ (I32 : zI), Cv X d 138 [.ref 57, .int x1] G I28 (none, G, I32) ∧ (res = (some (.int 1), G, I32))) ∧ (r30 = 4 → ((I28 57 24) ≤ 0 → ∃ (I35 : zI), Cv X d 138 [.ref 57, .int x1] G I28 (none, G, I35) ∧ (res = (some (.int 1), G, I35))) ∧ (¬ (I28 57 24) ≤ 0 → z_inr ((I28 57 24) - 1) 200 ∧ (∃ (r40 : Int32) (I38 : zI), Cv X d 136 [.int (I28 70 ((I28 57 24) - 1).toNatClampNeg)] G I28 (some (.int r40), G, I38) ∧ ((¬ r40 = 4 → ∃ (I42 : zI), Cv X d 138 [.ref 57, .int x1] G I38 (none, G, I42) ∧ (res = (some (.int 1), G, I42))) ∧ (r40 = 4 → res = (some (.int 0), G, I38))))))))))) :
    Ev X (d + 1) 140 0 [.ref 57, .int x1] [] G I res := by
  refine Ev_aload_n hq_140 (show decode prog_7_method_20_code 0 = .ok (.aload_n 0, 1) by decide +kernel) rfl ?_
  refine Ev_iload_n hq_140 (show decode prog_7_method_20_code 1 = .ok (.iload_n 1, 1) by decide +kernel) rfl ?_
  obtain ⟨r3, I1, h2, k⟩ := k
  refine Ev_stat (as := [.int x1]) hq_140 (show decode prog_7_method_20_code 2 = .ok (.invokestatic 132, 3) by decide +kernel) rfl (Or.inl rfl) hq_136 rfl (z_le rfl) h2 ?_
  refine Ev_iconst (v := 4) hq_140 (show decode prog_7_method_20_code 5 = .ok (.iconst 4, 1) by decide +kernel) (by decide) ?_
  refine Ev_icmp_ne (tgt := 13) hq_140 (show decode prog_7_method_20_code 6 = .ok (.if_icmp .ne 7, 3) by decide +kernel) (by decide) (fun c4 => ?_) (fun c4 => ?_)
  · have k := k.1 c4
    refine Ev_iload_n hq_140 (show decode prog_7_method_20_code 13 = .ok (.iload_n 1, 1) by decide +kernel) rfl ?_
    obtain ⟨r7, I5, h6, k⟩ := k
    refine Ev_stat (as := [.int x1]) hq_140 (show decode prog_7_method_20_code 14 = .ok (.invokestatic 132, 3) by decide +kernel) rfl (Or.inl rfl) hq_136 rfl (z_le rfl) h6 ?_
    obtain ⟨I8, h9, k⟩ := k
    refine Ev_virt (as := [.int r7]) hq_140 (show decode prog_7_method_20_code 17 = .ok (.invokevirtual 146, 3) by decide +kernel) rfl hq_135 rfl (z_le rfl) ⟨(SGn hS (by decide)), (SGk hS rfl), by decide⟩ h9 ?_
    refine Ev_iload_n hq_140 (show decode prog_7_method_20_code 20 = .ok (.iload_n 1, 1) by decide +kernel) rfl ?_
    obtain ⟨r12, I10, h11, k⟩ := k
    refine Ev_stat (as := [.int x1]) hq_140 (show decode prog_7_method_20_code 21 = .ok (.invokestatic 132, 3) by decide +kernel) rfl (Or.inl rfl) hq_136 rfl (z_le rfl) h11 ?_
    refine Ev_iconst (v := 4) hq_140 (show decode prog_7_method_20_code 24 = .ok (.iconst 4, 1) by decide +kernel) (by decide) ?_
    refine Ev_icmp_ne (tgt := 55) hq_140 (show decode prog_7_method_20_code 25 = .ok (.if_icmp .ne 30, 3) by decide +kernel) (by decide) (fun c13 => ?_) (fun c13 => ?_)
    · have k := k.1 c13
      refine Ev_aload_n hq_140 (show decode prog_7_method_20_code 55 = .ok (.aload_n 0, 1) by decide +kernel) rfl ?_
      refine Ev_iload_n hq_140 (show decode prog_7_method_20_code 56 = .ok (.iload_n 1, 1) by decide +kernel) rfl ?_
      obtain ⟨I14, h15, k⟩ := k
      refine Ev_virt (as := [.int x1]) hq_140 (show decode prog_7_method_20_code 57 = .ok (.invokevirtual 143, 3) by decide +kernel) rfl hq_138 rfl (z_le rfl) ⟨(SGn hS (by decide)), (SGk hS rfl), by decide⟩ h15 ?_
      refine Ev_iconst (v := 1) hq_140 (show decode prog_7_method_20_code 60 = .ok (.iconst 1, 1) by decide +kernel) (by decide) ?_
      exact Ev_iret hq_140 (show decode prog_7_method_20_code 61 = .ok (.ireturn, 1) by decide +kernel) rfl k
    · have k := k.2 (Classical.not_not.mp c13)
      refine Ev_aload_n hq_140 (show decode prog_7_method_20_code 28 = .ok (.aload_n 0, 1) by decide +kernel) rfl ?_
      refine Ev_getI hq_140 (show decode prog_7_method_20_code 29 = .ok (.getfield 129, 3) by decide +kernel) rfl (SGn hS (by decide)) (SGk hS rfl) (by decide) rfl ?_
      refine Ev_if_le (tgt := 55) hq_140 (show decode prog_7_method_20_code 32 = .ok (.ifCond .le 23, 3) by decide +kernel) (by decide) (fun c16 => ?_) (fun c16 => ?_)
      · have k := k.1 c16
        refine Ev_aload_n hq_140 (show decode prog_7_method_20_code 55 = .ok (.aload_n 0, 1) by decide +kernel) rfl ?_
        refine Ev_iload_n hq_140 (show decode prog_7_method_20_code 56 = .ok (.iload_n 1, 1) by decide +kernel) rfl ?_
        obtain ⟨I17, h18, k⟩ := k
        refine Ev_virt (as := [.int x1]) hq_140 (show decode prog_7_method_20_code 57 = .ok (.invokevirtual 143, 3) by decide +kernel) rfl hq_138 rfl (z_le rfl) ⟨(SGn hS (by decide)), (SGk hS rfl), by decide⟩ h18 ?_
        refine Ev_iconst (v := 1) hq_140 (show decode prog_7_method_20_code 60 = .ok (.iconst 1, 1) by decide +kernel) (by decide) ?_
        exact Ev_iret hq_140 (show decode prog_7_method_20_code 61 = .ok (.ireturn, 1) by decide +kernel) rfl k
      · have k := k.2 c16
        refine Ev_aload_n hq_140 (show decode prog_7_method_20_code 35 = .ok (.aload_n 0, 1) by decide +kernel) rfl ?_
        refine Ev_getR hq_140 (show decode prog_7_method_20_code 36 = .ok (.getfield 46, 3) by decide +kernel) rfl (SGn hS (by decide)) (SGk hS rfl) (by decide) rfl (SGr hS rfl) ?_
        refine Ev_aload_n hq_140 (show decode prog_7_method_20_code 39 = .ok (.aload_n 0, 1) by decide +kernel) rfl ?_
        refine Ev_getI hq_140 (show decode prog_7_method_20_code 40 = .ok (.getfield 129, 3) by decide +kernel) rfl (SGn hS (by decide)) (SGk hS rfl) (by decide) rfl ?_
        refine Ev_iconst (v := 1) hq_140 (show decode prog_7_method_20_code 43 = .ok (.iconst 1, 1) by decide +kernel) (by decide) ?_
        refine Ev_isub hq_140 (show decode prog_7_method_20_code 44 = .ok (.isub, 1) by decide +kernel) ?_
        obtain ⟨h19, k⟩ := k
        refine Ev_iald hq_140 (show decode prog_7_method_20_code 45 = .ok (.iaload, 1) by decide +kernel) (SGn hS (by decide)) (SGk hS rfl) (SGi hS rfl h19) ?_
        obtain ⟨r22, I20, h21, k⟩ := k
        refine Ev_stat (as := [.int (I10 70 ((I10 57 24) - 1).toNatClampNeg)]) hq_140 (show decode prog_7_method_20_code 46 = .ok (.invokestatic 132, 3) by decide +kernel) rfl (Or.inl rfl) hq_136 rfl (z_le rfl) h21 ?_
        refine Ev_iconst (v := 4) hq_140 (show decode prog_7_method_20_code 49 = .ok (.iconst 4, 1) by decide +kernel) (by decide) ?_
        refine Ev_icmp_ne (tgt := 55) hq_140 (show decode prog_7_method_20_code 50 = .ok (.if_icmp .ne 5, 3) by decide +kernel) (by decide) (fun c23 => ?_) (fun c23 => ?_)
        · have k := k.1 c23
          refine Ev_aload_n hq_140 (show decode prog_7_method_20_code 55 = .ok (.aload_n 0, 1) by decide +kernel) rfl ?_
          refine Ev_iload_n hq_140 (show decode prog_7_method_20_code 56 = .ok (.iload_n 1, 1) by decide +kernel) rfl ?_
          obtain ⟨I24, h25, k⟩ := k
          refine Ev_virt (as := [.int x1]) hq_140 (show decode prog_7_method_20_code 57 = .ok (.invokevirtual 143, 3) by decide +kernel) rfl hq_138 rfl (z_le rfl) ⟨(SGn hS (by decide)), (SGk hS rfl), by decide⟩ h25 ?_
          refine Ev_iconst (v := 1) hq_140 (show decode prog_7_method_20_code 60 = .ok (.iconst 1, 1) by decide +kernel) (by decide) ?_
          exact Ev_iret hq_140 (show decode prog_7_method_20_code 61 = .ok (.ireturn, 1) by decide +kernel) rfl k
        · have k := k.2 (Classical.not_not.mp c23)
          refine Ev_iconst (v := 0) hq_140 (show decode prog_7_method_20_code 53 = .ok (.iconst 0, 1) by decide +kernel) (by decide) ?_
          exact Ev_iret hq_140 (show decode prog_7_method_20_code 54 = .ok (.ireturn, 1) by decide +kernel) rfl k
  · have k := k.2 (Classical.not_not.mp c4)
    refine Ev_iconst (v := 5) hq_140 (show decode prog_7_method_20_code 9 = .ok (.iconst 5, 1) by decide +kernel) (by decide) ?_
    refine Ev_goto (tgt := 17) hq_140 (show decode prog_7_method_20_code 10 = .ok (.goto 7, 3) by decide +kernel) (by decide) ?_
    obtain ⟨I26, h27, k⟩ := k
    refine Ev_virt (as := [.int 5]) hq_140 (show decode prog_7_method_20_code 17 = .ok (.invokevirtual 146, 3) by decide +kernel) rfl hq_135 rfl (z_le rfl) ⟨(SGn hS (by decide)), (SGk hS rfl), by decide⟩ h27 ?_
    refine Ev_iload_n hq_140 (show decode prog_7_method_20_code 20 = .ok (.iload_n 1, 1) by decide +kernel) rfl ?_
    obtain ⟨r30, I28, h29, k⟩ := k
    refine Ev_stat (as := [.int x1]) hq_140 (show decode prog_7_method_20_code 21 = .ok (.invokestatic 132, 3) by decide +kernel) rfl (Or.inl rfl) hq_136 rfl (z_le rfl) h29 ?_
    refine Ev_iconst (v := 4) hq_140 (show decode prog_7_method_20_code 24 = .ok (.iconst 4, 1) by decide +kernel) (by decide) ?_
    refine Ev_icmp_ne (tgt := 55) hq_140 (show decode prog_7_method_20_code 25 = .ok (.if_icmp .ne 30, 3) by decide +kernel) (by decide) (fun c31 => ?_) (fun c31 => ?_)
    · have k := k.1 c31
      refine Ev_aload_n hq_140 (show decode prog_7_method_20_code 55 = .ok (.aload_n 0, 1) by decide +kernel) rfl ?_
      refine Ev_iload_n hq_140 (show decode prog_7_method_20_code 56 = .ok (.iload_n 1, 1) by decide +kernel) rfl ?_
      obtain ⟨I32, h33, k⟩ := k
      refine Ev_virt (as := [.int x1]) hq_140 (show decode prog_7_method_20_code 57 = .ok (.invokevirtual 143, 3) by decide +kernel) rfl hq_138 rfl (z_le rfl) ⟨(SGn hS (by decide)), (SGk hS rfl), by decide⟩ h33 ?_
      refine Ev_iconst (v := 1) hq_140 (show decode prog_7_method_20_code 60 = .ok (.iconst 1, 1) by decide +kernel) (by decide) ?_
      exact Ev_iret hq_140 (show decode prog_7_method_20_code 61 = .ok (.ireturn, 1) by decide +kernel) rfl k
    · have k := k.2 (Classical.not_not.mp c31)
      refine Ev_aload_n hq_140 (show decode prog_7_method_20_code 28 = .ok (.aload_n 0, 1) by decide +kernel) rfl ?_
      refine Ev_getI hq_140 (show decode prog_7_method_20_code 29 = .ok (.getfield 129, 3) by decide +kernel) rfl (SGn hS (by decide)) (SGk hS rfl) (by decide) rfl ?_
      refine Ev_if_le (tgt := 55) hq_140 (show decode prog_7_method_20_code 32 = .ok (.ifCond .le 23, 3) by decide +kernel) (by decide) (fun c34 => ?_) (fun c34 => ?_)
      · have k := k.1 c34
        refine Ev_aload_n hq_140 (show decode prog_7_method_20_code 55 = .ok (.aload_n 0, 1) by decide +kernel) rfl ?_
        refine Ev_iload_n hq_140 (show decode prog_7_method_20_code 56 = .ok (.iload_n 1, 1) by decide +kernel) rfl ?_
        obtain ⟨I35, h36, k⟩ := k
        refine Ev_virt (as := [.int x1]) hq_140 (show decode prog_7_method_20_code 57 = .ok (.invokevirtual 143, 3) by decide +kernel) rfl hq_138 rfl (z_le rfl) ⟨(SGn hS (by decide)), (SGk hS rfl), by decide⟩ h36 ?_
        refine Ev_iconst (v := 1) hq_140 (show decode prog_7_method_20_code 60 = .ok (.iconst 1, 1) by decide +kernel) (by decide) ?_
        exact Ev_iret hq_140 (show decode prog_7_method_20_code 61 = .ok (.ireturn, 1) by decide +kernel) rfl k
      · have k := k.2 c34
        refine Ev_aload_n hq_140 (show decode prog_7_method_20_code 35 = .ok (.aload_n 0, 1) by decide +kernel) rfl ?_
        refine Ev_getR hq_140 (show decode prog_7_method_20_code 36 = .ok (.getfield 46, 3) by decide +kernel) rfl (SGn hS (by decide)) (SGk hS rfl) (by decide) rfl (SGr hS rfl) ?_
        refine Ev_aload_n hq_140 (show decode prog_7_method_20_code 39 = .ok (.aload_n 0, 1) by decide +kernel) rfl ?_
        refine Ev_getI hq_140 (show decode prog_7_method_20_code 40 = .ok (.getfield 129, 3) by decide +kernel) rfl (SGn hS (by decide)) (SGk hS rfl) (by decide) rfl ?_
        refine Ev_iconst (v := 1) hq_140 (show decode prog_7_method_20_code 43 = .ok (.iconst 1, 1) by decide +kernel) (by decide) ?_
        refine Ev_isub hq_140 (show decode prog_7_method_20_code 44 = .ok (.isub, 1) by decide +kernel) ?_
        obtain ⟨h37, k⟩ := k
        refine Ev_iald hq_140 (show decode prog_7_method_20_code 45 = .ok (.iaload, 1) by decide +kernel) (SGn hS (by decide)) (SGk hS rfl) (SGi hS rfl h37) ?_
        obtain ⟨r40, I38, h39, k⟩ := k
        refine Ev_stat (as := [.int (I28 70 ((I28 57 24) - 1).toNatClampNeg)]) hq_140 (show decode prog_7_method_20_code 46 = .ok (.invokestatic 132, 3) by decide +kernel) rfl (Or.inl rfl) hq_136 rfl (z_le rfl) h39 ?_
        refine Ev_iconst (v := 4) hq_140 (show decode prog_7_method_20_code 49 = .ok (.iconst 4, 1) by decide +kernel) (by decide) ?_
        refine Ev_icmp_ne (tgt := 55) hq_140 (show decode prog_7_method_20_code 50 = .ok (.if_icmp .ne 5, 3) by decide +kernel) (by decide) (fun c41 => ?_) (fun c41 => ?_)
        · have k := k.1 c41
          refine Ev_aload_n hq_140 (show decode prog_7_method_20_code 55 = .ok (.aload_n 0, 1) by decide +kernel) rfl ?_
          refine Ev_iload_n hq_140 (show decode prog_7_method_20_code 56 = .ok (.iload_n 1, 1) by decide +kernel) rfl ?_
          obtain ⟨I42, h43, k⟩ := k
          refine Ev_virt (as := [.int x1]) hq_140 (show decode prog_7_method_20_code 57 = .ok (.invokevirtual 143, 3) by decide +kernel) rfl hq_138 rfl (z_le rfl) ⟨(SGn hS (by decide)), (SGk hS rfl), by decide⟩ h43 ?_
          refine Ev_iconst (v := 1) hq_140 (show decode prog_7_method_20_code 60 = .ok (.iconst 1, 1) by decide +kernel) (by decide) ?_
          exact Ev_iret hq_140 (show decode prog_7_method_20_code 61 = .ok (.ireturn, 1) by decide +kernel) rfl k
        · have k := k.2 (Classical.not_not.mp c41)
          refine Ev_iconst (v := 0) hq_140 (show decode prog_7_method_20_code 53 = .ok (.iconst 0, 1) by decide +kernel) (by decide) ?_
          exact Ev_iret hq_140 (show decode prog_7_method_20_code 54 = .ok (.ireturn, 1) by decide +kernel) rfl k
set_option maxRecDepth 20000 in
theorem wp_Z_count {X : Nat × (Nat → Int32)} {d : Nat} {G : zG} {I : zI} {res : Option Value × zG × zI} (x1 : Int32) (hS : SG G) 
    (k : (x1 = 0 → res = (some (.int (I 57 0)), G, I)) ∧ (¬ x1 = 0 → (x1 = 1 → ∃ (r5 : Int32) (I3 : zI), Cv X d 142 [.ref 57] G I (some (.int r5), G, I3) ∧ (res = (some (.int r5), G, I3))) ∧ (¬ x1 = 1 → (x1 = 2 → res = (some (.int (I 57 8)), G, I)) ∧ (¬ x1 = 2 → (x1 = 3 → res = (some (.int (I 57 9)), G, I)) ∧ (¬ x1 = 3 → (x1 = 4 → res = (some (.int (I 57 5)), G, I)) ∧ (¬ x1 = 4 → res = (some (.int (-2)), G, I))))))) :
    Ev X (d + 1) 141 0 [.ref 57, .int x1] [] G I res := by
  refine Ev_iload_n hq_141 (show decode prog_7_method_10_code 0 = .ok (.iload_n 1, 1) by decide +kernel) rfl ?_
  by_cases c1 : x1 = 0
  · have k := k.1 c1
    refine Ev_tableIn (off := 35) (tgt := 36) hq_141 (show decode prog_7_method_10_code 1 = .ok (.tableswitch 60 0 4 #[35, 40, 45, 50, 55], 35) by decide +kernel) (by rw [c1]; decide) (by rw [c1]; decide) (by rw [c1]; decide) (by decide) ?_
    refine Ev_aload_n hq_141 (show decode prog_7_method_10_code 36 = .ok (.aload_n 0, 1) by decide +kernel) rfl ?_
    refine Ev_getI hq_141 (show decode prog_7_method_10_code 37 = .ok (.getfield 87, 3) by decide +kernel) rfl (SGn hS (by decide)) (SGk hS rfl) (by decide) rfl ?_
    exact Ev_iret hq_141 (show decode prog_7_method_10_code 40 = .ok (.ireturn, 1) by decide +kernel) rfl k
  have k := k.2 c1
  by_cases c2 : x1 = 1
  · have k := k.1 c2
    refine Ev_tableIn (off := 40) (tgt := 41) hq_141 (show decode prog_7_method_10_code 1 = .ok (.tableswitch 60 0 4 #[35, 40, 45, 50, 55], 35) by decide +kernel) (by rw [c2]; decide) (by rw [c2]; decide) (by rw [c2]; decide) (by decide) ?_
    refine Ev_aload_n hq_141 (show decode prog_7_method_10_code 41 = .ok (.aload_n 0, 1) by decide +kernel) rfl ?_
    obtain ⟨r5, I3, h4, k⟩ := k
    refine Ev_virt (as := []) hq_141 (show decode prog_7_method_10_code 42 = .ok (.invokevirtual 98, 3) by decide +kernel) rfl hq_142 rfl (z_le rfl) ⟨(SGn hS (by decide)), (SGk hS rfl), by decide⟩ h4 ?_
    exact Ev_iret hq_141 (show decode prog_7_method_10_code 45 = .ok (.ireturn, 1) by decide +kernel) rfl k
  have k := k.2 c2
  by_cases c6 : x1 = 2
  · have k := k.1 c6
    refine Ev_tableIn (off := 45) (tgt := 46) hq_141 (show decode prog_7_method_10_code 1 = .ok (.tableswitch 60 0 4 #[35, 40, 45, 50, 55], 35) by decide +kernel) (by rw [c6]; decide) (by rw [c6]; decide) (by rw [c6]; decide) (by decide) ?_
    refine Ev_aload_n hq_141 (show decode prog_7_method_10_code 46 = .ok (.aload_n 0, 1) by decide +kernel) rfl ?_
    refine Ev_getI hq_141 (show decode prog_7_method_10_code 47 = .ok (.getfield 101, 3) by decide +kernel) rfl (SGn hS (by decide)) (SGk hS rfl) (by decide) rfl ?_
    exact Ev_iret hq_141 (show decode prog_7_method_10_code 50 = .ok (.ireturn, 1) by decide +kernel) rfl k
  have k := k.2 c6
  by_cases c7 : x1 = 3
  · have k := k.1 c7
    refine Ev_tableIn (off := 50) (tgt := 51) hq_141 (show decode prog_7_method_10_code 1 = .ok (.tableswitch 60 0 4 #[35, 40, 45, 50, 55], 35) by decide +kernel) (by rw [c7]; decide) (by rw [c7]; decide) (by rw [c7]; decide) (by decide) ?_
    refine Ev_aload_n hq_141 (show decode prog_7_method_10_code 51 = .ok (.aload_n 0, 1) by decide +kernel) rfl ?_
    refine Ev_getI hq_141 (show decode prog_7_method_10_code 52 = .ok (.getfield 104, 3) by decide +kernel) rfl (SGn hS (by decide)) (SGk hS rfl) (by decide) rfl ?_
    exact Ev_iret hq_141 (show decode prog_7_method_10_code 55 = .ok (.ireturn, 1) by decide +kernel) rfl k
  have k := k.2 c7
  by_cases c8 : x1 = 4
  · have k := k.1 c8
    refine Ev_tableIn (off := 55) (tgt := 56) hq_141 (show decode prog_7_method_10_code 1 = .ok (.tableswitch 60 0 4 #[35, 40, 45, 50, 55], 35) by decide +kernel) (by rw [c8]; decide) (by rw [c8]; decide) (by rw [c8]; decide) (by decide) ?_
    refine Ev_aload_n hq_141 (show decode prog_7_method_10_code 56 = .ok (.aload_n 0, 1) by decide +kernel) rfl ?_
    refine Ev_getI hq_141 (show decode prog_7_method_10_code 57 = .ok (.getfield 80, 3) by decide +kernel) rfl (SGn hS (by decide)) (SGk hS rfl) (by decide) rfl ?_
    exact Ev_iret hq_141 (show decode prog_7_method_10_code 60 = .ok (.ireturn, 1) by decide +kernel) rfl k
  have k := k.2 c8
  have ec1 : (x1).toInt ≠ 0 := z_ne (k := 0) c1
  have ec2 : (x1).toInt ≠ 1 := z_ne (k := 1) c2
  have ec6 : (x1).toInt ≠ 2 := z_ne (k := 2) c6
  have ec7 : (x1).toInt ≠ 3 := z_ne (k := 3) c7
  have ec8 : (x1).toInt ≠ 4 := z_ne (k := 4) c8
  refine Ev_tableOut (tgt := 61) hq_141 (show decode prog_7_method_10_code 1 = .ok (.tableswitch 60 0 4 #[35, 40, 45, 50, 55], 35) by decide +kernel) (by omega) (by decide) ?_
  refine Ev_bipush (v := (-2)) hq_141 (show decode prog_7_method_10_code 61 = .ok (.bipush (-2), 2) by decide +kernel) (by decide) ?_
  exact Ev_iret hq_141 (show decode prog_7_method_10_code 63 = .ok (.ireturn, 1) by decide +kernel) rfl k
set_option maxRecDepth 20000 in
theorem wp_Z_onSet {X : Nat × (Nat → Int32)} {d : Nat} {G : zG} {I : zI} {res : Option Value × zG × zI}  
    (k : Ev X d 142 4 [.ref 57, .int 0, .int 0] [] G I res) :
    Ev X d 142 0 [.ref 57, zU, zU] [] G I res := by
  refine Ev_iconst (v := 0) hq_142 (show decode prog_7_method_9_code 0 = .ok (.iconst 0, 1) by decide +kernel) (by decide) ?_
  refine Ev_istore_n (lo2 := [.ref 57, .int 0, zU]) hq_142 (show decode prog_7_method_9_code 1 = .ok (.istore_n 1, 1) by decide +kernel) (z_le rfl) rfl ?_
  refine Ev_iconst (v := 0) hq_142 (show decode prog_7_method_9_code 2 = .ok (.iconst 0, 1) by decide +kernel) (by decide) ?_
  refine Ev_istore_n (lo2 := [.ref 57, .int 0, .int 0]) hq_142 (show decode prog_7_method_9_code 3 = .ok (.istore_n 2, 1) by decide +kernel) (z_le rfl) rfl ?_
  exact k
set_option maxRecDepth 20000 in
theorem wp_Z_onSet_4 {X : Nat × (Nat → Int32)} {d : Nat} {G : zG} {I : zI} {res : Option Value × zG × zI} (x1 : Int32) (x2 : Int32) (hS : SG G) 
    (k : ((I 57 0) ≤ x2 → res = (some (.int x1), G, I)) ∧ (¬ (I 57 0) ≤ x2 → ∃ (r4 : Int32) (I2 : zI), Cv X d 143 [.ref 57, .int x2] G I (some (.int r4), G, I2) ∧ ((r4 = 0 → ∀ y6 : Int32, y6 = (x1 ||| 0) → ∀ y7 : Int32, y7 = x2 + 1 → Ev X (d + 1) 142 4 [.ref 57, .int y6, .int y7] [] G I2 res) ∧ (¬ r4 = 0 → ∀ y8 : Int32, y8 = (x1 ||| (1 <<< (x2 &&& 31))) → ∀ y9 : Int32, y9 = x2 + 1 → Ev X (d + 1) 142 4 [.ref 57, .int y8, .int y9] [] G I2 res)))) :
    Ev X (d + 1) 142 4 [.ref 57, .int x1, .int x2] [] G I res := by
  refine Ev_iload_n hq_142 (show decode prog_7_method_9_code 4 = .ok (.iload_n 2, 1) by decide +kernel) rfl ?_
  refine Ev_aload_n hq_142 (show decode prog_7_method_9_code 5 = .ok (.aload_n 0, 1) by decide +kernel) rfl ?_
  refine Ev_getI hq_142 (show decode prog_7_method_9_code 6 = .ok (.getfield 87, 3) by decide +kernel) rfl (SGn hS (by decide)) (SGk hS rfl) (by decide) rfl ?_
  refine Ev_icmp_ge (tgt := 36) hq_142 (show decode prog_7_method_9_code 9 = .ok (.if_icmp .ge 27, 3) by decide +kernel) (by decide) (fun c1 => ?_) (fun c1 => ?_)
  · have k := k.1 c1
    refine Ev_iload_n hq_142 (show decode prog_7_method_9_code 36 = .ok (.iload_n 1, 1) by decide +kernel) rfl ?_
    exact Ev_iret hq_142 (show decode prog_7_method_9_code 37 = .ok (.ireturn, 1) by decide +kernel) rfl k
  · have k := k.2 c1
    refine Ev_iload_n hq_142 (show decode prog_7_method_9_code 12 = .ok (.iload_n 1, 1) by decide +kernel) rfl ?_
    refine Ev_aload_n hq_142 (show decode prog_7_method_9_code 13 = .ok (.aload_n 0, 1) by decide +kernel) rfl ?_
    refine Ev_iload_n hq_142 (show decode prog_7_method_9_code 14 = .ok (.iload_n 2, 1) by decide +kernel) rfl ?_
    obtain ⟨r4, I2, h3, k⟩ := k
    refine Ev_virt (as := [.int x2]) hq_142 (show decode prog_7_method_9_code 15 = .ok (.invokevirtual 94, 3) by decide +kernel) rfl hq_143 rfl (z_le rfl) ⟨(SGn hS (by decide)), (SGk hS rfl), by decide⟩ h3 ?_
    refine Ev_if_eq (tgt := 27) hq_142 (show decode prog_7_method_9_code 18 = .ok (.ifCond .eq 9, 3) by decide +kernel) (by decide) (fun c5 => ?_) (fun c5 => ?_)
    · have k := k.1 c5
      refine Ev_iconst (v := 0) hq_142 (show decode prog_7_method_9_code 27 = .ok (.iconst 0, 1) by decide +kernel) (by decide) ?_
      refine Ev_ior hq_142 (show decode prog_7_method_9_code 28 = .ok (.ior, 1) by decide +kernel) ?_
      obtain ⟨y6, ey6⟩ : ∃ y6 : Int32, y6 = (x1 ||| 0) := ⟨_, rfl⟩
      have k := k y6 ey6
      rw [← ey6]
      refine Ev_istore_n (lo2 := [.ref 57, .int y6, .int x2]) hq_142 (show decode prog_7_method_9_code 29 = .ok (.istore_n 1, 1) by decide +kernel) (z_le rfl) rfl ?_
      obtain ⟨y7, ey7⟩ : ∃ y7 : Int32, y7 = x2 + 1 := ⟨_, rfl⟩
      have k := k y7 ey7
      refine Ev_iinc (v := y7) (lo2 := [.ref 57, .int y6, .int y7]) hq_142 (show decode prog_7_method_9_code 30 = .ok (.iinc 2 1, 3) by decide +kernel) rfl (by rw [ey7]; rfl) rfl ?_
      refine Ev_goto (tgt := 4) hq_142 (show decode prog_7_method_9_code 33 = .ok (.goto (-29), 3) by decide +kernel) (by decide) ?_
      exact k
    · have k := k.2 c5
      refine Ev_iconst (v := 1) hq_142 (show decode prog_7_method_9_code 21 = .ok (.iconst 1, 1) by decide +kernel) (by decide) ?_
      refine Ev_iload_n hq_142 (show decode prog_7_method_9_code 22 = .ok (.iload_n 2, 1) by decide +kernel) rfl ?_
      refine Ev_ishl hq_142 (show decode prog_7_method_9_code 23 = .ok (.ishl, 1) by decide +kernel) ?_
      refine Ev_goto (tgt := 28) hq_142 (show decode prog_7_method_9_code 24 = .ok (.goto 4, 3) by decide +kernel) (by decide) ?_
      refine Ev_ior hq_142 (show decode prog_7_method_9_code 28 = .ok (.ior, 1) by decide +kernel) ?_
      obtain ⟨y8, ey8⟩ : ∃ y8 : Int32, y8 = (x1 ||| (1 <<< (x2 &&& 31))) := ⟨_, rfl⟩
      have k := k y8 ey8
      rw [← ey8]
      refine Ev_istore_n (lo2 := [.ref 57, .int y8, .int x2]) hq_142 (show decode prog_7_method_9_code 29 = .ok (.istore_n 1, 1) by decide +kernel) (z_le rfl) rfl ?_
      obtain ⟨y9, ey9⟩ : ∃ y9 : Int32, y9 = x2 + 1 := ⟨_, rfl⟩
      have k := k y9 ey9
      refine Ev_iinc (v := y9) (lo2 := [.ref 57, .int y8, .int y9]) hq_142 (show decode prog_7_method_9_code 30 = .ok (.iinc 2 1, 3) by decide +kernel) rfl (by rw [ey9]; rfl) rfl ?_
      refine Ev_goto (tgt := 4) hq_142 (show decode prog_7_method_9_code 33 = .ok (.goto (-29), 3) by decide +kernel) (by decide) ?_
      exact k
set_option maxRecDepth 20000 in
theorem wp_Z_isOn {X : Nat × (Nat → Int32)} {d : Nat} {G : zG} {I : zI} {res : Option Value × zG × zI} (x1 : Int32) (hS : SG G) 
    (k : z_inr ((5 * x1) + 4) 20 ∧ ((¬ (I 60 ((5 * x1) + 4).toNatClampNeg) = 1 → res = (some (.int 0), G, I)) ∧ ((I 60 ((5 * x1) + 4).toNatClampNeg) = 1 → res = (some (.int 1), G, I)))) :
    Ev X d 143 0 [.ref 57, .int x1] [] G I res := by
  refine Ev_aload_n hq_143 (show decode prog_7_method_8_code 0 = .ok (.aload_n 0, 1) by decide +kernel) rfl ?_
  refine Ev_getR hq_143 (show decode prog_7_method_8_code 1 = .ok (.getfield 16, 3) by decide +kernel) rfl (SGn hS (by decide)) (SGk hS rfl) (by decide) rfl (SGr hS rfl) ?_
  refine Ev_iconst (v := 5) hq_143 (show decode prog_7_method_8_code 4 = .ok (.iconst 5, 1) by decide +kernel) (by decide) ?_
  refine Ev_iload_n hq_143 (show decode prog_7_method_8_code 5 = .ok (.iload_n 1, 1) by decide +kernel) rfl ?_
  refine Ev_imul hq_143 (show decode prog_7_method_8_code 6 = .ok (.imul, 1) by decide +kernel) ?_
  refine Ev_iconst (v := 4) hq_143 (show decode prog_7_method_8_code 7 = .ok (.iconst 4, 1) by decide +kernel) (by decide) ?_
  refine Ev_iadd hq_143 (show decode prog_7_method_8_code 8 = .ok (.iadd, 1) by decide +kernel) ?_
  obtain ⟨h1, k⟩ := k
  refine Ev_iald hq_143 (show decode prog_7_method_8_code 9 = .ok (.iaload, 1) by decide +kernel) (SGn hS (by decide)) (SGk hS rfl) (SGi hS rfl h1) ?_
  refine Ev_iconst (v := 1) hq_143 (show decode prog_7_method_8_code 10 = .ok (.iconst 1, 1) by decide +kernel) (by decide) ?_
  refine Ev_icmp_ne (tgt := 18) hq_143 (show decode prog_7_method_8_code 11 = .ok (.if_icmp .ne 7, 3) by decide +kernel) (by decide) (fun c2 => ?_) (fun c2 => ?_)
  · have k := k.1 c2
    refine Ev_iconst (v := 0) hq_143 (show decode prog_7_method_8_code 18 = .ok (.iconst 0, 1) by decide +kernel) (by decide) ?_
    exact Ev_iret hq_143 (show decode prog_7_method_8_code 19 = .ok (.ireturn, 1) by decide +kernel) rfl k
  · have k := k.2 (Classical.not_not.mp c2)
    refine Ev_iconst (v := 1) hq_143 (show decode prog_7_method_8_code 14 = .ok (.iconst 1, 1) by decide +kernel) (by decide) ?_
    refine Ev_goto (tgt := 19) hq_143 (show decode prog_7_method_8_code 15 = .ok (.goto 4, 3) by decide +kernel) (by decide) ?_
    exact Ev_iret hq_143 (show decode prog_7_method_8_code 19 = .ok (.ireturn, 1) by decide +kernel) rfl k
set_option maxRecDepth 20000 in
theorem wp_Z_feed {X : Nat × (Nat → Int32)} {d : Nat} {G : zG} {I : zI} {res : Option Value × zG × zI} (x1 : Int32) (x2 : Int32) (x3 : Int32) (x4 : Int32) (x5 : Int32) (x6 : Int32) (hS : SG G) 
    (k : ∃ (r3 : Int32) (I1 : zI), Cv X d 131 [.int x1, .int 1, .int 5] G I (some (.int r3), G, I1) ∧ ((r3 = 0 → res = (some (.int (-2)), G, I1)) ∧ (¬ r3 = 0 → ∃ (r7 : Int32) (I5 : zI), Cv X d 145 [.int x2] G I1 (some (.int r7), G, I5) ∧ ((r7 = 0 → res = (some (.int (-2)), G, I5)) ∧ (¬ r7 = 0 → ∃ (r11 : Int32) (I9 : zI), Cv X d 145 [.int x3] G I5 (some (.int r11), G, I9) ∧ ((r11 = 0 → res = (some (.int (-2)), G, I9)) ∧ (¬ r11 = 0 → ∃ (r15 : Int32) (I13 : zI), Cv X d 145 [.int x4] G I9 (some (.int r15), G, I13) ∧ ((r15 = 0 → res = (some (.int (-2)), G, I13)) ∧ (¬ r15 = 0 → ∃ (r19 : Int32) (I17 : zI), Cv X d 145 [.int x5] G I13 (some (.int r19), G, I17) ∧ ((r19 = 0 → res = (some (.int (-2)), G, I17)) ∧ (¬ r19 = 0 → ∃ (r23 : Int32) (I21 : zI), Cv X d 145 [.int x6] G I17 (some (.int r23), G, I21) ∧ ((¬ r23 = 0 → (((I21 57 5) + x1) ≤ 160 → Ev X (d + 1) 144 68 [.ref 57, .int x1, .int x2, .int x3, .int x4, .int x5, .int x6, .int 0] [] G I21 res) ∧ (¬ ((I21 57 5) + x1) ≤ 160 → res = (some (.int (-4)), G, I21))) ∧ (r23 = 0 → res = (some (.int (-2)), G, I21)))))))))))))) :
    Ev X (d + 1) 144 0 [.ref 57, .int x1, .int x2, .int x3, .int x4, .int x5, .int x6, zU] [] G I res := by
  refine Ev_iload_n hq_144 (show decode prog_7_method_12_code 0 = .ok (.iload_n 1, 1) by decide +kernel) rfl ?_
  refine Ev_iconst (v := 1) hq_144 (show decode prog_7_method_12_code 1 = .ok (.iconst 1, 1) by decide +kernel) (by decide) ?_
  refine Ev_iconst (v := 5) hq_144 (show decode prog_7_method_12_code 2 = .ok (.iconst 5, 1) by decide +kernel) (by decide) ?_
  obtain ⟨r3, I1, h2, k⟩ := k
  refine Ev_stat (as := [.int x1, .int 1, .int 5]) hq_144 (show decode prog_7_method_12_code 3 = .ok (.invokestatic 90, 3) by decide +kernel) rfl (Or.inl rfl) hq_131 rfl (z_le rfl) h2 ?_
  refine Ev_if_eq (tgt := 47) hq_144 (show decode prog_7_method_12_code 6 = .ok (.ifCond .eq 41, 3) by decide +kernel) (by decide) (fun c4 => ?_) (fun c4 => ?_)
  · have k := k.1 c4
    refine Ev_bipush (v := (-2)) hq_144 (show decode prog_7_method_12_code 47 = .ok (.bipush (-2), 2) by decide +kernel) (by decide) ?_
    exact Ev_iret hq_144 (show decode prog_7_method_12_code 49 = .ok (.ireturn, 1) by decide +kernel) rfl k
  · have k := k.2 c4
    refine Ev_iload_n hq_144 (show decode prog_7_method_12_code 9 = .ok (.iload_n 2, 1) by decide +kernel) rfl ?_
    obtain ⟨r7, I5, h6, k⟩ := k
    refine Ev_stat (as := [.int x2]) hq_144 (show decode prog_7_method_12_code 10 = .ok (.invokestatic 107, 3) by decide +kernel) rfl (Or.inl rfl) hq_145 rfl (z_le rfl) h6 ?_
    refine Ev_if_eq (tgt := 47) hq_144 (show decode prog_7_method_12_code 13 = .ok (.ifCond .eq 34, 3) by decide +kernel) (by decide) (fun c8 => ?_) (fun c8 => ?_)
    · have k := k.1 c8
      refine Ev_bipush (v := (-2)) hq_144 (show decode prog_7_method_12_code 47 = .ok (.bipush (-2), 2) by decide +kernel) (by decide) ?_
      exact Ev_iret hq_144 (show decode prog_7_method_12_code 49 = .ok (.ireturn, 1) by decide +kernel) rfl k
    · have k := k.2 c8
      refine Ev_iload_n hq_144 (show decode prog_7_method_12_code 16 = .ok (.iload_n 3, 1) by decide +kernel) rfl ?_
      obtain ⟨r11, I9, h10, k⟩ := k
      refine Ev_stat (as := [.int x3]) hq_144 (show decode prog_7_method_12_code 17 = .ok (.invokestatic 107, 3) by decide +kernel) rfl (Or.inl rfl) hq_145 rfl (z_le rfl) h10 ?_
      refine Ev_if_eq (tgt := 47) hq_144 (show decode prog_7_method_12_code 20 = .ok (.ifCond .eq 27, 3) by decide +kernel) (by decide) (fun c12 => ?_) (fun c12 => ?_)
      · have k := k.1 c12
        refine Ev_bipush (v := (-2)) hq_144 (show decode prog_7_method_12_code 47 = .ok (.bipush (-2), 2) by decide +kernel) (by decide) ?_
        exact Ev_iret hq_144 (show decode prog_7_method_12_code 49 = .ok (.ireturn, 1) by decide +kernel) rfl k
      · have k := k.2 c12
        refine Ev_iload hq_144 (show decode prog_7_method_12_code 23 = .ok (.iload 4, 2) by decide +kernel) rfl ?_
        obtain ⟨r15, I13, h14, k⟩ := k
        refine Ev_stat (as := [.int x4]) hq_144 (show decode prog_7_method_12_code 25 = .ok (.invokestatic 107, 3) by decide +kernel) rfl (Or.inl rfl) hq_145 rfl (z_le rfl) h14 ?_
        refine Ev_if_eq (tgt := 47) hq_144 (show decode prog_7_method_12_code 28 = .ok (.ifCond .eq 19, 3) by decide +kernel) (by decide) (fun c16 => ?_) (fun c16 => ?_)
        · have k := k.1 c16
          refine Ev_bipush (v := (-2)) hq_144 (show decode prog_7_method_12_code 47 = .ok (.bipush (-2), 2) by decide +kernel) (by decide) ?_
          exact Ev_iret hq_144 (show decode prog_7_method_12_code 49 = .ok (.ireturn, 1) by decide +kernel) rfl k
        · have k := k.2 c16
          refine Ev_iload hq_144 (show decode prog_7_method_12_code 31 = .ok (.iload 5, 2) by decide +kernel) rfl ?_
          obtain ⟨r19, I17, h18, k⟩ := k
          refine Ev_stat (as := [.int x5]) hq_144 (show decode prog_7_method_12_code 33 = .ok (.invokestatic 107, 3) by decide +kernel) rfl (Or.inl rfl) hq_145 rfl (z_le rfl) h18 ?_
          refine Ev_if_eq (tgt := 47) hq_144 (show decode prog_7_method_12_code 36 = .ok (.ifCond .eq 11, 3) by decide +kernel) (by decide) (fun c20 => ?_) (fun c20 => ?_)
          · have k := k.1 c20
            refine Ev_bipush (v := (-2)) hq_144 (show decode prog_7_method_12_code 47 = .ok (.bipush (-2), 2) by decide +kernel) (by decide) ?_
            exact Ev_iret hq_144 (show decode prog_7_method_12_code 49 = .ok (.ireturn, 1) by decide +kernel) rfl k
          · have k := k.2 c20
            refine Ev_iload hq_144 (show decode prog_7_method_12_code 39 = .ok (.iload 6, 2) by decide +kernel) rfl ?_
            obtain ⟨r23, I21, h22, k⟩ := k
            refine Ev_stat (as := [.int x6]) hq_144 (show decode prog_7_method_12_code 41 = .ok (.invokestatic 107, 3) by decide +kernel) rfl (Or.inl rfl) hq_145 rfl (z_le rfl) h22 ?_
            refine Ev_if_ne (tgt := 50) hq_144 (show decode prog_7_method_12_code 44 = .ok (.ifCond .ne 6, 3) by decide +kernel) (by decide) (fun c24 => ?_) (fun c24 => ?_)
            · have k := k.1 c24
              refine Ev_aload_n hq_144 (show decode prog_7_method_12_code 50 = .ok (.aload_n 0, 1) by decide +kernel) rfl ?_
              refine Ev_getI hq_144 (show decode prog_7_method_12_code 51 = .ok (.getfield 80, 3) by decide +kernel) rfl (SGn hS (by decide)) (SGk hS rfl) (by decide) rfl ?_
              refine Ev_iload_n hq_144 (show decode prog_7_method_12_code 54 = .ok (.iload_n 1, 1) by decide +kernel) rfl ?_
              refine Ev_iadd hq_144 (show decode prog_7_method_12_code 55 = .ok (.iadd, 1) by decide +kernel) ?_
              refine Ev_sipush (v := 160) hq_144 (show decode prog_7_method_12_code 56 = .ok (.sipush 160, 3) by decide +kernel) (by decide) ?_
              refine Ev_icmp_le (tgt := 65) hq_144 (show decode prog_7_method_12_code 59 = .ok (.if_icmp .le 6, 3) by decide +kernel) (by decide) (fun c25 => ?_) (fun c25 => ?_)
              · have k := k.1 c25
                refine Ev_iconst (v := 0) hq_144 (show decode prog_7_method_12_code 65 = .ok (.iconst 0, 1) by decide +kernel) (by decide) ?_
                refine Ev_istore (lo2 := [.ref 57, .int x1, .int x2, .int x3, .int x4, .int x5, .int x6, .int 0]) hq_144 (show decode prog_7_method_12_code 66 = .ok (.istore 7, 2) by decide +kernel) (z_le rfl) rfl ?_
                exact k
              · have k := k.2 c25
                refine Ev_bipush (v := (-4)) hq_144 (show decode prog_7_method_12_code 62 = .ok (.bipush (-4), 2) by decide +kernel) (by decide) ?_
                exact Ev_iret hq_144 (show decode prog_7_method_12_code 64 = .ok (.ireturn, 1) by decide +kernel) rfl k
            · have k := k.2 (Classical.not_not.mp c24)
              refine Ev_bipush (v := (-2)) hq_144 (show decode prog_7_method_12_code 47 = .ok (.bipush (-2), 2) by decide +kernel) (by decide) ?_
              exact Ev_iret hq_144 (show decode prog_7_method_12_code 49 = .ok (.ireturn, 1) by decide +kernel) rfl k
set_option maxRecDepth 20000 in
theorem wp_Z_feed_68 {X : Nat × (Nat → Int32)} {d : Nat} {G : zG} {I : zI} {res : Option Value × zG × zI} (x1 : Int32) (x2 : Int32) (x3 : Int32) (x4 : Int32) (x5 : Int32) (x6 : Int32) (x7 : Int32) (hS : SG G) 
    (k : (x1 ≤ x7 → res = (some (.int (I 57 5)), G, I)) ∧ (¬ x1 ≤ x7 → (¬ x7 = 0 → (¬ x7 = 1 → (¬ x7 = 2 → (¬ x7 = 3 → z_inr (I 57 5) 160 ∧ (∀ I7 : zI, I7 = z_up I 61 (I 57 5).toNatClampNeg x6 → (∀ I8 : zI, I8 = z_up I7 57 5 ((I7 57 5) + 1) → ∀ y9 : Int32, y9 = x7 + 1 → Ev X d 144 68 [.ref 57, .int x1, .int x2, .int x3, .int x4, .int x5, .int x6, .int y9] [] G I8 res))) ∧ (x7 = 3 → z_inr (I 57 5) 160 ∧ (∀ I11 : zI, I11 = z_up I 61 (I 57 5).toNatClampNeg x5 → (∀ I12 : zI, I12 = z_up I11 57 5 ((I11 57 5) + 1) → ∀ y13 : Int32, y13 = x7 + 1 → Ev X d 144 68 [.ref 57, .int x1, .int x2, .int x3, .int x4, .int x5, .int x6, .int y13] [] G I12 res)))) ∧ (x7 = 2 → z_inr (I 57 5) 160 ∧ (∀ I15 : zI, I15 = z_up I 61 (I 57 5).toNatClampNeg x4 → (∀ I16 : zI, I16 = z_up I15 57 5 ((I15 57 5) + 1) → ∀ y17 : Int32, y17 = x7 + 1 → Ev X d 144 68 [.ref 57, .int x1, .int x2, .int x3, .int x4, .int x5, .int x6, .int y17] [] G I16 res)))) ∧ (x7 = 1 → z_inr (I 57 5) 160 ∧ (∀ I19 : zI, I19 = z_up I 61 (I 57 5).toNatClampNeg x3 → (∀ I20 : zI, I20 = z_up I19 57 5 ((I19 57 5) + 1) → ∀ y21 : Int32, y21 = x7 + 1 → Ev X d 144 68 [.ref 57, .int x1, .int x2, .int x3, .int x4, .int x5, .int x6, .int y21] [] G I20 res)))) ∧ (x7 = 0 → z_inr (I 57 5) 160 ∧ (∀ I23 : zI, I23 = z_up I 61 (I 57 5).toNatClampNeg x2 → (∀ I24 : zI, I24 = z_up I23 57 5 ((I23 57 5) + 1) → ∀ y25 : Int32, y25 = x7 + 1 → Ev X d 144 68 [.ref 57, .int x1, .int x2, .int x3, .int x4, .int x5, .int x6, .int y25] [] G I24 res))))) :
    Ev X d 144 68 [.ref 57, .int x1, .int x2, .int x3, .int x4, .int x5, .int x6, .int x7] [] G I res := by
  refine Ev_iload hq_144 (show decode prog_7_method_12_code 68 = .ok (.iload 7, 2) by decide +kernel) rfl ?_
  refine Ev_iload_n hq_144 (show decode prog_7_method_12_code 70 = .ok (.iload_n 1, 1) by decide +kernel) rfl ?_
  refine Ev_icmp_ge (tgt := 142) hq_144 (show decode prog_7_method_12_code 71 = .ok (.if_icmp .ge 71, 3) by decide +kernel) (by decide) (fun c1 => ?_) (fun c1 => ?_)
  · have k := k.1 c1
    refine Ev_aload_n hq_144 (show decode prog_7_method_12_code 142 = .ok (.aload_n 0, 1) by decide +kernel) rfl ?_
    refine Ev_getI hq_144 (show decode prog_7_method_12_code 143 = .ok (.getfield 80, 3) by decide +kernel) rfl (SGn hS (by decide)) (SGk hS rfl) (by decide) rfl ?_
    exact Ev_iret hq_144 (show decode prog_7_method_12_code 146 = .ok (.ireturn, 1) by decide +kernel) rfl k
  · have k := k.2 c1
    refine Ev_aload_n hq_144 (show decode prog_7_method_12_code 74 = .ok (.aload_n 0, 1) by decide +kernel) rfl ?_
    refine Ev_getR hq_144 (show decode prog_7_method_12_code 75 = .ok (.getfield 19, 3) by decide +kernel) rfl (SGn hS (by decide)) (SGk hS rfl) (by decide) rfl (SGr hS rfl) ?_
    refine Ev_aload_n hq_144 (show decode prog_7_method_12_code 78 = .ok (.aload_n 0, 1) by decide +kernel) rfl ?_
    refine Ev_getI hq_144 (show decode prog_7_method_12_code 79 = .ok (.getfield 80, 3) by decide +kernel) rfl (SGn hS (by decide)) (SGk hS rfl) (by decide) rfl ?_
    refine Ev_iload hq_144 (show decode prog_7_method_12_code 82 = .ok (.iload 7, 2) by decide +kernel) rfl ?_
    refine Ev_if_ne (tgt := 91) hq_144 (show decode prog_7_method_12_code 84 = .ok (.ifCond .ne 7, 3) by decide +kernel) (by decide) (fun c2 => ?_) (fun c2 => ?_)
    · have k := k.1 c2
      refine Ev_iload hq_144 (show decode prog_7_method_12_code 91 = .ok (.iload 7, 2) by decide +kernel) rfl ?_
      refine Ev_iconst (v := 1) hq_144 (show decode prog_7_method_12_code 93 = .ok (.iconst 1, 1) by decide +kernel) (by decide) ?_
      refine Ev_icmp_ne (tgt := 101) hq_144 (show decode prog_7_method_12_code 94 = .ok (.if_icmp .ne 7, 3) by decide +kernel) (by decide) (fun c3 => ?_) (fun c3 => ?_)
      · have k := k.1 c3
        refine Ev_iload hq_144 (show decode prog_7_method_12_code 101 = .ok (.iload 7, 2) by decide +kernel) rfl ?_
        refine Ev_iconst (v := 2) hq_144 (show decode prog_7_method_12_code 103 = .ok (.iconst 2, 1) by decide +kernel) (by decide) ?_
        refine Ev_icmp_ne (tgt := 112) hq_144 (show decode prog_7_method_12_code 104 = .ok (.if_icmp .ne 8, 3) by decide +kernel) (by decide) (fun c4 => ?_) (fun c4 => ?_)
        · have k := k.1 c4
          refine Ev_iload hq_144 (show decode prog_7_method_12_code 112 = .ok (.iload 7, 2) by decide +kernel) rfl ?_
          refine Ev_iconst (v := 3) hq_144 (show decode prog_7_method_12_code 114 = .ok (.iconst 3, 1) by decide +kernel) (by decide) ?_
          refine Ev_icmp_ne (tgt := 123) hq_144 (show decode prog_7_method_12_code 115 = .ok (.if_icmp .ne 8, 3) by decide +kernel) (by decide) (fun c5 => ?_) (fun c5 => ?_)
          · have k := k.1 c5
            refine Ev_iload hq_144 (show decode prog_7_method_12_code 123 = .ok (.iload 6, 2) by decide +kernel) rfl ?_
            obtain ⟨h6, k⟩ := k
            refine Ev_iast hq_144 (show decode prog_7_method_12_code 125 = .ok (.iastore, 1) by decide +kernel) (SGn hS (by decide)) (SGk hS rfl) (SGi hS rfl h6) ?_
            obtain ⟨I7, eI7⟩ : ∃ I7 : zI, I7 = z_up I 61 (I 57 5).toNatClampNeg x6 := ⟨_, rfl⟩
            have k := k I7 eI7
            rw [← eI7]
            refine Ev_aload_n hq_144 (show decode prog_7_method_12_code 126 = .ok (.aload_n 0, 1) by decide +kernel) rfl ?_
            refine Ev_dup hq_144 (show decode prog_7_method_12_code 127 = .ok (.dup, 1) by decide +kernel) rfl ?_
            refine Ev_getI hq_144 (show decode prog_7_method_12_code 128 = .ok (.getfield 80, 3) by decide +kernel) rfl (SGn hS (by decide)) (SGk hS rfl) (by decide) rfl ?_
            refine Ev_iconst (v := 1) hq_144 (show decode prog_7_method_12_code 131 = .ok (.iconst 1, 1) by decide +kernel) (by decide) ?_
            refine Ev_iadd hq_144 (show decode prog_7_method_12_code 132 = .ok (.iadd, 1) by decide +kernel) ?_
            refine Ev_putI hq_144 (show decode prog_7_method_12_code 133 = .ok (.putfield 80, 3) by decide +kernel) rfl (SGn hS (by decide)) (SGk hS rfl) (by decide) (by decide) rfl (fun hz => by cases hz) ?_
            obtain ⟨I8, eI8⟩ : ∃ I8 : zI, I8 = z_up I7 57 5 ((I7 57 5) + 1) := ⟨_, rfl⟩
            have k := k I8 eI8
            rw [← eI8]
            obtain ⟨y9, ey9⟩ : ∃ y9 : Int32, y9 = x7 + 1 := ⟨_, rfl⟩
            have k := k y9 ey9
            refine Ev_iinc (v := y9) (lo2 := [.ref 57, .int x1, .int x2, .int x3, .int x4, .int x5, .int x6, .int y9]) hq_144 (show decode prog_7_method_12_code 136 = .ok (.iinc 7 1, 3) by decide +kernel) rfl (by rw [ey9]; rfl) rfl ?_
            refine Ev_goto (tgt := 68) hq_144 (show decode prog_7_method_12_code 139 = .ok (.goto (-71), 3) by decide +kernel) (by decide) ?_
            exact k
          · have k := k.2 (Classical.not_not.mp c5)
            refine Ev_iload hq_144 (show decode prog_7_method_12_code 118 = .ok (.iload 5, 2) by decide +kernel) rfl ?_
            refine Ev_goto (tgt := 125) hq_144 (show decode prog_7_method_12_code 120 = .ok (.goto 5, 3) by decide +kernel) (by decide) ?_
            obtain ⟨h10, k⟩ := k
            refine Ev_iast hq_144 (show decode prog_7_method_12_code 125 = .ok (.iastore, 1) by decide +kernel) (SGn hS (by decide)) (SGk hS rfl) (SGi hS rfl h10) ?_
            obtain ⟨I11, eI11⟩ : ∃ I11 : zI, I11 = z_up I 61 (I 57 5).toNatClampNeg x5 := ⟨_, rfl⟩
            have k := k I11 eI11
            rw [← eI11]
            refine Ev_aload_n hq_144 (show decode prog_7_method_12_code 126 = .ok (.aload_n 0, 1) by decide +kernel) rfl ?_
            refine Ev_dup hq_144 (show decode prog_7_method_12_code 127 = .ok (.dup, 1) by decide +kernel) rfl ?_
            refine Ev_getI hq_144 (show decode prog_7_method_12_code 128 = .ok (.getfield 80, 3) by decide +kernel) rfl (SGn hS (by decide)) (SGk hS rfl) (by decide) rfl ?_
            refine Ev_iconst (v := 1) hq_144 (show decode prog_7_method_12_code 131 = .ok (.iconst 1, 1) by decide +kernel) (by decide) ?_
            refine Ev_iadd hq_144 (show decode prog_7_method_12_code 132 = .ok (.iadd, 1) by decide +kernel) ?_
            refine Ev_putI hq_144 (show decode prog_7_method_12_code 133 = .ok (.putfield 80, 3) by decide +kernel) rfl (SGn hS (by decide)) (SGk hS rfl) (by decide) (by decide) rfl (fun hz => by cases hz) ?_
            obtain ⟨I12, eI12⟩ : ∃ I12 : zI, I12 = z_up I11 57 5 ((I11 57 5) + 1) := ⟨_, rfl⟩
            have k := k I12 eI12
            rw [← eI12]
            obtain ⟨y13, ey13⟩ : ∃ y13 : Int32, y13 = x7 + 1 := ⟨_, rfl⟩
            have k := k y13 ey13
            refine Ev_iinc (v := y13) (lo2 := [.ref 57, .int x1, .int x2, .int x3, .int x4, .int x5, .int x6, .int y13]) hq_144 (show decode prog_7_method_12_code 136 = .ok (.iinc 7 1, 3) by decide +kernel) rfl (by rw [ey13]; rfl) rfl ?_
            refine Ev_goto (tgt := 68) hq_144 (show decode prog_7_method_12_code 139 = .ok (.goto (-71), 3) by decide +kernel) (by decide) ?_
            exact k
        · have k := k.2 (Classical.not_not.mp c4)
          refine Ev_iload hq_144 (show decode prog_7_method_12_code 107 = .ok (.iload 4, 2) by decide +kernel) rfl ?_
          refine Ev_goto (tgt := 125) hq_144 (show decode prog_7_method_12_code 109 = .ok (.goto 16, 3) by decide +kernel) (by decide) ?_
          obtain ⟨h14, k⟩ := k
          refine Ev_iast hq_144 (show decode prog_7_method_12_code 125 = .ok (.iastore, 1) by decide +kernel) (SGn hS (by decide)) (SGk hS rfl) (SGi hS rfl h14) ?_
          obtain ⟨I15, eI15⟩ : ∃ I15 : zI, I15 = z_up I 61 (I 57 5).toNatClampNeg x4 := ⟨_, rfl⟩
          have k := k I15 eI15
          rw [← eI15]
          refine Ev_aload_n hq_144 (show decode prog_7_method_12_code 126 = .ok (.aload_n 0, 1) by decide +kernel) rfl ?_
          refine Ev_dup hq_144 (show decode prog_7_method_12_code 127 = .ok (.dup, 1) by decide +kernel) rfl ?_
          refine Ev_getI hq_144 (show decode prog_7_method_12_code 128 = .ok (.getfield 80, 3) by decide +kernel) rfl (SGn hS (by decide)) (SGk hS rfl) (by decide) rfl ?_
          refine Ev_iconst (v := 1) hq_144 (show decode prog_7_method_12_code 131 = .ok (.iconst 1, 1) by decide +kernel) (by decide) ?_
          refine Ev_iadd hq_144 (show decode prog_7_method_12_code 132 = .ok (.iadd, 1) by decide +kernel) ?_
          refine Ev_putI hq_144 (show decode prog_7_method_12_code 133 = .ok (.putfield 80, 3) by decide +kernel) rfl (SGn hS (by decide)) (SGk hS rfl) (by decide) (by decide) rfl (fun hz => by cases hz) ?_
          obtain ⟨I16, eI16⟩ : ∃ I16 : zI, I16 = z_up I15 57 5 ((I15 57 5) + 1) := ⟨_, rfl⟩
          have k := k I16 eI16
          rw [← eI16]
          obtain ⟨y17, ey17⟩ : ∃ y17 : Int32, y17 = x7 + 1 := ⟨_, rfl⟩
          have k := k y17 ey17
          refine Ev_iinc (v := y17) (lo2 := [.ref 57, .int x1, .int x2, .int x3, .int x4, .int x5, .int x6, .int y17]) hq_144 (show decode prog_7_method_12_code 136 = .ok (.iinc 7 1, 3) by decide +kernel) rfl (by rw [ey17]; rfl) rfl ?_
          refine Ev_goto (tgt := 68) hq_144 (show decode prog_7_method_12_code 139 = .ok (.goto (-71), 3) by decide +kernel) (by decide) ?_
          exact k
      · have k := k.2 (Classical.not_not.mp c3)
        refine Ev_iload_n hq_144 (show decode prog_7_method_12_code 97 = .ok (.iload_n 3, 1) by decide +kernel) rfl ?_
        refine Ev_goto (tgt := 125) hq_144 (show decode prog_7_method_12_code 98 = .ok (.goto 27, 3) by decide +kernel) (by decide) ?_
        obtain ⟨h18, k⟩ := k
        refine Ev_iast hq_144 (show decode prog_7_method_12_code 125 = .ok (.iastore, 1) by decide +kernel) (SGn hS (by decide)) (SGk hS rfl) (SGi hS rfl h18) ?_
        obtain ⟨I19, eI19⟩ : ∃ I19 : zI, I19 = z_up I 61 (I 57 5).toNatClampNeg x3 := ⟨_, rfl⟩
        have k := k I19 eI19
        rw [← eI19]
        refine Ev_aload_n hq_144 (show decode prog_7_method_12_code 126 = .ok (.aload_n 0, 1) by decide +kernel) rfl ?_
        refine Ev_dup hq_144 (show decode prog_7_method_12_code 127 = .ok (.dup, 1) by decide +kernel) rfl ?_
        refine Ev_getI hq_144 (show decode prog_7_method_12_code 128 = .ok (.getfield 80, 3) by decide +kernel) rfl (SGn hS (by decide)) (SGk hS rfl) (by decide) rfl ?_
        refine Ev_iconst (v := 1) hq_144 (show decode prog_7_method_12_code 131 = .ok (.iconst 1, 1) by decide +kernel) (by decide) ?_
        refine Ev_iadd hq_144 (show decode prog_7_method_12_code 132 = .ok (.iadd, 1) by decide +kernel) ?_
        refine Ev_putI hq_144 (show decode prog_7_method_12_code 133 = .ok (.putfield 80, 3) by decide +kernel) rfl (SGn hS (by decide)) (SGk hS rfl) (by decide) (by decide) rfl (fun hz => by cases hz) ?_
        obtain ⟨I20, eI20⟩ : ∃ I20 : zI, I20 = z_up I19 57 5 ((I19 57 5) + 1) := ⟨_, rfl⟩
        have k := k I20 eI20
        rw [← eI20]
        obtain ⟨y21, ey21⟩ : ∃ y21 : Int32, y21 = x7 + 1 := ⟨_, rfl⟩
        have k := k y21 ey21
        refine Ev_iinc (v := y21) (lo2 := [.ref 57, .int x1, .int x2, .int x3, .int x4, .int x5, .int x6, .int y21]) hq_144 (show decode prog_7_method_12_code 136 = .ok (.iinc 7 1, 3) by decide +kernel) rfl (by rw [ey21]; rfl) rfl ?_
        refine Ev_goto (tgt := 68) hq_144 (show decode prog_7_method_12_code 139 = .ok (.goto (-71), 3) by decide +kernel) (by decide) ?_
        exact k
    · have k := k.2 (Classical.not_not.mp c2)
      refine Ev_iload_n hq_144 (show decode prog_7_method_12_code 87 = .ok (.iload_n 2, 1) by decide +kernel) rfl ?_
      refine Ev_goto (tgt := 125) hq_144 (show decode prog_7_method_12_code 88 = .ok (.goto 37, 3) by decide +kernel) (by decide) ?_
      obtain ⟨h22, k⟩ := k
      refine Ev_iast hq_144 (show decode prog_7_method_12_code 125 = .ok (.iastore, 1) by decide +kernel) (SGn hS (by decide)) (SGk hS rfl) (SGi hS rfl h22) ?_
      obtain ⟨I23, eI23⟩ : ∃ I23 : zI, I23 = z_up I 61 (I 57 5).toNatClampNeg x2 := ⟨_, rfl⟩
      have k := k I23 eI23
      rw [← eI23]
      refine Ev_aload_n hq_144 (show decode prog_7_method_12_code 126 = .ok (.aload_n 0, 1) by decide +kernel) rfl ?_
      refine Ev_dup hq_144 (show decode prog_7_method_12_code 127 = .ok (.dup, 1) by decide +kernel) rfl ?_
      refine Ev_getI hq_144 (show decode prog_7_method_12_code 128 = .ok (.getfield 80, 3) by decide +kernel) rfl (SGn hS (by decide)) (SGk hS rfl) (by decide) rfl ?_
      refine Ev_iconst (v := 1) hq_144 (show decode prog_7_method_12_code 131 = .ok (.iconst 1, 1) by decide +kernel) (by decide) ?_
      refine Ev_iadd hq_144 (show decode prog_7_method_12_code 132 = .ok (.iadd, 1) by decide +kernel) ?_
      refine Ev_putI hq_144 (show decode prog_7_method_12_code 133 = .ok (.putfield 80, 3) by decide +kernel) rfl (SGn hS (by decide)) (SGk hS rfl) (by decide) (by decide) rfl (fun hz => by cases hz) ?_
      obtain ⟨I24, eI24⟩ : ∃ I24 : zI, I24 = z_up I23 57 5 ((I23 57 5) + 1) := ⟨_, rfl⟩
      have k := k I24 eI24
      rw [← eI24]
      obtain ⟨y25, ey25⟩ : ∃ y25 : Int32, y25 = x7 + 1 := ⟨_, rfl⟩
      have k := k y25 ey25
      refine Ev_iinc (v := y25) (lo2 := [.ref 57, .int x1, .int x2, .int x3, .int x4, .int x5, .int x6, .int y25]) hq_144 (show decode prog_7_method_12_code 136 = .ok (.iinc 7 1, 3) by decide +kernel) rfl (by rw [ey25]; rfl) rfl ?_
      refine Ev_goto (tgt := 68) hq_144 (show decode prog_7_method_12_code 139 = .ok (.goto (-71), 3) by decide +kernel) (by decide) ?_
      exact k
set_option maxRecDepth 20000 in
theorem wp_Z_isByte {X : Nat × (Nat → Int32)} {d : Nat} {G : zG} {I : zI} {res : Option Value × zG × zI} (x0 : Int32) 
    (k : ∃ (r3 : Int32) (I1 : zI), Cv X d 131 [.int x0, .int 0, .int 255] G I (some (.int r3), G, I1) ∧ ((r3 = 0 ∨ r3 = 1) ∧ res = (some (.int r3), G, I1))) :
    Ev X (d + 1) 145 0 [.int x0] [] G I res := by
  refine Ev_iload_n hq_145 (show decode prog_7_method_11_code 0 = .ok (.iload_n 0, 1) by decide +kernel) rfl ?_
  refine Ev_iconst (v := 0) hq_145 (show decode prog_7_method_11_code 1 = .ok (.iconst 0, 1) by decide +kernel) (by decide) ?_
  refine Ev_sipush (v := 255) hq_145 (show decode prog_7_method_11_code 2 = .ok (.sipush 255, 3) by decide +kernel) (by decide) ?_
  obtain ⟨r3, I1, h2, k⟩ := k
  refine Ev_stat (as := [.int x0, .int 0, .int 255]) hq_145 (show decode prog_7_method_11_code 5 = .ok (.invokestatic 90, 3) by decide +kernel) rfl (Or.inl rfl) hq_131 rfl (z_le rfl) h2 ?_
  obtain ⟨h4, k⟩ := k
  exact Ev_iret hq_145 (show decode prog_7_method_11_code 8 = .ok (.ireturn, 1) by decide +kernel) (z_nb h4) k
set_option maxRecDepth 20000 in
theorem wp_Z_force {X : Nat × (Nat → Int32)} {d : Nat} {G : zG} {I : zI} {res : Option Value × zG × zI} (x1 : Int32) (hS : SG G) 
    (k : ∃ (r3 : Int32) (I1 : zI), Cv X d 131 [.int x1, .int 0, .int ((I 57 8) - 1)] G I (some (.int r3), G, I1) ∧ ((¬ r3 = 0 → ∀ y5 : Int32, y5 = (I1 57 9) → (∀ I6 : zI, I6 = z_up I1 57 9 x1 → res = (some (.int y5), G, I6))) ∧ (r3 = 0 → res = (some (.int (-2)), G, I1)))) :
    Ev X (d + 1) 146 0 [.ref 57, .int x1, zU] [] G I res := by
  refine Ev_iload_n hq_146 (show decode prog_7_method_26_code 0 = .ok (.iload_n 1, 1) by decide +kernel) rfl ?_
  refine Ev_iconst (v := 0) hq_146 (show decode prog_7_method_26_code 1 = .ok (.iconst 0, 1) by decide +kernel) (by decide) ?_
  refine Ev_aload_n hq_146 (show decode prog_7_method_26_code 2 = .ok (.aload_n 0, 1) by decide +kernel) rfl ?_
  refine Ev_getI hq_146 (show decode prog_7_method_26_code 3 = .ok (.getfield 101, 3) by decide +kernel) rfl (SGn hS (by decide)) (SGk hS rfl) (by decide) rfl ?_
  refine Ev_iconst (v := 1) hq_146 (show decode prog_7_method_26_code 6 = .ok (.iconst 1, 1) by decide +kernel) (by decide) ?_
  refine Ev_isub hq_146 (show decode prog_7_method_26_code 7 = .ok (.isub, 1) by decide +kernel) ?_
  obtain ⟨r3, I1, h2, k⟩ := k
  refine Ev_stat (as := [.int x1, .int 0, .int ((I 57 8) - 1)]) hq_146 (show decode prog_7_method_26_code 8 = .ok (.invokestatic 90, 3) by decide +kernel) rfl (Or.inl rfl) hq_131 rfl (z_le rfl) h2 ?_
  refine Ev_if_ne (tgt := 17) hq_146 (show decode prog_7_method_26_code 11 = .ok (.ifCond .ne 6, 3) by decide +kernel) (by decide) (fun c4 => ?_) (fun c4 => ?_)
  · have k := k.1 c4
    refine Ev_aload_n hq_146 (show decode prog_7_method_26_code 17 = .ok (.aload_n 0, 1) by decide +kernel) rfl ?_
    refine Ev_getI hq_146 (show decode prog_7_method_26_code 18 = .ok (.getfield 104, 3) by decide +kernel) rfl (SGn hS (by decide)) (SGk hS rfl) (by decide) rfl ?_
    obtain ⟨y5, ey5⟩ : ∃ y5 : Int32, y5 = (I1 57 9) := ⟨_, rfl⟩
    have k := k y5 ey5
    rw [← ey5]
    refine Ev_istore_n (lo2 := [.ref 57, .int x1, .int y5]) hq_146 (show decode prog_7_method_26_code 21 = .ok (.istore_n 2, 1) by decide +kernel) (z_le rfl) rfl ?_
    refine Ev_aload_n hq_146 (show decode prog_7_method_26_code 22 = .ok (.aload_n 0, 1) by decide +kernel) rfl ?_
    refine Ev_iload_n hq_146 (show decode prog_7_method_26_code 23 = .ok (.iload_n 1, 1) by decide +kernel) rfl ?_
    refine Ev_putI hq_146 (show decode prog_7_method_26_code 24 = .ok (.putfield 104, 3) by decide +kernel) rfl (SGn hS (by decide)) (SGk hS rfl) (by decide) (by decide) rfl (fun hz => by cases hz) ?_
    obtain ⟨I6, eI6⟩ : ∃ I6 : zI, I6 = z_up I1 57 9 x1 := ⟨_, rfl⟩
    have k := k I6 eI6
    rw [← eI6]
    refine Ev_iload_n hq_146 (show decode prog_7_method_26_code 27 = .ok (.iload_n 2, 1) by decide +kernel) rfl ?_
    exact Ev_iret hq_146 (show decode prog_7_method_26_code 28 = .ok (.ireturn, 1) by decide +kernel) rfl k
  · have k := k.2 (Classical.not_not.mp c4)
    refine Ev_bipush (v := (-2)) hq_146 (show decode prog_7_method_26_code 14 = .ok (.bipush (-2), 2) by decide +kernel) (by decide) ?_
    exact Ev_iret hq_146 (show decode prog_7_method_26_code 16 = .ok (.ireturn, 1) by decide +kernel) rfl k
set_option maxRecDepth 20000 in
theorem wp_Z_asks {X : Nat × (Nat → Int32)} {d : Nat} {G : zG} {I : zI} {res : Option Value × zG × zI} (x1 : Int32) (x2 : Int32) (x3 : Int32) (x4 : Int32) (x5 : Int32) (hS : SG G) 
    (k : ∃ (r3 : Int32) (I1 : zI), Cv X d 148 [.ref 57, .int x5] G I (some (.int r3), G, I1) ∧ ((¬ r3 = 0 → ∃ (r7 : Int32) (I5 : zI), Cv X d 131 [.int x1, .int 0, .int 2] G I1 (some (.int r7), G, I5) ∧ ((r7 = 0 → res = (some (.int (-2000)), G, I5)) ∧ (¬ r7 = 0 → ∃ (r11 : Int32) (I9 : zI), Cv X d 131 [.int x2, .int 0, .int 3999999] G I5 (some (.int r11), G, I9) ∧ ((r11 = 0 → res = (some (.int (-2000)), G, I9)) ∧ (¬ r11 = 0 → ∃ (r15 : Int32) (I13 : zI), Cv X d 131 [.int x3, .int 0, .int 999] G I9 (some (.int r15), G, I13) ∧ ((r15 = 0 → res = (some (.int (-2000)), G, I13)) ∧ (¬ r15 = 0 → ∃ (r19 : Int32) (I17 : zI), Cv X d 131 [.int x4, .int 0, .int 29] G I13 (some (.int r19), G, I17) ∧ ((r19 = 0 → res = (some (.int (-2000)), G, I17)) ∧ (¬ r19 = 0 → ∃ (r23 : Int32) (I21 : zI), Cv X d 149 [.ref 57, .int x1, .int x5, .int ((x2 / 2000) - 1000), .int ((x2 - x2 / 2000 * 2000) - 1000), .int x3, .int x4] G I17 (some (.int r23), G, I21) ∧ (res = (some (.int r23), G, I21))))))))))) ∧ (r3 = 0 → res = (some (.int (-1000)), G, I1)))) :
    Ev X (d + 1) 147 0 [.ref 57, .int x1, .int x2, .int x3, .int x4, .int x5, zU] [] G I res := by
  refine Ev_aload_n hq_147 (show decode prog_7_method_28_code 0 = .ok (.aload_n 0, 1) by decide +kernel) rfl ?_
  refine Ev_iload hq_147 (show decode prog_7_method_28_code 1 = .ok (.iload 5, 2) by decide +kernel) rfl ?_
  obtain ⟨r3, I1, h2, k⟩ := k
  refine Ev_virt (as := [.int x5]) hq_147 (show decode prog_7_method_28_code 3 = .ok (.invokevirtual 176, 3) by decide +kernel) rfl hq_148 rfl (z_le rfl) ⟨(SGn hS (by decide)), (SGk hS rfl), by decide⟩ h2 ?_
  refine Ev_if_ne (tgt := 13) hq_147 (show decode prog_7_method_28_code 6 = .ok (.ifCond .ne 7, 3) by decide +kernel) (by decide) (fun c4 => ?_) (fun c4 => ?_)
  · have k := k.1 c4
    refine Ev_iload_n hq_147 (show decode prog_7_method_28_code 13 = .ok (.iload_n 1, 1) by decide +kernel) rfl ?_
    refine Ev_iconst (v := 0) hq_147 (show decode prog_7_method_28_code 14 = .ok (.iconst 0, 1) by decide +kernel) (by decide) ?_
    refine Ev_iconst (v := 2) hq_147 (show decode prog_7_method_28_code 15 = .ok (.iconst 2, 1) by decide +kernel) (by decide) ?_
    obtain ⟨r7, I5, h6, k⟩ := k
    refine Ev_stat (as := [.int x1, .int 0, .int 2]) hq_147 (show decode prog_7_method_28_code 16 = .ok (.invokestatic 90, 3) by decide +kernel) rfl (Or.inl rfl) hq_131 rfl (z_le rfl) h6 ?_
    refine Ev_if_eq (tgt := 58) hq_147 (show decode prog_7_method_28_code 19 = .ok (.ifCond .eq 39, 3) by decide +kernel) (by decide) (fun c8 => ?_) (fun c8 => ?_)
    · have k := k.1 c8
      refine Ev_iconst (v := 0) hq_147 (show decode prog_7_method_28_code 58 = .ok (.iconst 0, 1) by decide +kernel) (by decide) ?_
      refine Ev_istore (lo2 := [.ref 57, .int x1, .int x2, .int x3, .int x4, .int x5, .int 0]) hq_147 (show decode prog_7_method_28_code 59 = .ok (.istore 6, 2) by decide +kernel) (z_le rfl) rfl ?_
      refine Ev_iload hq_147 (show decode prog_7_method_28_code 61 = .ok (.iload 6, 2) by decide +kernel) rfl ?_
      refine Ev_if_eq (tgt := 97) hq_147 (show decode prog_7_method_28_code 63 = .ok (.ifCond .eq 34, 3) by decide +kernel) (by decide) (fun _ => ?_) (fun hz => absurd (by decide) hz)
      refine Ev_sipush (v := (-2000)) hq_147 (show decode prog_7_method_28_code 97 = .ok (.sipush (-2000), 3) by decide +kernel) (by decide) ?_
      exact Ev_iret hq_147 (show decode prog_7_method_28_code 100 = .ok (.ireturn, 1) by decide +kernel) rfl k
    · have k := k.2 c8
      refine Ev_iload_n hq_147 (show decode prog_7_method_28_code 22 = .ok (.iload_n 2, 1) by decide +kernel) rfl ?_
      refine Ev_iconst (v := 0) hq_147 (show decode prog_7_method_28_code 23 = .ok (.iconst 0, 1) by decide +kernel) (by decide) ?_
      refine Ev_ldc (v := 3999999) hq_147 (show decode prog_7_method_28_code 24 = .ok (.ldc 179, 2) by decide +kernel) rfl ?_
      obtain ⟨r11, I9, h10, k⟩ := k
      refine Ev_stat (as := [.int x2, .int 0, .int 3999999]) hq_147 (show decode prog_7_method_28_code 26 = .ok (.invokestatic 90, 3) by decide +kernel) rfl (Or.inl rfl) hq_131 rfl (z_le rfl) h10 ?_
      refine Ev_if_eq (tgt := 58) hq_147 (show decode prog_7_method_28_code 29 = .ok (.ifCond .eq 29, 3) by decide +kernel) (by decide) (fun c12 => ?_) (fun c12 => ?_)
      · have k := k.1 c12
        refine Ev_iconst (v := 0) hq_147 (show decode prog_7_method_28_code 58 = .ok (.iconst 0, 1) by decide +kernel) (by decide) ?_
        refine Ev_istore (lo2 := [.ref 57, .int x1, .int x2, .int x3, .int x4, .int x5, .int 0]) hq_147 (show decode prog_7_method_28_code 59 = .ok (.istore 6, 2) by decide +kernel) (z_le rfl) rfl ?_
        refine Ev_iload hq_147 (show decode prog_7_method_28_code 61 = .ok (.iload 6, 2) by decide +kernel) rfl ?_
        refine Ev_if_eq (tgt := 97) hq_147 (show decode prog_7_method_28_code 63 = .ok (.ifCond .eq 34, 3) by decide +kernel) (by decide) (fun _ => ?_) (fun hz => absurd (by decide) hz)
        refine Ev_sipush (v := (-2000)) hq_147 (show decode prog_7_method_28_code 97 = .ok (.sipush (-2000), 3) by decide +kernel) (by decide) ?_
        exact Ev_iret hq_147 (show decode prog_7_method_28_code 100 = .ok (.ireturn, 1) by decide +kernel) rfl k
      · have k := k.2 c12
        refine Ev_iload_n hq_147 (show decode prog_7_method_28_code 32 = .ok (.iload_n 3, 1) by decide +kernel) rfl ?_
        refine Ev_iconst (v := 0) hq_147 (show decode prog_7_method_28_code 33 = .ok (.iconst 0, 1) by decide +kernel) (by decide) ?_
        refine Ev_sipush (v := 999) hq_147 (show decode prog_7_method_28_code 34 = .ok (.sipush 999, 3) by decide +kernel) (by decide) ?_
        obtain ⟨r15, I13, h14, k⟩ := k
        refine Ev_stat (as := [.int x3, .int 0, .int 999]) hq_147 (show decode prog_7_method_28_code 37 = .ok (.invokestatic 90, 3) by decide +kernel) rfl (Or.inl rfl) hq_131 rfl (z_le rfl) h14 ?_
        refine Ev_if_eq (tgt := 58) hq_147 (show decode prog_7_method_28_code 40 = .ok (.ifCond .eq 18, 3) by decide +kernel) (by decide) (fun c16 => ?_) (fun c16 => ?_)
        · have k := k.1 c16
          refine Ev_iconst (v := 0) hq_147 (show decode prog_7_method_28_code 58 = .ok (.iconst 0, 1) by decide +kernel) (by decide) ?_
          refine Ev_istore (lo2 := [.ref 57, .int x1, .int x2, .int x3, .int x4, .int x5, .int 0]) hq_147 (show decode prog_7_method_28_code 59 = .ok (.istore 6, 2) by decide +kernel) (z_le rfl) rfl ?_
          refine Ev_iload hq_147 (show decode prog_7_method_28_code 61 = .ok (.iload 6, 2) by decide +kernel) rfl ?_
          refine Ev_if_eq (tgt := 97) hq_147 (show decode prog_7_method_28_code 63 = .ok (.ifCond .eq 34, 3) by decide +kernel) (by decide) (fun _ => ?_) (fun hz => absurd (by decide) hz)
          refine Ev_sipush (v := (-2000)) hq_147 (show decode prog_7_method_28_code 97 = .ok (.sipush (-2000), 3) by decide +kernel) (by decide) ?_
          exact Ev_iret hq_147 (show decode prog_7_method_28_code 100 = .ok (.ireturn, 1) by decide +kernel) rfl k
        · have k := k.2 c16
          refine Ev_iload hq_147 (show decode prog_7_method_28_code 43 = .ok (.iload 4, 2) by decide +kernel) rfl ?_
          refine Ev_iconst (v := 0) hq_147 (show decode prog_7_method_28_code 45 = .ok (.iconst 0, 1) by decide +kernel) (by decide) ?_
          refine Ev_bipush (v := 29) hq_147 (show decode prog_7_method_28_code 46 = .ok (.bipush 29, 2) by decide +kernel) (by decide) ?_
          obtain ⟨r19, I17, h18, k⟩ := k
          refine Ev_stat (as := [.int x4, .int 0, .int 29]) hq_147 (show decode prog_7_method_28_code 48 = .ok (.invokestatic 90, 3) by decide +kernel) rfl (Or.inl rfl) hq_131 rfl (z_le rfl) h18 ?_
          refine Ev_if_eq (tgt := 58) hq_147 (show decode prog_7_method_28_code 51 = .ok (.ifCond .eq 7, 3) by decide +kernel) (by decide) (fun c20 => ?_) (fun c20 => ?_)
          · have k := k.1 c20
            refine Ev_iconst (v := 0) hq_147 (show decode prog_7_method_28_code 58 = .ok (.iconst 0, 1) by decide +kernel) (by decide) ?_
            refine Ev_istore (lo2 := [.ref 57, .int x1, .int x2, .int x3, .int x4, .int x5, .int 0]) hq_147 (show decode prog_7_method_28_code 59 = .ok (.istore 6, 2) by decide +kernel) (z_le rfl) rfl ?_
            refine Ev_iload hq_147 (show decode prog_7_method_28_code 61 = .ok (.iload 6, 2) by decide +kernel) rfl ?_
            refine Ev_if_eq (tgt := 97) hq_147 (show decode prog_7_method_28_code 63 = .ok (.ifCond .eq 34, 3) by decide +kernel) (by decide) (fun _ => ?_) (fun hz => absurd (by decide) hz)
            refine Ev_sipush (v := (-2000)) hq_147 (show decode prog_7_method_28_code 97 = .ok (.sipush (-2000), 3) by decide +kernel) (by decide) ?_
            exact Ev_iret hq_147 (show decode prog_7_method_28_code 100 = .ok (.ireturn, 1) by decide +kernel) rfl k
          · have k := k.2 c20
            refine Ev_iconst (v := 1) hq_147 (show decode prog_7_method_28_code 54 = .ok (.iconst 1, 1) by decide +kernel) (by decide) ?_
            refine Ev_goto (tgt := 59) hq_147 (show decode prog_7_method_28_code 55 = .ok (.goto 4, 3) by decide +kernel) (by decide) ?_
            refine Ev_istore (lo2 := [.ref 57, .int x1, .int x2, .int x3, .int x4, .int x5, .int 1]) hq_147 (show decode prog_7_method_28_code 59 = .ok (.istore 6, 2) by decide +kernel) (z_le rfl) rfl ?_
            refine Ev_iload hq_147 (show decode prog_7_method_28_code 61 = .ok (.iload 6, 2) by decide +kernel) rfl ?_
            refine Ev_if_eq (tgt := 97) hq_147 (show decode prog_7_method_28_code 63 = .ok (.ifCond .eq 34, 3) by decide +kernel) (by decide) (fun hz => absurd hz (by decide)) (fun _ => ?_)
            refine Ev_aload_n hq_147 (show decode prog_7_method_28_code 66 = .ok (.aload_n 0, 1) by decide +kernel) rfl ?_
            refine Ev_iload_n hq_147 (show decode prog_7_method_28_code 67 = .ok (.iload_n 1, 1) by decide +kernel) rfl ?_
            refine Ev_iload hq_147 (show decode prog_7_method_28_code 68 = .ok (.iload 5, 2) by decide +kernel) rfl ?_
            refine Ev_iload_n hq_147 (show decode prog_7_method_28_code 70 = .ok (.iload_n 2, 1) by decide +kernel) rfl ?_
            refine Ev_sipush (v := 2000) hq_147 (show decode prog_7_method_28_code 71 = .ok (.sipush 2000, 3) by decide +kernel) (by decide) ?_
            refine Ev_idiv hq_147 (show decode prog_7_method_28_code 74 = .ok (.idiv, 1) by decide +kernel) (by decide) ?_
            refine Ev_sipush (v := 1000) hq_147 (show decode prog_7_method_28_code 75 = .ok (.sipush 1000, 3) by decide +kernel) (by decide) ?_
            refine Ev_isub hq_147 (show decode prog_7_method_28_code 78 = .ok (.isub, 1) by decide +kernel) ?_
            refine Ev_iload_n hq_147 (show decode prog_7_method_28_code 79 = .ok (.iload_n 2, 1) by decide +kernel) rfl ?_
            refine Ev_sipush (v := 2000) hq_147 (show decode prog_7_method_28_code 80 = .ok (.sipush 2000, 3) by decide +kernel) (by decide) ?_
            refine Ev_irem hq_147 (show decode prog_7_method_28_code 83 = .ok (.irem, 1) by decide +kernel) (by decide) ?_
            refine Ev_sipush (v := 1000) hq_147 (show decode prog_7_method_28_code 84 = .ok (.sipush 1000, 3) by decide +kernel) (by decide) ?_
            refine Ev_isub hq_147 (show decode prog_7_method_28_code 87 = .ok (.isub, 1) by decide +kernel) ?_
            refine Ev_iload_n hq_147 (show decode prog_7_method_28_code 88 = .ok (.iload_n 3, 1) by decide +kernel) rfl ?_
            refine Ev_iload hq_147 (show decode prog_7_method_28_code 89 = .ok (.iload 4, 2) by decide +kernel) rfl ?_
            obtain ⟨r23, I21, h22, k⟩ := k
            refine Ev_virt (as := [.int x1, .int x5, .int ((x2 / 2000) - 1000), .int ((x2 - x2 / 2000 * 2000) - 1000), .int x3, .int x4]) hq_147 (show decode prog_7_method_28_code 91 = .ok (.invokevirtual 180, 3) by decide +kernel) rfl hq_149 rfl (z_le rfl) ⟨(SGn hS (by decide)), (SGk hS rfl), by decide⟩ h22 ?_
            refine Ev_goto (tgt := 100) hq_147 (show decode prog_7_method_28_code 94 = .ok (.goto 6, 3) by decide +kernel) (by decide) ?_
            exact Ev_iret hq_147 (show decode prog_7_method_28_code 100 = .ok (.ireturn, 1) by decide +kernel) rfl k
  · have k := k.2 (Classical.not_not.mp c4)
    refine Ev_sipush (v := (-1000)) hq_147 (show decode prog_7_method_28_code 9 = .ok (.sipush (-1000), 3) by decide +kernel) (by decide) ?_
    exact Ev_iret hq_147 (show decode prog_7_method_28_code 12 = .ok (.ireturn, 1) by decide +kernel) rfl k
set_option maxRecDepth 20000 in
theorem wp_Z_isShower {X : Nat × (Nat → Int32)} {d : Nat} {G : zG} {I : zI} {res : Option Value × zG × zI} (x1 : Int32) (hS : SG G) 
    (k : ∃ (r3 : Int32) (I1 : zI), Cv X d 131 [.int x1, .int 0, .int ((I 57 0) - 1)] G I (some (.int r3), G, I1) ∧ ((r3 = 0 ∨ r3 = 1) ∧ res = (some (.int r3), G, I1))) :
    Ev X (d + 1) 148 0 [.ref 57, .int x1] [] G I res := by
  refine Ev_iload_n hq_148 (show decode prog_7_method_6_code 0 = .ok (.iload_n 1, 1) by decide +kernel) rfl ?_
  refine Ev_iconst (v := 0) hq_148 (show decode prog_7_method_6_code 1 = .ok (.iconst 0, 1) by decide +kernel) (by decide) ?_
  refine Ev_aload_n hq_148 (show decode prog_7_method_6_code 2 = .ok (.aload_n 0, 1) by decide +kernel) rfl ?_
  refine Ev_getI hq_148 (show decode prog_7_method_6_code 3 = .ok (.getfield 87, 3) by decide +kernel) rfl (SGn hS (by decide)) (SGk hS rfl) (by decide) rfl ?_
  refine Ev_iconst (v := 1) hq_148 (show decode prog_7_method_6_code 6 = .ok (.iconst 1, 1) by decide +kernel) (by decide) ?_
  refine Ev_isub hq_148 (show decode prog_7_method_6_code 7 = .ok (.isub, 1) by decide +kernel) ?_
  obtain ⟨r3, I1, h2, k⟩ := k
  refine Ev_stat (as := [.int x1, .int 0, .int ((I 57 0) - 1)]) hq_148 (show decode prog_7_method_6_code 8 = .ok (.invokestatic 90, 3) by decide +kernel) rfl (Or.inl rfl) hq_131 rfl (z_le rfl) h2 ?_
  obtain ⟨h4, k⟩ := k
  exact Ev_iret hq_148 (show decode prog_7_method_6_code 11 = .ok (.ireturn, 1) by decide +kernel) (z_nb h4) k
set_option maxRecDepth 20000 in
theorem wp_Z_asksOf {X : Nat × (Nat → Int32)} {d : Nat} {G : zG} {I : zI} {res : Option Value × zG × zI} (x1 : Int32) (x2 : Int32) (x3 : Int32) (x4 : Int32) (x5 : Int32) (x6 : Int32) (hS : SG G) 
    (k : (∀ I1 : zI, I1 = z_up I 72 (0 : Int32).toNatClampNeg x3 → (∀ I2 : zI, I2 = z_up I1 72 (1 : Int32).toNatClampNeg x4 → (∀ I3 : zI, I3 = z_up I2 72 (2 : Int32).toNatClampNeg x5 → (∀ I4 : zI, I4 = z_up I3 72 (3 : Int32).toNatClampNeg x6 → z_inr (5 * x2) 20 ∧ ((∀ I6 : zI, I6 = z_up I4 72 (4 : Int32).toNatClampNeg (I4 60 (5 * x2).toNatClampNeg) → z_inr x2 4 ∧ ((∀ I8 : zI, I8 = z_up I6 72 (5 : Int32).toNatClampNeg (I6 59 x2.toNatClampNeg) → ∃ (r11 : Int32) (I9 : zI), Cv X d 150 [.ref 57, .int x1] G I8 (some (.int r11), G, I9) ∧ ((¬ x1 = 0 → (¬ x1 = 1 → (¬ r11 = 0 → res = (some (.int 1), G, I9)) ∧ (r11 = 0 → res = (some (.int 0), G, I9))) ∧ (x1 = 1 → ∃ (r17 : Int32) (I15 : zI), Cv X d 152 [.int r11, .int 0, .int 99] G I9 (some (.int r17), G, I15) ∧ (res = (some (.int r17), G, I15)))) ∧ (x1 = 0 → ∃ (r20 : Int32) (I18 : zI), Cv X d 152 [.int r11, .int (-99), .int 99] G I9 (some (.int r20), G, I18) ∧ (res = (some (.int r20), G, I18))))))))))))) :
    Ev X (d + 1) 149 0 [.ref 57, .int x1, .int x2, .int x3, .int x4, .int x5, .int x6, zU] [] G I res := by
  refine Ev_aload_n hq_149 (show decode prog_7_method_27_code 0 = .ok (.aload_n 0, 1) by decide +kernel) rfl ?_
  refine Ev_getR hq_149 (show decode prog_7_method_27_code 1 = .ok (.getfield 52, 3) by decide +kernel) rfl (SGn hS (by decide)) (SGk hS rfl) (by decide) rfl (SGr hS rfl) ?_
  refine Ev_iconst (v := 0) hq_149 (show decode prog_7_method_27_code 4 = .ok (.iconst 0, 1) by decide +kernel) (by decide) ?_
  refine Ev_iload_n hq_149 (show decode prog_7_method_27_code 5 = .ok (.iload_n 3, 1) by decide +kernel) rfl ?_
  refine Ev_iast hq_149 (show decode prog_7_method_27_code 6 = .ok (.iastore, 1) by decide +kernel) (SGn hS (by decide)) (SGk hS rfl) (SGi hS rfl (by decide)) ?_
  obtain ⟨I1, eI1⟩ : ∃ I1 : zI, I1 = z_up I 72 (0 : Int32).toNatClampNeg x3 := ⟨_, rfl⟩
  have k := k I1 eI1
  rw [← eI1]
  refine Ev_aload_n hq_149 (show decode prog_7_method_27_code 7 = .ok (.aload_n 0, 1) by decide +kernel) rfl ?_
  refine Ev_getR hq_149 (show decode prog_7_method_27_code 8 = .ok (.getfield 52, 3) by decide +kernel) rfl (SGn hS (by decide)) (SGk hS rfl) (by decide) rfl (SGr hS rfl) ?_
  refine Ev_iconst (v := 1) hq_149 (show decode prog_7_method_27_code 11 = .ok (.iconst 1, 1) by decide +kernel) (by decide) ?_
  refine Ev_iload hq_149 (show decode prog_7_method_27_code 12 = .ok (.iload 4, 2) by decide +kernel) rfl ?_
  refine Ev_iast hq_149 (show decode prog_7_method_27_code 14 = .ok (.iastore, 1) by decide +kernel) (SGn hS (by decide)) (SGk hS rfl) (SGi hS rfl (by decide)) ?_
  obtain ⟨I2, eI2⟩ : ∃ I2 : zI, I2 = z_up I1 72 (1 : Int32).toNatClampNeg x4 := ⟨_, rfl⟩
  have k := k I2 eI2
  rw [← eI2]
  refine Ev_aload_n hq_149 (show decode prog_7_method_27_code 15 = .ok (.aload_n 0, 1) by decide +kernel) rfl ?_
  refine Ev_getR hq_149 (show decode prog_7_method_27_code 16 = .ok (.getfield 52, 3) by decide +kernel) rfl (SGn hS (by decide)) (SGk hS rfl) (by decide) rfl (SGr hS rfl) ?_
  refine Ev_iconst (v := 2) hq_149 (show decode prog_7_method_27_code 19 = .ok (.iconst 2, 1) by decide +kernel) (by decide) ?_
  refine Ev_iload hq_149 (show decode prog_7_method_27_code 20 = .ok (.iload 5, 2) by decide +kernel) rfl ?_
  refine Ev_iast hq_149 (show decode prog_7_method_27_code 22 = .ok (.iastore, 1) by decide +kernel) (SGn hS (by decide)) (SGk hS rfl) (SGi hS rfl (by decide)) ?_
  obtain ⟨I3, eI3⟩ : ∃ I3 : zI, I3 = z_up I2 72 (2 : Int32).toNatClampNeg x5 := ⟨_, rfl⟩
  have k := k I3 eI3
  rw [← eI3]
  refine Ev_aload_n hq_149 (show decode prog_7_method_27_code 23 = .ok (.aload_n 0, 1) by decide +kernel) rfl ?_
  refine Ev_getR hq_149 (show decode prog_7_method_27_code 24 = .ok (.getfield 52, 3) by decide +kernel) rfl (SGn hS (by decide)) (SGk hS rfl) (by decide) rfl (SGr hS rfl) ?_
  refine Ev_iconst (v := 3) hq_149 (show decode prog_7_method_27_code 27 = .ok (.iconst 3, 1) by decide +kernel) (by decide) ?_
  refine Ev_iload hq_149 (show decode prog_7_method_27_code 28 = .ok (.iload 6, 2) by decide +kernel) rfl ?_
  refine Ev_iast hq_149 (show decode prog_7_method_27_code 30 = .ok (.iastore, 1) by decide +kernel) (SGn hS (by decide)) (SGk hS rfl) (SGi hS rfl (by decide)) ?_
  obtain ⟨I4, eI4⟩ : ∃ I4 : zI, I4 = z_up I3 72 (3 : Int32).toNatClampNeg x6 := ⟨_, rfl⟩
  have k := k I4 eI4
  rw [← eI4]
  refine Ev_aload_n hq_149 (show decode prog_7_method_27_code 31 = .ok (.aload_n 0, 1) by decide +kernel) rfl ?_
  refine Ev_getR hq_149 (show decode prog_7_method_27_code 32 = .ok (.getfield 52, 3) by decide +kernel) rfl (SGn hS (by decide)) (SGk hS rfl) (by decide) rfl (SGr hS rfl) ?_
  refine Ev_iconst (v := 4) hq_149 (show decode prog_7_method_27_code 35 = .ok (.iconst 4, 1) by decide +kernel) (by decide) ?_
  refine Ev_aload_n hq_149 (show decode prog_7_method_27_code 36 = .ok (.aload_n 0, 1) by decide +kernel) rfl ?_
  refine Ev_getR hq_149 (show decode prog_7_method_27_code 37 = .ok (.getfield 16, 3) by decide +kernel) rfl (SGn hS (by decide)) (SGk hS rfl) (by decide) rfl (SGr hS rfl) ?_
  refine Ev_iconst (v := 5) hq_149 (show decode prog_7_method_27_code 40 = .ok (.iconst 5, 1) by decide +kernel) (by decide) ?_
  refine Ev_iload_n hq_149 (show decode prog_7_method_27_code 41 = .ok (.iload_n 2, 1) by decide +kernel) rfl ?_
  refine Ev_imul hq_149 (show decode prog_7_method_27_code 42 = .ok (.imul, 1) by decide +kernel) ?_
  obtain ⟨h5, k⟩ := k
  refine Ev_iald hq_149 (show decode prog_7_method_27_code 43 = .ok (.iaload, 1) by decide +kernel) (SGn hS (by decide)) (SGk hS rfl) (SGi hS rfl h5) ?_
  refine Ev_iast hq_149 (show decode prog_7_method_27_code 44 = .ok (.iastore, 1) by decide +kernel) (SGn hS (by decide)) (SGk hS rfl) (SGi hS rfl (by decide)) ?_
  obtain ⟨I6, eI6⟩ : ∃ I6 : zI, I6 = z_up I4 72 (4 : Int32).toNatClampNeg (I4 60 (5 * x2).toNatClampNeg) := ⟨_, rfl⟩
  have k := k I6 eI6
  rw [← eI6]
  refine Ev_aload_n hq_149 (show decode prog_7_method_27_code 45 = .ok (.aload_n 0, 1) by decide +kernel) rfl ?_
  refine Ev_getR hq_149 (show decode prog_7_method_27_code 46 = .ok (.getfield 52, 3) by decide +kernel) rfl (SGn hS (by decide)) (SGk hS rfl) (by decide) rfl (SGr hS rfl) ?_
  refine Ev_iconst (v := 5) hq_149 (show decode prog_7_method_27_code 49 = .ok (.iconst 5, 1) by decide +kernel) (by decide) ?_
  refine Ev_aload_n hq_149 (show decode prog_7_method_27_code 50 = .ok (.aload_n 0, 1) by decide +kernel) rfl ?_
  refine Ev_getR hq_149 (show decode prog_7_method_27_code 51 = .ok (.getfield 13, 3) by decide +kernel) rfl (SGn hS (by decide)) (SGk hS rfl) (by decide) rfl (SGr hS rfl) ?_
  refine Ev_iload_n hq_149 (show decode prog_7_method_27_code 54 = .ok (.iload_n 2, 1) by decide +kernel) rfl ?_
  obtain ⟨h7, k⟩ := k
  refine Ev_iald hq_149 (show decode prog_7_method_27_code 55 = .ok (.iaload, 1) by decide +kernel) (SGn hS (by decide)) (SGk hS rfl) (SGi hS rfl h7) ?_
  refine Ev_iast hq_149 (show decode prog_7_method_27_code 56 = .ok (.iastore, 1) by decide +kernel) (SGn hS (by decide)) (SGk hS rfl) (SGi hS rfl (by decide)) ?_
  obtain ⟨I8, eI8⟩ : ∃ I8 : zI, I8 = z_up I6 72 (5 : Int32).toNatClampNeg (I6 59 x2.toNatClampNeg) := ⟨_, rfl⟩
  have k := k I8 eI8
  rw [← eI8]
  refine Ev_aload_n hq_149 (show decode prog_7_method_27_code 57 = .ok (.aload_n 0, 1) by decide +kernel) rfl ?_
  refine Ev_iload_n hq_149 (show decode prog_7_method_27_code 58 = .ok (.iload_n 1, 1) by decide +kernel) rfl ?_
  obtain ⟨r11, I9, h10, k⟩ := k
  refine Ev_virt (as := [.int x1]) hq_149 (show decode prog_7_method_27_code 59 = .ok (.invokevirtual 170, 3) by decide +kernel) rfl hq_150 rfl (z_le rfl) ⟨(SGn hS (by decide)), (SGk hS rfl), by decide⟩ h10 ?_
  refine Ev_istore (lo2 := [.ref 57, .int x1, .int x2, .int x3, .int x4, .int x5, .int x6, .int r11]) hq_149 (show decode prog_7_method_27_code 62 = .ok (.istore 7, 2) by decide +kernel) (z_le rfl) rfl ?_
  refine Ev_iload_n hq_149 (show decode prog_7_method_27_code 64 = .ok (.iload_n 1, 1) by decide +kernel) rfl ?_
  refine Ev_if_ne (tgt := 80) hq_149 (show decode prog_7_method_27_code 65 = .ok (.ifCond .ne 15, 3) by decide +kernel) (by decide) (fun c12 => ?_) (fun c12 => ?_)
  · have k := k.1 c12
    refine Ev_iload_n hq_149 (show decode prog_7_method_27_code 80 = .ok (.iload_n 1, 1) by decide +kernel) rfl ?_
    refine Ev_iconst (v := 1) hq_149 (show decode prog_7_method_27_code 81 = .ok (.iconst 1, 1) by decide +kernel) (by decide) ?_
    refine Ev_icmp_ne (tgt := 96) hq_149 (show decode prog_7_method_27_code 82 = .ok (.if_icmp .ne 14, 3) by decide +kernel) (by decide) (fun c13 => ?_) (fun c13 => ?_)
    · have k := k.1 c13
      refine Ev_iload hq_149 (show decode prog_7_method_27_code 96 = .ok (.iload 7, 2) by decide +kernel) rfl ?_
      refine Ev_if_ne (tgt := 105) hq_149 (show decode prog_7_method_27_code 98 = .ok (.ifCond .ne 7, 3) by decide +kernel) (by decide) (fun c14 => ?_) (fun c14 => ?_)
      · have k := k.1 c14
        refine Ev_iconst (v := 1) hq_149 (show decode prog_7_method_27_code 105 = .ok (.iconst 1, 1) by decide +kernel) (by decide) ?_
        exact Ev_iret hq_149 (show decode prog_7_method_27_code 106 = .ok (.ireturn, 1) by decide +kernel) rfl k
      · have k := k.2 (Classical.not_not.mp c14)
        refine Ev_iconst (v := 0) hq_149 (show decode prog_7_method_27_code 101 = .ok (.iconst 0, 1) by decide +kernel) (by decide) ?_
        refine Ev_goto (tgt := 106) hq_149 (show decode prog_7_method_27_code 102 = .ok (.goto 4, 3) by decide +kernel) (by decide) ?_
        exact Ev_iret hq_149 (show decode prog_7_method_27_code 106 = .ok (.ireturn, 1) by decide +kernel) rfl k
    · have k := k.2 (Classical.not_not.mp c13)
      refine Ev_iload hq_149 (show decode prog_7_method_27_code 85 = .ok (.iload 7, 2) by decide +kernel) rfl ?_
      refine Ev_iconst (v := 0) hq_149 (show decode prog_7_method_27_code 87 = .ok (.iconst 0, 1) by decide +kernel) (by decide) ?_
      refine Ev_bipush (v := 99) hq_149 (show decode prog_7_method_27_code 88 = .ok (.bipush 99, 2) by decide +kernel) (by decide) ?_
      obtain ⟨r17, I15, h16, k⟩ := k
      refine Ev_stat (as := [.int r11, .int 0, .int 99]) hq_149 (show decode prog_7_method_27_code 90 = .ok (.invokestatic 173, 3) by decide +kernel) rfl (Or.inl rfl) hq_152 rfl (z_le rfl) h16 ?_
      refine Ev_goto (tgt := 106) hq_149 (show decode prog_7_method_27_code 93 = .ok (.goto 13, 3) by decide +kernel) (by decide) ?_
      exact Ev_iret hq_149 (show decode prog_7_method_27_code 106 = .ok (.ireturn, 1) by decide +kernel) rfl k
  · have k := k.2 (Classical.not_not.mp c12)
    refine Ev_iload hq_149 (show decode prog_7_method_27_code 68 = .ok (.iload 7, 2) by decide +kernel) rfl ?_
    refine Ev_bipush (v := (-99)) hq_149 (show decode prog_7_method_27_code 70 = .ok (.bipush (-99), 2) by decide +kernel) (by decide) ?_
    refine Ev_bipush (v := 99) hq_149 (show decode prog_7_method_27_code 72 = .ok (.bipush 99, 2) by decide +kernel) (by decide) ?_
    obtain ⟨r20, I18, h19, k⟩ := k
    refine Ev_stat (as := [.int r11, .int (-99), .int 99]) hq_149 (show decode prog_7_method_27_code 74 = .ok (.invokestatic 173, 3) by decide +kernel) rfl (Or.inl rfl) hq_152 rfl (z_le rfl) h19 ?_
    refine Ev_goto (tgt := 106) hq_149 (show decode prog_7_method_27_code 77 = .ok (.goto 29, 3) by decide +kernel) (by decide) ?_
    exact Ev_iret hq_149 (show decode prog_7_method_27_code 106 = .ok (.ireturn, 1) by decide +kernel) rfl k
set_option maxRecDepth 20000 in
theorem wp_Z_says {X : Nat × (Nat → Int32)} {d : Nat} {G : zG} {I : zI} {res : Option Value × zG × zI} (x1 : Int32) (hS : SG G) 
    (k : z_inr ((4 * (I 57 9)) + x1) 24 ∧ (∀ y2 : Int32, y2 = (I 63 ((4 * (I 57 9)) + x1).toNatClampNeg) → Ev X d 150 16 [.ref 57, .int x1, .int 0, .int y2, zU] [] G I res)) :
    Ev X d 150 0 [.ref 57, .int x1, zU, zU, zU] [] G I res := by
  refine Ev_iconst (v := 0) hq_150 (show decode prog_7_method_25_code 0 = .ok (.iconst 0, 1) by decide +kernel) (by decide) ?_
  refine Ev_istore_n (lo2 := [.ref 57, .int x1, .int 0, zU, zU]) hq_150 (show decode prog_7_method_25_code 1 = .ok (.istore_n 2, 1) by decide +kernel) (z_le rfl) rfl ?_
  refine Ev_aload_n hq_150 (show decode prog_7_method_25_code 2 = .ok (.aload_n 0, 1) by decide +kernel) rfl ?_
  refine Ev_getR hq_150 (show decode prog_7_method_25_code 3 = .ok (.getfield 25, 3) by decide +kernel) rfl (SGn hS (by decide)) (SGk hS rfl) (by decide) rfl (SGr hS rfl) ?_
  refine Ev_iconst (v := 4) hq_150 (show decode prog_7_method_25_code 6 = .ok (.iconst 4, 1) by decide +kernel) (by decide) ?_
  refine Ev_aload_n hq_150 (show decode prog_7_method_25_code 7 = .ok (.aload_n 0, 1) by decide +kernel) rfl ?_
  refine Ev_getI hq_150 (show decode prog_7_method_25_code 8 = .ok (.getfield 104, 3) by decide +kernel) rfl (SGn hS (by decide)) (SGk hS rfl) (by decide) rfl ?_
  refine Ev_imul hq_150 (show decode prog_7_method_25_code 11 = .ok (.imul, 1) by decide +kernel) ?_
  refine Ev_iload_n hq_150 (show decode prog_7_method_25_code 12 = .ok (.iload_n 1, 1) by decide +kernel) rfl ?_
  refine Ev_iadd hq_150 (show decode prog_7_method_25_code 13 = .ok (.iadd, 1) by decide +kernel) ?_
  obtain ⟨h1, k⟩ := k
  refine Ev_iald hq_150 (show decode prog_7_method_25_code 14 = .ok (.iaload, 1) by decide +kernel) (SGn hS (by decide)) (SGk hS rfl) (SGi hS rfl h1) ?_
  obtain ⟨y2, ey2⟩ : ∃ y2 : Int32, y2 = (I 63 ((4 * (I 57 9)) + x1).toNatClampNeg) := ⟨_, rfl⟩
  have k := k y2 ey2
  rw [← ey2]
  refine Ev_istore_n (lo2 := [.ref 57, .int x1, .int 0, .int y2, zU]) hq_150 (show decode prog_7_method_25_code 15 = .ok (.istore_n 3, 1) by decide +kernel) (z_le rfl) rfl ?_
  exact k
set_option maxRecDepth 20000 in
theorem wp_Z_says_16 {X : Nat × (Nat → Int32)} {d : Nat} {G : zG} {I : zI} {res : Option Value × zG × zI} (x1 : Int32) (x2 : Int32) (x3 : Int32) (v4 : Value) (cv4 : v4.category = 1) (hS : SG G) 
    (k : z_inr (((4 * (I 57 9)) + x1) + 1) 24 ∧ (((I 63 (((4 * (I 57 9)) + x1) + 1).toNatClampNeg) ≤ x3 → res = (some (.int (I 71 (0 : Int32).toNatClampNeg)), G, I)) ∧ (¬ (I 63 (((4 * (I 57 9)) + x1) + 1).toNatClampNeg) ≤ x3 → z_inr ((200 * (I 57 9)) + x3) 1200 ∧ (∀ y4 : Int32, y4 = (I 62 ((200 * (I 57 9)) + x3).toNatClampNeg) → (100000 ≤ y4 → (11 ≤ y4 → z_inr x2 200 ∧ (∀ I8 : zI, I8 = z_up I 71 x2.toNatClampNeg (y4 - 100000) → ∀ y9 : Int32, y9 = x2 + 1 → ∀ y10 : Int32, y10 = x3 + 1 → Ev X (d + 1) 150 16 [.ref 57, .int x1, .int y9, .int y10, .int y4] [] G I8 res)) ∧ (¬ 11 ≤ y4 → z_inr y4 6 ∧ (z_inr x2 200 ∧ (∀ I13 : zI, I13 = z_up I 71 x2.toNatClampNeg (I 72 y4.toNatClampNeg) → ∀ y14 : Int32, y14 = x2 + 1 → ∀ y15 : Int32, y15 = x3 + 1 → Ev X (d + 1) 150 16 [.ref 57, .int x1, .int y14, .int y15, .int y4] [] G I13 res)))) ∧ (¬ 100000 ≤ y4 → (11 ≤ y4 → (¬ y4 = 13 → (¬ y4 = 19 → ∀ y19 : Int32, y19 = x2 + (-1) → z_inr (y19 - 1) 200 ∧ (z_inr y19 200 ∧ (∃ (r24 : Int32) (I22 : zI), Cv X d 151 [.int y4, .int (I 71 (y19 - 1).toNatClampNeg), .int (I 71 y19.toNatClampNeg)] G I (some (.int r24), G, I22) ∧ (z_inr (y19 - 1) 200 ∧ (∀ I26 : zI, I26 = z_up I22 71 (y19 - 1).toNatClampNeg r24 → ∀ y27 : Int32, y27 = x3 + 1 → Ev X (d + 1) 150 16 [.ref 57, .int x1, .int y19, .int y27, .int y4] [] G I26 res))))) ∧ (y4 = 19 → z_inr (x2 - 1) 200 ∧ (z_inr (x2 - 1) 200 ∧ (∀ I30 : zI, I30 = z_up I 71 (x2 - 1).toNatClampNeg (-(I 71 (x2 - 1).toNatClampNeg)) → ∀ y31 : Int32, y31 = x3 + 1 → Ev X (d + 1) 150 16 [.ref 57, .int x1, .int x2, .int y31, .int y4] [] G I30 res)))) ∧ (y4 = 13 → z_inr (x2 - 1) 200 ∧ ((¬ (I 71 (x2 - 1).toNatClampNeg) = 0 → z_inr (x2 - 1) 200 ∧ (∀ I35 : zI, I35 = z_up I 71 (x2 - 1).toNatClampNeg 0 → ∀ y36 : Int32, y36 = x3 + 1 → Ev X (d + 1) 150 16 [.ref 57, .int x1, .int x2, .int y36, .int y4] [] G I35 res)) ∧ ((I 71 (x2 - 1).toNatClampNeg) = 0 → z_inr (x2 - 1) 200 ∧ (∀ I38 : zI, I38 = z_up I 71 (x2 - 1).toNatClampNeg 1 → ∀ y39 : Int32, y39 = x3 + 1 → Ev X (d + 1) 150 16 [.ref 57, .int x1, .int x2, .int y39, .int y4] [] G I38 res))))) ∧ (¬ 11 ≤ y4 → (11 ≤ y4 → z_inr x2 200 ∧ (∀ I42 : zI, I42 = z_up I 71 x2.toNatClampNeg (y4 - 100000) → ∀ y43 : Int32, y43 = x2 + 1 → ∀ y44 : Int32, y44 = x3 + 1 → Ev X (d + 1) 150 16 [.ref 57, .int x1, .int y43, .int y44, .int y4] [] G I42 res)) ∧ (¬ 11 ≤ y4 → z_inr y4 6 ∧ (z_inr x2 200 ∧ (∀ I47 : zI, I47 = z_up I 71 x2.toNatClampNeg (I 72 y4.toNatClampNeg) → ∀ y48 : Int32, y48 = x2 + 1 → ∀ y49 : Int32, y49 = x3 + 1 → Ev X (d + 1) 150 16 [.ref 57, .int x1, .int y48, .int y49, .int y4] [] G I47 res))))))))) :
    Ev X (d + 1) 150 16 [.ref 57, .int x1, .int x2, .int x3, v4] [] G I res := by
  refine Ev_iload_n hq_150 (show decode prog_7_method_25_code 16 = .ok (.iload_n 3, 1) by decide +kernel) rfl ?_
  refine Ev_aload_n hq_150 (show decode prog_7_method_25_code 17 = .ok (.aload_n 0, 1) by decide +kernel) rfl ?_
  refine Ev_getR hq_150 (show decode prog_7_method_25_code 18 = .ok (.getfield 25, 3) by decide +kernel) rfl (SGn hS (by decide)) (SGk hS rfl) (by decide) rfl (SGr hS rfl) ?_
  refine Ev_iconst (v := 4) hq_150 (show decode prog_7_method_25_code 21 = .ok (.iconst 4, 1) by decide +kernel) (by decide) ?_
  refine Ev_aload_n hq_150 (show decode prog_7_method_25_code 22 = .ok (.aload_n 0, 1) by decide +kernel) rfl ?_
  refine Ev_getI hq_150 (show decode prog_7_method_25_code 23 = .ok (.getfield 104, 3) by decide +kernel) rfl (SGn hS (by decide)) (SGk hS rfl) (by decide) rfl ?_
  refine Ev_imul hq_150 (show decode prog_7_method_25_code 26 = .ok (.imul, 1) by decide +kernel) ?_
  refine Ev_iload_n hq_150 (show decode prog_7_method_25_code 27 = .ok (.iload_n 1, 1) by decide +kernel) rfl ?_
  refine Ev_iadd hq_150 (show decode prog_7_method_25_code 28 = .ok (.iadd, 1) by decide +kernel) ?_
  refine Ev_iconst (v := 1) hq_150 (show decode prog_7_method_25_code 29 = .ok (.iconst 1, 1) by decide +kernel) (by decide) ?_
  refine Ev_iadd hq_150 (show decode prog_7_method_25_code 30 = .ok (.iadd, 1) by decide +kernel) ?_
  obtain ⟨h1, k⟩ := k
  refine Ev_iald hq_150 (show decode prog_7_method_25_code 31 = .ok (.iaload, 1) by decide +kernel) (SGn hS (by decide)) (SGk hS rfl) (SGi hS rfl h1) ?_
  refine Ev_icmp_ge (tgt := 197) hq_150 (show decode prog_7_method_25_code 32 = .ok (.if_icmp .ge 165, 3) by decide +kernel) (by decide) (fun c2 => ?_) (fun c2 => ?_)
  · have k := k.1 c2
    refine Ev_aload_n hq_150 (show decode prog_7_method_25_code 197 = .ok (.aload_n 0, 1) by decide +kernel) rfl ?_
    refine Ev_getR hq_150 (show decode prog_7_method_25_code 198 = .ok (.getfield 49, 3) by decide +kernel) rfl (SGn hS (by decide)) (SGk hS rfl) (by decide) rfl (SGr hS rfl) ?_
    refine Ev_iconst (v := 0) hq_150 (show decode prog_7_method_25_code 201 = .ok (.iconst 0, 1) by decide +kernel) (by decide) ?_
    refine Ev_iald hq_150 (show decode prog_7_method_25_code 202 = .ok (.iaload, 1) by decide +kernel) (SGn hS (by decide)) (SGk hS rfl) (SGi hS rfl (by decide)) ?_
    exact Ev_iret hq_150 (show decode prog_7_method_25_code 203 = .ok (.ireturn, 1) by decide +kernel) rfl k
  · have k := k.2 c2
    refine Ev_aload_n hq_150 (show decode prog_7_method_25_code 35 = .ok (.aload_n 0, 1) by decide +kernel) rfl ?_
    refine Ev_getR hq_150 (show decode prog_7_method_25_code 36 = .ok (.getfield 22, 3) by decide +kernel) rfl (SGn hS (by decide)) (SGk hS rfl) (by decide) rfl (SGr hS rfl) ?_
    refine Ev_sipush (v := 200) hq_150 (show decode prog_7_method_25_code 39 = .ok (.sipush 200, 3) by decide +kernel) (by decide) ?_
    refine Ev_aload_n hq_150 (show decode prog_7_method_25_code 42 = .ok (.aload_n 0, 1) by decide +kernel) rfl ?_
    refine Ev_getI hq_150 (show decode prog_7_method_25_code 43 = .ok (.getfield 104, 3) by decide +kernel) rfl (SGn hS (by decide)) (SGk hS rfl) (by decide) rfl ?_
    refine Ev_imul hq_150 (show decode prog_7_method_25_code 46 = .ok (.imul, 1) by decide +kernel) ?_
    refine Ev_iload_n hq_150 (show decode prog_7_method_25_code 47 = .ok (.iload_n 3, 1) by decide +kernel) rfl ?_
    refine Ev_iadd hq_150 (show decode prog_7_method_25_code 48 = .ok (.iadd, 1) by decide +kernel) ?_
    obtain ⟨h3, k⟩ := k
    refine Ev_iald hq_150 (show decode prog_7_method_25_code 49 = .ok (.iaload, 1) by decide +kernel) (SGn hS (by decide)) (SGk hS rfl) (SGi hS rfl h3) ?_
    obtain ⟨y4, ey4⟩ : ∃ y4 : Int32, y4 = (I 62 ((200 * (I 57 9)) + x3).toNatClampNeg) := ⟨_, rfl⟩
    have k := k y4 ey4
    rw [← ey4]
    refine Ev_istore (lo2 := [.ref 57, .int x1, .int x2, .int x3, .int y4]) hq_150 (show decode prog_7_method_25_code 50 = .ok (.istore 4, 2) by decide +kernel) (z_le rfl) rfl ?_
    refine Ev_iload hq_150 (show decode prog_7_method_25_code 52 = .ok (.iload 4, 2) by decide +kernel) rfl ?_
    refine Ev_ldc (v := 100000) hq_150 (show decode prog_7_method_25_code 54 = .ok (.ldc 152, 2) by decide +kernel) rfl ?_
    refine Ev_icmp_ge (tgt := 66) hq_150 (show decode prog_7_method_25_code 56 = .ok (.if_icmp .ge 10, 3) by decide +kernel) (by decide) (fun c5 => ?_) (fun c5 => ?_)
    · have k := k.1 c5
      refine Ev_aload_n hq_150 (show decode prog_7_method_25_code 66 = .ok (.aload_n 0, 1) by decide +kernel) rfl ?_
      refine Ev_getR hq_150 (show decode prog_7_method_25_code 67 = .ok (.getfield 49, 3) by decide +kernel) rfl (SGn hS (by decide)) (SGk hS rfl) (by decide) rfl (SGr hS rfl) ?_
      refine Ev_iload_n hq_150 (show decode prog_7_method_25_code 70 = .ok (.iload_n 2, 1) by decide +kernel) rfl ?_
      refine Ev_iload hq_150 (show decode prog_7_method_25_code 71 = .ok (.iload 4, 2) by decide +kernel) rfl ?_
      refine Ev_bipush (v := 11) hq_150 (show decode prog_7_method_25_code 73 = .ok (.bipush 11, 2) by decide +kernel) (by decide) ?_
      refine Ev_icmp_ge (tgt := 88) hq_150 (show decode prog_7_method_25_code 75 = .ok (.if_icmp .ge 13, 3) by decide +kernel) (by decide) (fun c6 => ?_) (fun c6 => ?_)
      · have k := k.1 c6
        refine Ev_iload hq_150 (show decode prog_7_method_25_code 88 = .ok (.iload 4, 2) by decide +kernel) rfl ?_
        refine Ev_ldc (v := 100000) hq_150 (show decode prog_7_method_25_code 90 = .ok (.ldc 152, 2) by decide +kernel) rfl ?_
        refine Ev_isub hq_150 (show decode prog_7_method_25_code 92 = .ok (.isub, 1) by decide +kernel) ?_
        obtain ⟨h7, k⟩ := k
        refine Ev_iast hq_150 (show decode prog_7_method_25_code 93 = .ok (.iastore, 1) by decide +kernel) (SGn hS (by decide)) (SGk hS rfl) (SGi hS rfl h7) ?_
        obtain ⟨I8, eI8⟩ : ∃ I8 : zI, I8 = z_up I 71 x2.toNatClampNeg (y4 - 100000) := ⟨_, rfl⟩
        have k := k I8 eI8
        rw [← eI8]
        obtain ⟨y9, ey9⟩ : ∃ y9 : Int32, y9 = x2 + 1 := ⟨_, rfl⟩
        have k := k y9 ey9
        refine Ev_iinc (v := y9) (lo2 := [.ref 57, .int x1, .int y9, .int x3, .int y4]) hq_150 (show decode prog_7_method_25_code 94 = .ok (.iinc 2 1, 3) by decide +kernel) rfl (by rw [ey9]; rfl) rfl ?_
        refine Ev_goto (tgt := 191) hq_150 (show decode prog_7_method_25_code 97 = .ok (.goto 94, 3) by decide +kernel) (by decide) ?_
        obtain ⟨y10, ey10⟩ : ∃ y10 : Int32, y10 = x3 + 1 := ⟨_, rfl⟩
        have k := k y10 ey10
        refine Ev_iinc (v := y10) (lo2 := [.ref 57, .int x1, .int y9, .int y10, .int y4]) hq_150 (show decode prog_7_method_25_code 191 = .ok (.iinc 3 1, 3) by decide +kernel) rfl (by rw [ey10]; rfl) rfl ?_
        refine Ev_goto (tgt := 16) hq_150 (show decode prog_7_method_25_code 194 = .ok (.goto (-178), 3) by decide +kernel) (by decide) ?_
        exact k
      · have k := k.2 c6
        refine Ev_aload_n hq_150 (show decode prog_7_method_25_code 78 = .ok (.aload_n 0, 1) by decide +kernel) rfl ?_
        refine Ev_getR hq_150 (show decode prog_7_method_25_code 79 = .ok (.getfield 52, 3) by decide +kernel) rfl (SGn hS (by decide)) (SGk hS rfl) (by decide) rfl (SGr hS rfl) ?_
        refine Ev_iload hq_150 (show decode prog_7_method_25_code 82 = .ok (.iload 4, 2) by decide +kernel) rfl ?_
        obtain ⟨h11, k⟩ := k
        refine Ev_iald hq_150 (show decode prog_7_method_25_code 84 = .ok (.iaload, 1) by decide +kernel) (SGn hS (by decide)) (SGk hS rfl) (SGi hS rfl h11) ?_
        refine Ev_goto (tgt := 93) hq_150 (show decode prog_7_method_25_code 85 = .ok (.goto 8, 3) by decide +kernel) (by decide) ?_
        obtain ⟨h12, k⟩ := k
        refine Ev_iast hq_150 (show decode prog_7_method_25_code 93 = .ok (.iastore, 1) by decide +kernel) (SGn hS (by decide)) (SGk hS rfl) (SGi hS rfl h12) ?_
        obtain ⟨I13, eI13⟩ : ∃ I13 : zI, I13 = z_up I 71 x2.toNatClampNeg (I 72 y4.toNatClampNeg) := ⟨_, rfl⟩
        have k := k I13 eI13
        rw [← eI13]
        obtain ⟨y14, ey14⟩ : ∃ y14 : Int32, y14 = x2 + 1 := ⟨_, rfl⟩
        have k := k y14 ey14
        refine Ev_iinc (v := y14) (lo2 := [.ref 57, .int x1, .int y14, .int x3, .int y4]) hq_150 (show decode prog_7_method_25_code 94 = .ok (.iinc 2 1, 3) by decide +kernel) rfl (by rw [ey14]; rfl) rfl ?_
        refine Ev_goto (tgt := 191) hq_150 (show decode prog_7_method_25_code 97 = .ok (.goto 94, 3) by decide +kernel) (by decide) ?_
        obtain ⟨y15, ey15⟩ : ∃ y15 : Int32, y15 = x3 + 1 := ⟨_, rfl⟩
        have k := k y15 ey15
        refine Ev_iinc (v := y15) (lo2 := [.ref 57, .int x1, .int y14, .int y15, .int y4]) hq_150 (show decode prog_7_method_25_code 191 = .ok (.iinc 3 1, 3) by decide +kernel) rfl (by rw [ey15]; rfl) rfl ?_
        refine Ev_goto (tgt := 16) hq_150 (show decode prog_7_method_25_code 194 = .ok (.goto (-178), 3) by decide +kernel) (by decide) ?_
        exact k
    · have k := k.2 c5
      refine Ev_iload hq_150 (show decode prog_7_method_25_code 59 = .ok (.iload 4, 2) by decide +kernel) rfl ?_
      refine Ev_bipush (v := 11) hq_150 (show decode prog_7_method_25_code 61 = .ok (.bipush 11, 2) by decide +kernel) (by decide) ?_
      refine Ev_icmp_ge (tgt := 100) hq_150 (show decode prog_7_method_25_code 63 = .ok (.if_icmp .ge 37, 3) by decide +kernel) (by decide) (fun c16 => ?_) (fun c16 => ?_)
      · have k := k.1 c16
        refine Ev_iload hq_150 (show decode prog_7_method_25_code 100 = .ok (.iload 4, 2) by decide +kernel) rfl ?_
        refine Ev_bipush (v := 13) hq_150 (show decode prog_7_method_25_code 102 = .ok (.bipush 13, 2) by decide +kernel) (by decide) ?_
        refine Ev_icmp_ne (tgt := 134) hq_150 (show decode prog_7_method_25_code 104 = .ok (.if_icmp .ne 30, 3) by decide +kernel) (by decide) (fun c17 => ?_) (fun c17 => ?_)
        · have k := k.1 c17
          refine Ev_iload hq_150 (show decode prog_7_method_25_code 134 = .ok (.iload 4, 2) by decide +kernel) rfl ?_
          refine Ev_bipush (v := 19) hq_150 (show decode prog_7_method_25_code 136 = .ok (.bipush 19, 2) by decide +kernel) (by decide) ?_
          refine Ev_icmp_ne (tgt := 161) hq_150 (show decode prog_7_method_25_code 138 = .ok (.if_icmp .ne 23, 3) by decide +kernel) (by decide) (fun c18 => ?_) (fun c18 => ?_)
          · have k := k.1 c18
            obtain ⟨y19, ey19⟩ : ∃ y19 : Int32, y19 = x2 + (-1) := ⟨_, rfl⟩
            have k := k y19 ey19
            refine Ev_iinc (v := y19) (lo2 := [.ref 57, .int x1, .int y19, .int x3, .int y4]) hq_150 (show decode prog_7_method_25_code 161 = .ok (.iinc 2 (-1), 3) by decide +kernel) rfl (by rw [ey19]; rfl) rfl ?_
            refine Ev_aload_n hq_150 (show decode prog_7_method_25_code 164 = .ok (.aload_n 0, 1) by decide +kernel) rfl ?_
            refine Ev_getR hq_150 (show decode prog_7_method_25_code 165 = .ok (.getfield 49, 3) by decide +kernel) rfl (SGn hS (by decide)) (SGk hS rfl) (by decide) rfl (SGr hS rfl) ?_
            refine Ev_iload_n hq_150 (show decode prog_7_method_25_code 168 = .ok (.iload_n 2, 1) by decide +kernel) rfl ?_
            refine Ev_iconst (v := 1) hq_150 (show decode prog_7_method_25_code 169 = .ok (.iconst 1, 1) by decide +kernel) (by decide) ?_
            refine Ev_isub hq_150 (show decode prog_7_method_25_code 170 = .ok (.isub, 1) by decide +kernel) ?_
            refine Ev_iload hq_150 (show decode prog_7_method_25_code 171 = .ok (.iload 4, 2) by decide +kernel) rfl ?_
            refine Ev_aload_n hq_150 (show decode prog_7_method_25_code 173 = .ok (.aload_n 0, 1) by decide +kernel) rfl ?_
            refine Ev_getR hq_150 (show decode prog_7_method_25_code 174 = .ok (.getfield 49, 3) by decide +kernel) rfl (SGn hS (by decide)) (SGk hS rfl) (by decide) rfl (SGr hS rfl) ?_
            refine Ev_iload_n hq_150 (show decode prog_7_method_25_code 177 = .ok (.iload_n 2, 1) by decide +kernel) rfl ?_
            refine Ev_iconst (v := 1) hq_150 (show decode prog_7_method_25_code 178 = .ok (.iconst 1, 1) by decide +kernel) (by decide) ?_
            refine Ev_isub hq_150 (show decode prog_7_method_25_code 179 = .ok (.isub, 1) by decide +kernel) ?_
            obtain ⟨h20, k⟩ := k
            refine Ev_iald hq_150 (show decode prog_7_method_25_code 180 = .ok (.iaload, 1) by decide +kernel) (SGn hS (by decide)) (SGk hS rfl) (SGi hS rfl h20) ?_
            refine Ev_aload_n hq_150 (show decode prog_7_method_25_code 181 = .ok (.aload_n 0, 1) by decide +kernel) rfl ?_
            refine Ev_getR hq_150 (show decode prog_7_method_25_code 182 = .ok (.getfield 49, 3) by decide +kernel) rfl (SGn hS (by decide)) (SGk hS rfl) (by decide) rfl (SGr hS rfl) ?_
            refine Ev_iload_n hq_150 (show decode prog_7_method_25_code 185 = .ok (.iload_n 2, 1) by decide +kernel) rfl ?_
            obtain ⟨h21, k⟩ := k
            refine Ev_iald hq_150 (show decode prog_7_method_25_code 186 = .ok (.iaload, 1) by decide +kernel) (SGn hS (by decide)) (SGk hS rfl) (SGi hS rfl h21) ?_
            obtain ⟨r24, I22, h23, k⟩ := k
            refine Ev_stat (as := [.int y4, .int (I 71 (y19 - 1).toNatClampNeg), .int (I 71 y19.toNatClampNeg)]) hq_150 (show decode prog_7_method_25_code 187 = .ok (.invokestatic 166, 3) by decide +kernel) rfl (Or.inl rfl) hq_151 rfl (z_le rfl) h23 ?_
            obtain ⟨h25, k⟩ := k
            refine Ev_iast hq_150 (show decode prog_7_method_25_code 190 = .ok (.iastore, 1) by decide +kernel) (SGn hS (by decide)) (SGk hS rfl) (SGi hS rfl h25) ?_
            obtain ⟨I26, eI26⟩ : ∃ I26 : zI, I26 = z_up I22 71 (y19 - 1).toNatClampNeg r24 := ⟨_, rfl⟩
            have k := k I26 eI26
            rw [← eI26]
            obtain ⟨y27, ey27⟩ : ∃ y27 : Int32, y27 = x3 + 1 := ⟨_, rfl⟩
            have k := k y27 ey27
            refine Ev_iinc (v := y27) (lo2 := [.ref 57, .int x1, .int y19, .int y27, .int y4]) hq_150 (show decode prog_7_method_25_code 191 = .ok (.iinc 3 1, 3) by decide +kernel) rfl (by rw [ey27]; rfl) rfl ?_
            refine Ev_goto (tgt := 16) hq_150 (show decode prog_7_method_25_code 194 = .ok (.goto (-178), 3) by decide +kernel) (by decide) ?_
            exact k
          · have k := k.2 (Classical.not_not.mp c18)
            refine Ev_aload_n hq_150 (show decode prog_7_method_25_code 141 = .ok (.aload_n 0, 1) by decide +kernel) rfl ?_
            refine Ev_getR hq_150 (show decode prog_7_method_25_code 142 = .ok (.getfield 49, 3) by decide +kernel) rfl (SGn hS (by decide)) (SGk hS rfl) (by decide) rfl (SGr hS rfl) ?_
            refine Ev_iload_n hq_150 (show decode prog_7_method_25_code 145 = .ok (.iload_n 2, 1) by decide +kernel) rfl ?_
            refine Ev_iconst (v := 1) hq_150 (show decode prog_7_method_25_code 146 = .ok (.iconst 1, 1) by decide +kernel) (by decide) ?_
            refine Ev_isub hq_150 (show decode prog_7_method_25_code 147 = .ok (.isub, 1) by decide +kernel) ?_
            refine Ev_aload_n hq_150 (show decode prog_7_method_25_code 148 = .ok (.aload_n 0, 1) by decide +kernel) rfl ?_
            refine Ev_getR hq_150 (show decode prog_7_method_25_code 149 = .ok (.getfield 49, 3) by decide +kernel) rfl (SGn hS (by decide)) (SGk hS rfl) (by decide) rfl (SGr hS rfl) ?_
            refine Ev_iload_n hq_150 (show decode prog_7_method_25_code 152 = .ok (.iload_n 2, 1) by decide +kernel) rfl ?_
            refine Ev_iconst (v := 1) hq_150 (show decode prog_7_method_25_code 153 = .ok (.iconst 1, 1) by decide +kernel) (by decide) ?_
            refine Ev_isub hq_150 (show decode prog_7_method_25_code 154 = .ok (.isub, 1) by decide +kernel) ?_
            obtain ⟨h28, k⟩ := k
            refine Ev_iald hq_150 (show decode prog_7_method_25_code 155 = .ok (.iaload, 1) by decide +kernel) (SGn hS (by decide)) (SGk hS rfl) (SGi hS rfl h28) ?_
            refine Ev_ineg hq_150 (show decode prog_7_method_25_code 156 = .ok (.ineg, 1) by decide +kernel) ?_
            obtain ⟨h29, k⟩ := k
            refine Ev_iast hq_150 (show decode prog_7_method_25_code 157 = .ok (.iastore, 1) by decide +kernel) (SGn hS (by decide)) (SGk hS rfl) (SGi hS rfl h29) ?_
            obtain ⟨I30, eI30⟩ : ∃ I30 : zI, I30 = z_up I 71 (x2 - 1).toNatClampNeg (-(I 71 (x2 - 1).toNatClampNeg)) := ⟨_, rfl⟩
            have k := k I30 eI30
            rw [← eI30]
            refine Ev_goto (tgt := 191) hq_150 (show decode prog_7_method_25_code 158 = .ok (.goto 33, 3) by decide +kernel) (by decide) ?_
            obtain ⟨y31, ey31⟩ : ∃ y31 : Int32, y31 = x3 + 1 := ⟨_, rfl⟩
            have k := k y31 ey31
            refine Ev_iinc (v := y31) (lo2 := [.ref 57, .int x1, .int x2, .int y31, .int y4]) hq_150 (show decode prog_7_method_25_code 191 = .ok (.iinc 3 1, 3) by decide +kernel) rfl (by rw [ey31]; rfl) rfl ?_
            refine Ev_goto (tgt := 16) hq_150 (show decode prog_7_method_25_code 194 = .ok (.goto (-178), 3) by decide +kernel) (by decide) ?_
            exact k
        · have k := k.2 (Classical.not_not.mp c17)
          refine Ev_aload_n hq_150 (show decode prog_7_method_25_code 107 = .ok (.aload_n 0, 1) by decide +kernel) rfl ?_
          refine Ev_getR hq_150 (show decode prog_7_method_25_code 108 = .ok (.getfield 49, 3) by decide +kernel) rfl (SGn hS (by decide)) (SGk hS rfl) (by decide) rfl (SGr hS rfl) ?_
          refine Ev_iload_n hq_150 (show decode prog_7_method_25_code 111 = .ok (.iload_n 2, 1) by decide +kernel) rfl ?_
          refine Ev_iconst (v := 1) hq_150 (show decode prog_7_method_25_code 112 = .ok (.iconst 1, 1) by decide +kernel) (by decide) ?_
          refine Ev_isub hq_150 (show decode prog_7_method_25_code 113 = .ok (.isub, 1) by decide +kernel) ?_
          refine Ev_aload_n hq_150 (show decode prog_7_method_25_code 114 = .ok (.aload_n 0, 1) by decide +kernel) rfl ?_
          refine Ev_getR hq_150 (show decode prog_7_method_25_code 115 = .ok (.getfield 49, 3) by decide +kernel) rfl (SGn hS (by decide)) (SGk hS rfl) (by decide) rfl (SGr hS rfl) ?_
          refine Ev_iload_n hq_150 (show decode prog_7_method_25_code 118 = .ok (.iload_n 2, 1) by decide +kernel) rfl ?_
          refine Ev_iconst (v := 1) hq_150 (show decode prog_7_method_25_code 119 = .ok (.iconst 1, 1) by decide +kernel) (by decide) ?_
          refine Ev_isub hq_150 (show decode prog_7_method_25_code 120 = .ok (.isub, 1) by decide +kernel) ?_
          obtain ⟨h32, k⟩ := k
          refine Ev_iald hq_150 (show decode prog_7_method_25_code 121 = .ok (.iaload, 1) by decide +kernel) (SGn hS (by decide)) (SGk hS rfl) (SGi hS rfl h32) ?_
          refine Ev_if_ne (tgt := 129) hq_150 (show decode prog_7_method_25_code 122 = .ok (.ifCond .ne 7, 3) by decide +kernel) (by decide) (fun c33 => ?_) (fun c33 => ?_)
          · have k := k.1 c33
            refine Ev_iconst (v := 0) hq_150 (show decode prog_7_method_25_code 129 = .ok (.iconst 0, 1) by decide +kernel) (by decide) ?_
            obtain ⟨h34, k⟩ := k
            refine Ev_iast hq_150 (show decode prog_7_method_25_code 130 = .ok (.iastore, 1) by decide +kernel) (SGn hS (by decide)) (SGk hS rfl) (SGi hS rfl h34) ?_
            obtain ⟨I35, eI35⟩ : ∃ I35 : zI, I35 = z_up I 71 (x2 - 1).toNatClampNeg 0 := ⟨_, rfl⟩
            have k := k I35 eI35
            rw [← eI35]
            refine Ev_goto (tgt := 191) hq_150 (show decode prog_7_method_25_code 131 = .ok (.goto 60, 3) by decide +kernel) (by decide) ?_
            obtain ⟨y36, ey36⟩ : ∃ y36 : Int32, y36 = x3 + 1 := ⟨_, rfl⟩
            have k := k y36 ey36
            refine Ev_iinc (v := y36) (lo2 := [.ref 57, .int x1, .int x2, .int y36, .int y4]) hq_150 (show decode prog_7_method_25_code 191 = .ok (.iinc 3 1, 3) by decide +kernel) rfl (by rw [ey36]; rfl) rfl ?_
            refine Ev_goto (tgt := 16) hq_150 (show decode prog_7_method_25_code 194 = .ok (.goto (-178), 3) by decide +kernel) (by decide) ?_
            exact k
          · have k := k.2 (Classical.not_not.mp c33)
            refine Ev_iconst (v := 1) hq_150 (show decode prog_7_method_25_code 125 = .ok (.iconst 1, 1) by decide +kernel) (by decide) ?_
            refine Ev_goto (tgt := 130) hq_150 (show decode prog_7_method_25_code 126 = .ok (.goto 4, 3) by decide +kernel) (by decide) ?_
            obtain ⟨h37, k⟩ := k
            refine Ev_iast hq_150 (show decode prog_7_method_25_code 130 = .ok (.iastore, 1) by decide +kernel) (SGn hS (by decide)) (SGk hS rfl) (SGi hS rfl h37) ?_
            obtain ⟨I38, eI38⟩ : ∃ I38 : zI, I38 = z_up I 71 (x2 - 1).toNatClampNeg 1 := ⟨_, rfl⟩
            have k := k I38 eI38
            rw [← eI38]
            refine Ev_goto (tgt := 191) hq_150 (show decode prog_7_method_25_code 131 = .ok (.goto 60, 3) by decide +kernel) (by decide) ?_
            obtain ⟨y39, ey39⟩ : ∃ y39 : Int32, y39 = x3 + 1 := ⟨_, rfl⟩
            have k := k y39 ey39
            refine Ev_iinc (v := y39) (lo2 := [.ref 57, .int x1, .int x2, .int y39, .int y4]) hq_150 (show decode prog_7_method_25_code 191 = .ok (.iinc 3 1, 3) by decide +kernel) rfl (by rw [ey39]; rfl) rfl ?_
            refine Ev_goto (tgt := 16) hq_150 (show decode prog_7_method_25_code 194 = .ok (.goto (-178), 3) by decide +kernel) (by decide) ?_
            exact k
      · have k := k.2 c16
        refine Ev_aload_n hq_150 (show decode prog_7_method_25_code 66 = .ok (.aload_n 0, 1) by decide +kernel) rfl ?_
        refine Ev_getR hq_150 (show decode prog_7_method_25_code 67 = .ok (.getfield 49, 3) by decide +kernel) rfl (SGn hS (by decide)) (SGk hS rfl) (by decide) rfl (SGr hS rfl) ?_
        refine Ev_iload_n hq_150 (show decode prog_7_method_25_code 70 = .ok (.iload_n 2, 1) by decide +kernel) rfl ?_
        refine Ev_iload hq_150 (show decode prog_7_method_25_code 71 = .ok (.iload 4, 2) by decide +kernel) rfl ?_
        refine Ev_bipush (v := 11) hq_150 (show decode prog_7_method_25_code 73 = .ok (.bipush 11, 2) by decide +kernel) (by decide) ?_
        refine Ev_icmp_ge (tgt := 88) hq_150 (show decode prog_7_method_25_code 75 = .ok (.if_icmp .ge 13, 3) by decide +kernel) (by decide) (fun c40 => ?_) (fun c40 => ?_)
        · have k := k.1 c40
          refine Ev_iload hq_150 (show decode prog_7_method_25_code 88 = .ok (.iload 4, 2) by decide +kernel) rfl ?_
          refine Ev_ldc (v := 100000) hq_150 (show decode prog_7_method_25_code 90 = .ok (.ldc 152, 2) by decide +kernel) rfl ?_
          refine Ev_isub hq_150 (show decode prog_7_method_25_code 92 = .ok (.isub, 1) by decide +kernel) ?_
          obtain ⟨h41, k⟩ := k
          refine Ev_iast hq_150 (show decode prog_7_method_25_code 93 = .ok (.iastore, 1) by decide +kernel) (SGn hS (by decide)) (SGk hS rfl) (SGi hS rfl h41) ?_
          obtain ⟨I42, eI42⟩ : ∃ I42 : zI, I42 = z_up I 71 x2.toNatClampNeg (y4 - 100000) := ⟨_, rfl⟩
          have k := k I42 eI42
          rw [← eI42]
          obtain ⟨y43, ey43⟩ : ∃ y43 : Int32, y43 = x2 + 1 := ⟨_, rfl⟩
          have k := k y43 ey43
          refine Ev_iinc (v := y43) (lo2 := [.ref 57, .int x1, .int y43, .int x3, .int y4]) hq_150 (show decode prog_7_method_25_code 94 = .ok (.iinc 2 1, 3) by decide +kernel) rfl (by rw [ey43]; rfl) rfl ?_
          refine Ev_goto (tgt := 191) hq_150 (show decode prog_7_method_25_code 97 = .ok (.goto 94, 3) by decide +kernel) (by decide) ?_
          obtain ⟨y44, ey44⟩ : ∃ y44 : Int32, y44 = x3 + 1 := ⟨_, rfl⟩
          have k := k y44 ey44
          refine Ev_iinc (v := y44) (lo2 := [.ref 57, .int x1, .int y43, .int y44, .int y4]) hq_150 (show decode prog_7_method_25_code 191 = .ok (.iinc 3 1, 3) by decide +kernel) rfl (by rw [ey44]; rfl) rfl ?_
          refine Ev_goto (tgt := 16) hq_150 (show decode prog_7_method_25_code 194 = .ok (.goto (-178), 3) by decide +kernel) (by decide) ?_
          exact k
        · have k := k.2 c40
          refine Ev_aload_n hq_150 (show decode prog_7_method_25_code 78 = .ok (.aload_n 0, 1) by decide +kernel) rfl ?_
          refine Ev_getR hq_150 (show decode prog_7_method_25_code 79 = .ok (.getfield 52, 3) by decide +kernel) rfl (SGn hS (by decide)) (SGk hS rfl) (by decide) rfl (SGr hS rfl) ?_
          refine Ev_iload hq_150 (show decode prog_7_method_25_code 82 = .ok (.iload 4, 2) by decide +kernel) rfl ?_
          obtain ⟨h45, k⟩ := k
          refine Ev_iald hq_150 (show decode prog_7_method_25_code 84 = .ok (.iaload, 1) by decide +kernel) (SGn hS (by decide)) (SGk hS rfl) (SGi hS rfl h45) ?_
          refine Ev_goto (tgt := 93) hq_150 (show decode prog_7_method_25_code 85 = .ok (.goto 8, 3) by decide +kernel) (by decide) ?_
          obtain ⟨h46, k⟩ := k
          refine Ev_iast hq_150 (show decode prog_7_method_25_code 93 = .ok (.iastore, 1) by decide +kernel) (SGn hS (by decide)) (SGk hS rfl) (SGi hS rfl h46) ?_
          obtain ⟨I47, eI47⟩ : ∃ I47 : zI, I47 = z_up I 71 x2.toNatClampNeg (I 72 y4.toNatClampNeg) := ⟨_, rfl⟩
          have k := k I47 eI47
          rw [← eI47]
          obtain ⟨y48, ey48⟩ : ∃ y48 : Int32, y48 = x2 + 1 := ⟨_, rfl⟩
          have k := k y48 ey48
          refine Ev_iinc (v := y48) (lo2 := [.ref 57, .int x1, .int y48, .int x3, .int y4]) hq_150 (show decode prog_7_method_25_code 94 = .ok (.iinc 2 1, 3) by decide +kernel) rfl (by rw [ey48]; rfl) rfl ?_
          refine Ev_goto (tgt := 191) hq_150 (show decode prog_7_method_25_code 97 = .ok (.goto 94, 3) by decide +kernel) (by decide) ?_
          obtain ⟨y49, ey49⟩ : ∃ y49 : Int32, y49 = x3 + 1 := ⟨_, rfl⟩
          have k := k y49 ey49
          refine Ev_iinc (v := y49) (lo2 := [.ref 57, .int x1, .int y48, .int y49, .int y4]) hq_150 (show decode prog_7_method_25_code 191 = .ok (.iinc 3 1, 3) by decide +kernel) rfl (by rw [ey49]; rfl) rfl ?_
          refine Ev_goto (tgt := 16) hq_150 (show decode prog_7_method_25_code 194 = .ok (.goto (-178), 3) by decide +kernel) (by decide) ?_
          exact k
