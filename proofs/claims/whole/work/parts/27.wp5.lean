set_option maxRecDepth 20000 in
theorem wp_T_beatsTold {X : Nat × (Nat → Int32)} {d : Nat} {G : zG} {I : zI} {res : Option Value × zG × zI} (x1 : Int32) (hS : SG G) 
    (k : z_inr x1 4 ∧ (∀ y2 : Int32, y2 = (if 40 < (I 51 x1.toNatClampNeg) then 40 else (I 51 x1.toNatClampNeg)) → Ev X (d + 1) 112 17 [.ref 0, .int x1, .int y2, .int 0, .int 0] [] G I res)) :
    Ev X (d + 1) 112 0 [.ref 0, .int x1, zU, zU, zU] [] G I res := by
  refine Ev_aload_n hq_112 (show decode prog_1_method_58_code 0 = .ok (.aload_n 0, 1) by decide +kernel) rfl ?_
  refine Ev_getR hq_112 (show decode prog_1_method_58_code 1 = .ok (.getfield 65, 3) by decide +kernel) rfl (SGn hS (by decide)) (SGk hS rfl) (by decide) rfl (SGr hS rfl) ?_
  refine Ev_iload_n hq_112 (show decode prog_1_method_58_code 4 = .ok (.iload_n 1, 1) by decide +kernel) rfl ?_
  obtain ⟨h1, k⟩ := k
  refine Ev_iald hq_112 (show decode prog_1_method_58_code 5 = .ok (.iaload, 1) by decide +kernel) (SGn hS (by decide)) (SGk hS rfl) (SGi hS rfl h1) ?_
  refine Ev_bipush (v := 40) hq_112 (show decode prog_1_method_58_code 6 = .ok (.bipush 40, 2) by decide +kernel) (by decide) ?_
  refine Ev_min hq_112 (show decode prog_1_method_58_code 8 = .ok (.invokestatic 76, 3) by decide +kernel) rfl (z_le rfl) ?_
  obtain ⟨y2, ey2⟩ : ∃ y2 : Int32, y2 = (if 40 < (I 51 x1.toNatClampNeg) then 40 else (I 51 x1.toNatClampNeg)) := ⟨_, rfl⟩
  have k := k y2 ey2
  rw [← ey2]
  refine Ev_istore_n (lo2 := [.ref 0, .int x1, .int y2, zU, zU]) hq_112 (show decode prog_1_method_58_code 11 = .ok (.istore_n 2, 1) by decide +kernel) (z_le rfl) rfl ?_
  refine Ev_iconst (v := 0) hq_112 (show decode prog_1_method_58_code 12 = .ok (.iconst 0, 1) by decide +kernel) (by decide) ?_
  refine Ev_istore_n (lo2 := [.ref 0, .int x1, .int y2, .int 0, zU]) hq_112 (show decode prog_1_method_58_code 13 = .ok (.istore_n 3, 1) by decide +kernel) (z_le rfl) rfl ?_
  refine Ev_iconst (v := 0) hq_112 (show decode prog_1_method_58_code 14 = .ok (.iconst 0, 1) by decide +kernel) (by decide) ?_
  refine Ev_istore (lo2 := [.ref 0, .int x1, .int y2, .int 0, .int 0]) hq_112 (show decode prog_1_method_58_code 15 = .ok (.istore 4, 2) by decide +kernel) (z_le rfl) rfl ?_
  exact k
set_option maxRecDepth 20000 in
theorem wp_T_beatsTold_17 {X : Nat × (Nat → Int32)} {d : Nat} {G : zG} {I : zI} {res : Option Value × zG × zI} (x1 : Int32) (x2 : Int32) (x3 : Int32) (x4 : Int32) (hd : 1 ≤ d) (hS : SG G) 
    (k : (x2 ≤ x4 → res = (some (.int x3), G, I)) ∧ (¬ x2 ≤ x4 → z_inr x1 4 ∧ (z_inr x4 40 ∧ (((f_T_isBeat (I (46 + x1.toNatClampNeg) x4.toNatClampNeg)) = 0 → ∀ y6 : Int32, y6 = x4 + 1 → Ev X (d + 1) 112 17 [.ref 0, .int x1, .int x2, .int x3, .int y6] [] G I res) ∧ (¬ (f_T_isBeat (I (46 + x1.toNatClampNeg) x4.toNatClampNeg)) = 0 → z_inr x1 4 ∧ (z_inr x4 40 ∧ (∀ y10 : Int32, y10 = (x3 ||| (1 <<< ((I (46 + x1.toNatClampNeg) x4.toNatClampNeg) &&& 31))) → ∀ y11 : Int32, y11 = x4 + 1 → Ev X (d + 1) 112 17 [.ref 0, .int x1, .int x2, .int y10, .int y11] [] G I res))))))) :
    Ev X (d + 1) 112 17 [.ref 0, .int x1, .int x2, .int x3, .int x4] [] G I res := by
  refine Ev_iload hq_112 (show decode prog_1_method_58_code 17 = .ok (.iload 4, 2) by decide +kernel) rfl ?_
  refine Ev_iload_n hq_112 (show decode prog_1_method_58_code 19 = .ok (.iload_n 2, 1) by decide +kernel) rfl ?_
  refine Ev_icmp_ge (tgt := 58) hq_112 (show decode prog_1_method_58_code 20 = .ok (.if_icmp .ge 38, 3) by decide +kernel) (by decide) (fun c1 => ?_) (fun c1 => ?_)
  · have k := k.1 c1
    refine Ev_iload_n hq_112 (show decode prog_1_method_58_code 58 = .ok (.iload_n 3, 1) by decide +kernel) rfl ?_
    exact Ev_iret hq_112 (show decode prog_1_method_58_code 59 = .ok (.ireturn, 1) by decide +kernel) rfl k
  · have k := k.2 c1
    refine Ev_aload_n hq_112 (show decode prog_1_method_58_code 23 = .ok (.aload_n 0, 1) by decide +kernel) rfl ?_
    refine Ev_getR hq_112 (show decode prog_1_method_58_code 24 = .ok (.getfield 59, 3) by decide +kernel) rfl (SGn hS (by decide)) (SGk hS rfl) (by decide) rfl (SGr hS rfl) ?_
    refine Ev_iload_n hq_112 (show decode prog_1_method_58_code 27 = .ok (.iload_n 1, 1) by decide +kernel) rfl ?_
    obtain ⟨h2, k⟩ := k
    have r3 := SGrow hS (a := 45) (b := 46) (n := 40) (Or.inr (Or.inr ⟨rfl, rfl, rfl⟩)) h2.2
    refine Ev_aald hq_112 (show decode prog_1_method_58_code 28 = .ok (.aaload, 1) by decide +kernel) (SGn hS (by decide)) (Or.inr (SGk hS rfl)) (SGi hS rfl h2) r3.1 ?_
    refine Ev_iload hq_112 (show decode prog_1_method_58_code 29 = .ok (.iload 4, 2) by decide +kernel) rfl ?_
    obtain ⟨h4, k⟩ := k
    refine Ev_iald hq_112 (show decode prog_1_method_58_code 31 = .ok (.iaload, 1) by decide +kernel) r3.2.1 r3.2.2.1 (by rw [r3.2.2.2]; exact h4) ?_
    refine Ev_stat (as := [.int (I (46 + x1.toNatClampNeg) x4.toNatClampNeg)]) hq_112 (show decode prog_1_method_58_code 32 = .ok (.invokestatic 127, 3) by decide +kernel) rfl (Or.inl rfl) hq_47 rfl (z_le rfl) (c_T_isBeat (by omega) (I (46 + x1.toNatClampNeg) x4.toNatClampNeg)) ?_
    refine Ev_if_eq (tgt := 52) hq_112 (show decode prog_1_method_58_code 35 = .ok (.ifCond .eq 17, 3) by decide +kernel) (by decide) (fun c5 => ?_) (fun c5 => ?_)
    · have k := k.1 c5
      obtain ⟨y6, ey6⟩ : ∃ y6 : Int32, y6 = x4 + 1 := ⟨_, rfl⟩
      have k := k y6 ey6
      refine Ev_iinc (v := y6) (lo2 := [.ref 0, .int x1, .int x2, .int x3, .int y6]) hq_112 (show decode prog_1_method_58_code 52 = .ok (.iinc 4 1, 3) by decide +kernel) rfl (by rw [ey6]; rfl) rfl ?_
      refine Ev_goto (tgt := 17) hq_112 (show decode prog_1_method_58_code 55 = .ok (.goto (-38), 3) by decide +kernel) (by decide) ?_
      exact k
    · have k := k.2 c5
      refine Ev_iload_n hq_112 (show decode prog_1_method_58_code 38 = .ok (.iload_n 3, 1) by decide +kernel) rfl ?_
      refine Ev_iconst (v := 1) hq_112 (show decode prog_1_method_58_code 39 = .ok (.iconst 1, 1) by decide +kernel) (by decide) ?_
      refine Ev_aload_n hq_112 (show decode prog_1_method_58_code 40 = .ok (.aload_n 0, 1) by decide +kernel) rfl ?_
      refine Ev_getR hq_112 (show decode prog_1_method_58_code 41 = .ok (.getfield 59, 3) by decide +kernel) rfl (SGn hS (by decide)) (SGk hS rfl) (by decide) rfl (SGr hS rfl) ?_
      refine Ev_iload_n hq_112 (show decode prog_1_method_58_code 44 = .ok (.iload_n 1, 1) by decide +kernel) rfl ?_
      obtain ⟨h7, k⟩ := k
      have r8 := SGrow hS (a := 45) (b := 46) (n := 40) (Or.inr (Or.inr ⟨rfl, rfl, rfl⟩)) h7.2
      refine Ev_aald hq_112 (show decode prog_1_method_58_code 45 = .ok (.aaload, 1) by decide +kernel) (SGn hS (by decide)) (Or.inr (SGk hS rfl)) (SGi hS rfl h7) r8.1 ?_
      refine Ev_iload hq_112 (show decode prog_1_method_58_code 46 = .ok (.iload 4, 2) by decide +kernel) rfl ?_
      obtain ⟨h9, k⟩ := k
      refine Ev_iald hq_112 (show decode prog_1_method_58_code 48 = .ok (.iaload, 1) by decide +kernel) r8.2.1 r8.2.2.1 (by rw [r8.2.2.2]; exact h9) ?_
      refine Ev_ishl hq_112 (show decode prog_1_method_58_code 49 = .ok (.ishl, 1) by decide +kernel) ?_
      refine Ev_ior hq_112 (show decode prog_1_method_58_code 50 = .ok (.ior, 1) by decide +kernel) ?_
      obtain ⟨y10, ey10⟩ : ∃ y10 : Int32, y10 = (x3 ||| (1 <<< ((I (46 + x1.toNatClampNeg) x4.toNatClampNeg) &&& 31))) := ⟨_, rfl⟩
      have k := k y10 ey10
      rw [← ey10]
      refine Ev_istore_n (lo2 := [.ref 0, .int x1, .int x2, .int y10, .int x4]) hq_112 (show decode prog_1_method_58_code 51 = .ok (.istore_n 3, 1) by decide +kernel) (z_le rfl) rfl ?_
      obtain ⟨y11, ey11⟩ : ∃ y11 : Int32, y11 = x4 + 1 := ⟨_, rfl⟩
      have k := k y11 ey11
      refine Ev_iinc (v := y11) (lo2 := [.ref 0, .int x1, .int x2, .int y10, .int y11]) hq_112 (show decode prog_1_method_58_code 52 = .ok (.iinc 4 1, 3) by decide +kernel) rfl (by rw [ey11]; rfl) rfl ?_
      refine Ev_goto (tgt := 17) hq_112 (show decode prog_1_method_58_code 55 = .ok (.goto (-38), 3) by decide +kernel) (by decide) ?_
      exact k
set_option maxRecDepth 20000 in
theorem wp_T_heard {X : Nat × (Nat → Int32)} {d : Nat} {G : zG} {I : zI} {res : Option Value × zG × zI} (x1 : Int32) (x2 : Int32) (hS : SG G) 
    (k : ∃ (r3 : Int32) (I1 : zI), Cv X d 100 [.ref 0, .int x1, .int x2] G I (some (.int r3), G, I1) ∧ ((r3 = 0 → ∃ (r7 : Int32) (I5 : zI), Cv X d 112 [.ref 0, .int x1] G I1 (some (.int r7), G, I5) ∧ (∃ (I8 : zI), Cv X d 83 [.ref 9, .ref 1] G I5 (none, G, I8) ∧ (Ev X (d + 1) 111 37 [.ref 0, .int x1, .int x2, .int r3, .int r7, .int 0, .int 0] [] G I8 res))) ∧ (¬ r3 = 0 → res = (some (.int r3), G, I1)))) :
    Ev X (d + 1) 111 0 [.ref 0, .int x1, .int x2, zU, zU, zU, zU] [] G I res := by
  refine Ev_aload_n hq_111 (show decode prog_1_method_57_code 0 = .ok (.aload_n 0, 1) by decide +kernel) rfl ?_
  refine Ev_iload_n hq_111 (show decode prog_1_method_57_code 1 = .ok (.iload_n 1, 1) by decide +kernel) rfl ?_
  refine Ev_iload_n hq_111 (show decode prog_1_method_57_code 2 = .ok (.iload_n 2, 1) by decide +kernel) rfl ?_
  obtain ⟨r3, I1, h2, k⟩ := k
  refine Ev_virt (as := [.int x1, .int x2]) hq_111 (show decode prog_1_method_57_code 3 = .ok (.invokevirtual 263, 3) by decide +kernel) rfl hq_100 rfl (z_le rfl) ⟨(SGn hS (by decide)), (SGk hS rfl), by decide⟩ h2 ?_
  refine Ev_istore_n (lo2 := [.ref 0, .int x1, .int x2, .int r3, zU, zU, zU]) hq_111 (show decode prog_1_method_57_code 6 = .ok (.istore_n 3, 1) by decide +kernel) (z_le rfl) rfl ?_
  refine Ev_iload_n hq_111 (show decode prog_1_method_57_code 7 = .ok (.iload_n 3, 1) by decide +kernel) rfl ?_
  refine Ev_if_eq (tgt := 13) hq_111 (show decode prog_1_method_57_code 8 = .ok (.ifCond .eq 5, 3) by decide +kernel) (by decide) (fun c4 => ?_) (fun c4 => ?_)
  · have k := k.1 c4
    refine Ev_aload_n hq_111 (show decode prog_1_method_57_code 13 = .ok (.aload_n 0, 1) by decide +kernel) rfl ?_
    refine Ev_iload_n hq_111 (show decode prog_1_method_57_code 14 = .ok (.iload_n 1, 1) by decide +kernel) rfl ?_
    obtain ⟨r7, I5, h6, k⟩ := k
    refine Ev_virt (as := [.int x1]) hq_111 (show decode prog_1_method_57_code 15 = .ok (.invokevirtual 287, 3) by decide +kernel) rfl hq_112 rfl (z_le rfl) ⟨(SGn hS (by decide)), (SGk hS rfl), by decide⟩ h6 ?_
    refine Ev_istore (lo2 := [.ref 0, .int x1, .int x2, .int r3, .int r7, zU, zU]) hq_111 (show decode prog_1_method_57_code 18 = .ok (.istore 4, 2) by decide +kernel) (z_le rfl) rfl ?_
    refine Ev_aload_n hq_111 (show decode prog_1_method_57_code 20 = .ok (.aload_n 0, 1) by decide +kernel) rfl ?_
    refine Ev_getR hq_111 (show decode prog_1_method_57_code 21 = .ok (.getfield 16, 3) by decide +kernel) rfl (SGn hS (by decide)) (SGk hS rfl) (by decide) rfl (SGr hS rfl) ?_
    refine Ev_aload_n hq_111 (show decode prog_1_method_57_code 24 = .ok (.aload_n 0, 1) by decide +kernel) rfl ?_
    refine Ev_getR hq_111 (show decode prog_1_method_57_code 25 = .ok (.getfield 10, 3) by decide +kernel) rfl (SGn hS (by decide)) (SGk hS rfl) (by decide) rfl (SGr hS rfl) ?_
    obtain ⟨I8, h9, k⟩ := k
    refine Ev_virt (as := [.ref 1]) hq_111 (show decode prog_1_method_57_code 28 = .ok (.invokevirtual 230, 3) by decide +kernel) rfl hq_83 rfl (z_le rfl) ⟨(SGn hS (by decide)), (SGk hS rfl), by decide⟩ h9 ?_
    refine Ev_iconst (v := 0) hq_111 (show decode prog_1_method_57_code 31 = .ok (.iconst 0, 1) by decide +kernel) (by decide) ?_
    refine Ev_istore (lo2 := [.ref 0, .int x1, .int x2, .int r3, .int r7, .int 0, zU]) hq_111 (show decode prog_1_method_57_code 32 = .ok (.istore 5, 2) by decide +kernel) (z_le rfl) rfl ?_
    refine Ev_iconst (v := 0) hq_111 (show decode prog_1_method_57_code 34 = .ok (.iconst 0, 1) by decide +kernel) (by decide) ?_
    refine Ev_istore (lo2 := [.ref 0, .int x1, .int x2, .int r3, .int r7, .int 0, .int 0]) hq_111 (show decode prog_1_method_57_code 35 = .ok (.istore 6, 2) by decide +kernel) (z_le rfl) rfl ?_
    exact k
  · have k := k.2 c4
    refine Ev_iload_n hq_111 (show decode prog_1_method_57_code 11 = .ok (.iload_n 3, 1) by decide +kernel) rfl ?_
    exact Ev_iret hq_111 (show decode prog_1_method_57_code 12 = .ok (.ireturn, 1) by decide +kernel) rfl k
set_option maxRecDepth 20000 in
theorem wp_T_heard_37 {X : Nat × (Nat → Int32)} {d : Nat} {G : zG} {I : zI} {res : Option Value × zG × zI} (x1 : Int32) (x2 : Int32) (x3 : Int32) (x4 : Int32) (x5 : Int32) (x6 : Int32) (hS : SG G) 
    (k : (4 < x6 → res = (some (.int x5), G, I)) ∧ (¬ 4 < x6 → z_inr x2 4 ∧ (∀ I3 : zI, I3 = z_up I 12 x2.toNatClampNeg x6 → ∃ (I4 : zI), Cv X d 62 [.ref 0, .ref 9] G I3 (none, G, I4) ∧ (z_inr x2 4 ∧ ((¬ (I4 37 x2.toNatClampNeg) = x4 → ∀ y8 : Int32, y8 = x6 + 1 → Ev X (d + 1) 111 37 [.ref 0, .int x1, .int x2, .int x3, .int x4, .int x5, .int y8] [] G I4 res) ∧ ((I4 37 x2.toNatClampNeg) = x4 → ∀ y9 : Int32, y9 = (x5 ||| (1 <<< (x6 &&& 31))) → ∀ y10 : Int32, y10 = x6 + 1 → Ev X (d + 1) 111 37 [.ref 0, .int x1, .int x2, .int x3, .int x4, .int y9, .int y10] [] G I4 res)))))) :
    Ev X (d + 1) 111 37 [.ref 0, .int x1, .int x2, .int x3, .int x4, .int x5, .int x6] [] G I res := by
  refine Ev_iload hq_111 (show decode prog_1_method_57_code 37 = .ok (.iload 6, 2) by decide +kernel) rfl ?_
  refine Ev_iconst (v := 4) hq_111 (show decode prog_1_method_57_code 39 = .ok (.iconst 4, 1) by decide +kernel) (by decide) ?_
  refine Ev_icmp_gt (tgt := 91) hq_111 (show decode prog_1_method_57_code 40 = .ok (.if_icmp .gt 51, 3) by decide +kernel) (by decide) (fun c1 => ?_) (fun c1 => ?_)
  · have k := k.1 c1
    refine Ev_iload hq_111 (show decode prog_1_method_57_code 91 = .ok (.iload 5, 2) by decide +kernel) rfl ?_
    exact Ev_iret hq_111 (show decode prog_1_method_57_code 93 = .ok (.ireturn, 1) by decide +kernel) rfl k
  · have k := k.2 c1
    refine Ev_aload_n hq_111 (show decode prog_1_method_57_code 43 = .ok (.aload_n 0, 1) by decide +kernel) rfl ?_
    refine Ev_getR hq_111 (show decode prog_1_method_57_code 44 = .ok (.getfield 16, 3) by decide +kernel) rfl (SGn hS (by decide)) (SGk hS rfl) (by decide) rfl (SGr hS rfl) ?_
    refine Ev_getR hq_111 (show decode prog_1_method_57_code 47 = .ok (.getfield 134, 3) by decide +kernel) rfl (SGn hS (by decide)) (SGk hS rfl) (by decide) rfl (SGr hS rfl) ?_
    refine Ev_iload_n hq_111 (show decode prog_1_method_57_code 50 = .ok (.iload_n 2, 1) by decide +kernel) rfl ?_
    refine Ev_iload hq_111 (show decode prog_1_method_57_code 51 = .ok (.iload 6, 2) by decide +kernel) rfl ?_
    obtain ⟨h2, k⟩ := k
    refine Ev_iast hq_111 (show decode prog_1_method_57_code 53 = .ok (.iastore, 1) by decide +kernel) (SGn hS (by decide)) (SGk hS rfl) (SGi hS rfl h2) ?_
    obtain ⟨I3, eI3⟩ : ∃ I3 : zI, I3 = z_up I 12 x2.toNatClampNeg x6 := ⟨_, rfl⟩
    have k := k I3 eI3
    rw [← eI3]
    refine Ev_aload_n hq_111 (show decode prog_1_method_57_code 54 = .ok (.aload_n 0, 1) by decide +kernel) rfl ?_
    refine Ev_aload_n hq_111 (show decode prog_1_method_57_code 55 = .ok (.aload_n 0, 1) by decide +kernel) rfl ?_
    refine Ev_getR hq_111 (show decode prog_1_method_57_code 56 = .ok (.getfield 16, 3) by decide +kernel) rfl (SGn hS (by decide)) (SGk hS rfl) (by decide) rfl (SGr hS rfl) ?_
    obtain ⟨I4, h5, k⟩ := k
    refine Ev_virt (as := [.ref 9]) hq_111 (show decode prog_1_method_57_code 59 = .ok (.invokevirtual 187, 3) by decide +kernel) rfl hq_62 rfl (z_le rfl) ⟨(SGn hS (by decide)), (SGk hS rfl), by decide⟩ h5 ?_
    refine Ev_aload_n hq_111 (show decode prog_1_method_57_code 62 = .ok (.aload_n 0, 1) by decide +kernel) rfl ?_
    refine Ev_getR hq_111 (show decode prog_1_method_57_code 63 = .ok (.getfield 29, 3) by decide +kernel) rfl (SGn hS (by decide)) (SGk hS rfl) (by decide) rfl (SGr hS rfl) ?_
    refine Ev_getR hq_111 (show decode prog_1_method_57_code 66 = .ok (.getfield 203, 3) by decide +kernel) rfl (SGn hS (by decide)) (SGk hS rfl) (by decide) rfl (SGr hS rfl) ?_
    refine Ev_iload_n hq_111 (show decode prog_1_method_57_code 69 = .ok (.iload_n 2, 1) by decide +kernel) rfl ?_
    obtain ⟨h6, k⟩ := k
    refine Ev_iald hq_111 (show decode prog_1_method_57_code 70 = .ok (.iaload, 1) by decide +kernel) (SGn hS (by decide)) (SGk hS rfl) (SGi hS rfl h6) ?_
    refine Ev_iload hq_111 (show decode prog_1_method_57_code 71 = .ok (.iload 4, 2) by decide +kernel) rfl ?_
    refine Ev_icmp_ne (tgt := 85) hq_111 (show decode prog_1_method_57_code 73 = .ok (.if_icmp .ne 12, 3) by decide +kernel) (by decide) (fun c7 => ?_) (fun c7 => ?_)
    · have k := k.1 c7
      obtain ⟨y8, ey8⟩ : ∃ y8 : Int32, y8 = x6 + 1 := ⟨_, rfl⟩
      have k := k y8 ey8
      refine Ev_iinc (v := y8) (lo2 := [.ref 0, .int x1, .int x2, .int x3, .int x4, .int x5, .int y8]) hq_111 (show decode prog_1_method_57_code 85 = .ok (.iinc 6 1, 3) by decide +kernel) rfl (by rw [ey8]; rfl) rfl ?_
      refine Ev_goto (tgt := 37) hq_111 (show decode prog_1_method_57_code 88 = .ok (.goto (-51), 3) by decide +kernel) (by decide) ?_
      exact k
    · have k := k.2 (Classical.not_not.mp c7)
      refine Ev_iload hq_111 (show decode prog_1_method_57_code 76 = .ok (.iload 5, 2) by decide +kernel) rfl ?_
      refine Ev_iconst (v := 1) hq_111 (show decode prog_1_method_57_code 78 = .ok (.iconst 1, 1) by decide +kernel) (by decide) ?_
      refine Ev_iload hq_111 (show decode prog_1_method_57_code 79 = .ok (.iload 6, 2) by decide +kernel) rfl ?_
      refine Ev_ishl hq_111 (show decode prog_1_method_57_code 81 = .ok (.ishl, 1) by decide +kernel) ?_
      refine Ev_ior hq_111 (show decode prog_1_method_57_code 82 = .ok (.ior, 1) by decide +kernel) ?_
      obtain ⟨y9, ey9⟩ : ∃ y9 : Int32, y9 = (x5 ||| (1 <<< (x6 &&& 31))) := ⟨_, rfl⟩
      have k := k y9 ey9
      rw [← ey9]
      refine Ev_istore (lo2 := [.ref 0, .int x1, .int x2, .int x3, .int x4, .int y9, .int x6]) hq_111 (show decode prog_1_method_57_code 83 = .ok (.istore 5, 2) by decide +kernel) (z_le rfl) rfl ?_
      obtain ⟨y10, ey10⟩ : ∃ y10 : Int32, y10 = x6 + 1 := ⟨_, rfl⟩
      have k := k y10 ey10
      refine Ev_iinc (v := y10) (lo2 := [.ref 0, .int x1, .int x2, .int x3, .int x4, .int y9, .int y10]) hq_111 (show decode prog_1_method_57_code 85 = .ok (.iinc 6 1, 3) by decide +kernel) rfl (by rw [ey10]; rfl) rfl ?_
      refine Ev_goto (tgt := 37) hq_111 (show decode prog_1_method_57_code 88 = .ok (.goto (-51), 3) by decide +kernel) (by decide) ?_
      exact k
set_option maxRecDepth 20000 in
theorem wp_T_liveDrawn {X : Nat × (Nat → Int32)} {d : Nat} {G : zG} {I : zI} {res : Option Value × zG × zI} (x1 : Int32) 
    (k : ∀ y1 : Int64, y1 = ((x1.toInt64) + 1) → Ev X d 114 8 [.ref 0, .int x1, .long y1, zU, .int 0] [] G I res) :
    Ev X d 114 0 [.ref 0, .int x1, zU, zU, zU] [] G I res := by
  refine Ev_iload_n hq_114 (show decode prog_1_method_60_code 0 = .ok (.iload_n 1, 1) by decide +kernel) rfl ?_
  refine Ev_i2l hq_114 (show decode prog_1_method_60_code 1 = .ok (.i2l, 1) by decide +kernel) ?_
  refine Ev_lconst (v := 1) hq_114 (show decode prog_1_method_60_code 2 = .ok (.lconst 1, 1) by decide +kernel) (by decide) ?_
  refine Ev_ladd hq_114 (show decode prog_1_method_60_code 3 = .ok (.ladd, 1) by decide +kernel) ?_
  obtain ⟨y1, ey1⟩ : ∃ y1 : Int64, y1 = ((x1.toInt64) + 1) := ⟨_, rfl⟩
  have k := k y1 ey1
  rw [← ey1]
  refine Ev_lstore_n (lo2 := [.ref 0, .int x1, .long y1, zU, zU]) hq_114 (show decode prog_1_method_60_code 4 = .ok (.lstore_n 2, 1) by decide +kernel) (z_le rfl) rfl ?_
  refine Ev_iconst (v := 0) hq_114 (show decode prog_1_method_60_code 5 = .ok (.iconst 0, 1) by decide +kernel) (by decide) ?_
  refine Ev_istore (lo2 := [.ref 0, .int x1, .long y1, zU, .int 0]) hq_114 (show decode prog_1_method_60_code 6 = .ok (.istore 4, 2) by decide +kernel) (z_le rfl) rfl ?_
  exact k
set_option maxRecDepth 20000 in
theorem wp_T_liveDrawn_8 {X : Nat × (Nat → Int32)} {d : Nat} {G : zG} {I : zI} {res : Option Value × zG × zI} (x1 : Int32) (x2 : Int64) (x4 : Int32) (hS : SG G) 
    (k : ((I 9 7) ≤ x4 → ∃ (I2 : zI), Cv X d 62 [.ref 0, .ref 9] G I (none, G, I2) ∧ (res = (none, G, I2))) ∧ (¬ (I 9 7) ≤ x4 → ∀ y4 : Int64, y4 = ((x2 * 48271) - (x2 * 48271) / 2147483647 * 2147483647) → z_inr x4 4 ∧ (∀ I6 : zI, I6 = z_up I 14 x4.toNatClampNeg ((y4 - y4 / 1000 * 1000).toInt32) → ∀ y7 : Int32, y7 = x4 + 1 → Ev X (d + 1) 114 8 [.ref 0, .int x1, .long y4, zU, .int y7] [] G I6 res))) :
    Ev X (d + 1) 114 8 [.ref 0, .int x1, .long x2, zU, .int x4] [] G I res := by
  refine Ev_iload hq_114 (show decode prog_1_method_60_code 8 = .ok (.iload 4, 2) by decide +kernel) rfl ?_
  refine Ev_aload_n hq_114 (show decode prog_1_method_60_code 10 = .ok (.aload_n 0, 1) by decide +kernel) rfl ?_
  refine Ev_getR hq_114 (show decode prog_1_method_60_code 11 = .ok (.getfield 16, 3) by decide +kernel) rfl (SGn hS (by decide)) (SGk hS rfl) (by decide) rfl (SGr hS rfl) ?_
  refine Ev_getI hq_114 (show decode prog_1_method_60_code 14 = .ok (.getfield 100, 3) by decide +kernel) rfl (SGn hS (by decide)) (SGk hS rfl) (by decide) rfl ?_
  refine Ev_icmp_ge (tgt := 52) hq_114 (show decode prog_1_method_60_code 17 = .ok (.if_icmp .ge 35, 3) by decide +kernel) (by decide) (fun c1 => ?_) (fun c1 => ?_)
  · have k := k.1 c1
    refine Ev_aload_n hq_114 (show decode prog_1_method_60_code 52 = .ok (.aload_n 0, 1) by decide +kernel) rfl ?_
    refine Ev_aload_n hq_114 (show decode prog_1_method_60_code 53 = .ok (.aload_n 0, 1) by decide +kernel) rfl ?_
    refine Ev_getR hq_114 (show decode prog_1_method_60_code 54 = .ok (.getfield 16, 3) by decide +kernel) rfl (SGn hS (by decide)) (SGk hS rfl) (by decide) rfl (SGr hS rfl) ?_
    obtain ⟨I2, h3, k⟩ := k
    refine Ev_virt (as := [.ref 9]) hq_114 (show decode prog_1_method_60_code 57 = .ok (.invokevirtual 187, 3) by decide +kernel) rfl hq_62 rfl (z_le rfl) ⟨(SGn hS (by decide)), (SGk hS rfl), by decide⟩ h3 ?_
    exact Ev_vret hq_114 (show decode prog_1_method_60_code 60 = .ok (.return_, 1) by decide +kernel) k
  · have k := k.2 c1
    refine Ev_lload_n hq_114 (show decode prog_1_method_60_code 20 = .ok (.lload_n 2, 1) by decide +kernel) rfl ?_
    refine Ev_ldc2 (v := 48271) hq_114 (show decode prog_1_method_60_code 21 = .ok (.ldc2_w 294, 3) by decide +kernel) rfl ?_
    refine Ev_lmul hq_114 (show decode prog_1_method_60_code 24 = .ok (.lmul, 1) by decide +kernel) ?_
    refine Ev_ldc2 (v := 2147483647) hq_114 (show decode prog_1_method_60_code 25 = .ok (.ldc2_w 296, 3) by decide +kernel) rfl ?_
    refine Ev_lrem hq_114 (show decode prog_1_method_60_code 28 = .ok (.lrem, 1) by decide +kernel) (by decide) ?_
    obtain ⟨y4, ey4⟩ : ∃ y4 : Int64, y4 = ((x2 * 48271) - (x2 * 48271) / 2147483647 * 2147483647) := ⟨_, rfl⟩
    have k := k y4 ey4
    rw [← ey4]
    refine Ev_lstore_n (lo2 := [.ref 0, .int x1, .long y4, zU, .int x4]) hq_114 (show decode prog_1_method_60_code 29 = .ok (.lstore_n 2, 1) by decide +kernel) (z_le rfl) rfl ?_
    refine Ev_aload_n hq_114 (show decode prog_1_method_60_code 30 = .ok (.aload_n 0, 1) by decide +kernel) rfl ?_
    refine Ev_getR hq_114 (show decode prog_1_method_60_code 31 = .ok (.getfield 16, 3) by decide +kernel) rfl (SGn hS (by decide)) (SGk hS rfl) (by decide) rfl (SGr hS rfl) ?_
    refine Ev_getR hq_114 (show decode prog_1_method_60_code 34 = .ok (.getfield 227, 3) by decide +kernel) rfl (SGn hS (by decide)) (SGk hS rfl) (by decide) rfl (SGr hS rfl) ?_
    refine Ev_iload hq_114 (show decode prog_1_method_60_code 37 = .ok (.iload 4, 2) by decide +kernel) rfl ?_
    refine Ev_lload_n hq_114 (show decode prog_1_method_60_code 39 = .ok (.lload_n 2, 1) by decide +kernel) rfl ?_
    refine Ev_ldc2 (v := 1000) hq_114 (show decode prog_1_method_60_code 40 = .ok (.ldc2_w 298, 3) by decide +kernel) rfl ?_
    refine Ev_lrem hq_114 (show decode prog_1_method_60_code 43 = .ok (.lrem, 1) by decide +kernel) (by decide) ?_
    refine Ev_l2i hq_114 (show decode prog_1_method_60_code 44 = .ok (.l2i, 1) by decide +kernel) ?_
    obtain ⟨h5, k⟩ := k
    refine Ev_iast hq_114 (show decode prog_1_method_60_code 45 = .ok (.iastore, 1) by decide +kernel) (SGn hS (by decide)) (SGk hS rfl) (SGi hS rfl h5) ?_
    obtain ⟨I6, eI6⟩ : ∃ I6 : zI, I6 = z_up I 14 x4.toNatClampNeg ((y4 - y4 / 1000 * 1000).toInt32) := ⟨_, rfl⟩
    have k := k I6 eI6
    rw [← eI6]
    obtain ⟨y7, ey7⟩ : ∃ y7 : Int32, y7 = x4 + 1 := ⟨_, rfl⟩
    have k := k y7 ey7
    refine Ev_iinc (v := y7) (lo2 := [.ref 0, .int x1, .long y4, zU, .int y7]) hq_114 (show decode prog_1_method_60_code 46 = .ok (.iinc 4 1, 3) by decide +kernel) rfl (by rw [ey7]; rfl) rfl ?_
    refine Ev_goto (tgt := 8) hq_114 (show decode prog_1_method_60_code 49 = .ok (.goto (-41), 3) by decide +kernel) (by decide) ?_
    exact k
set_option maxRecDepth 20000 in
theorem wp_T_drawn {X : Nat × (Nat → Int32)} {d : Nat} {G : zG} {I : zI} {res : Option Value × zG × zI} (x1 : Int32) (x2 : Int32) (hS : SG G) 
    (k : ((f_T_within x1 0 99999) = 0 → res = (some (.int (-2)), G, I)) ∧ (¬ (f_T_within x1 0 99999) = 0 → (¬ (f_T_within x2 0 1) = 0 → ∃ (I3 : zI), Cv X d 83 [.ref 9, .ref 1] G I (none, G, I3) ∧ (∃ (I5 : zI), Cv X d 114 [.ref 0, .int x1] G I3 (none, G, I5) ∧ ((¬ x2 = 0 → ∃ (r10 : Int32) (I8 : zI), Cv X d 77 [.ref 25, .int (I5 9 7)] G I5 (some (.int r10), G, I8) ∧ (res = (some (.int r10), G, I8))) ∧ (x2 = 0 → ∃ (r13 : Int32) (I11 : zI), Cv X d 76 [.ref 25, .int (I5 9 7)] G I5 (some (.int r13), G, I11) ∧ (res = (some (.int r13), G, I11)))))) ∧ ((f_T_within x2 0 1) = 0 → res = (some (.int (-2)), G, I)))) :
    Ev X (d + 1) 113 0 [.ref 0, .int x1, .int x2] [] G I res := by
  refine Ev_iload_n hq_113 (show decode prog_1_method_59_code 0 = .ok (.iload_n 1, 1) by decide +kernel) rfl ?_
  refine Ev_iconst (v := 0) hq_113 (show decode prog_1_method_59_code 1 = .ok (.iconst 0, 1) by decide +kernel) (by decide) ?_
  refine Ev_ldcw (v := 99999) hq_113 (show decode prog_1_method_59_code 2 = .ok (.ldc_w 290, 3) by decide +kernel) rfl ?_
  refine Ev_stat (as := [.int x1, .int 0, .int 99999]) hq_113 (show decode prog_1_method_59_code 5 = .ok (.invokestatic 108, 3) by decide +kernel) rfl (Or.inl rfl) hq_32 rfl (z_le rfl) (c_T_within x1 0 99999) ?_
  refine Ev_if_eq (tgt := 20) hq_113 (show decode prog_1_method_59_code 8 = .ok (.ifCond .eq 12, 3) by decide +kernel) (by decide) (fun c1 => ?_) (fun c1 => ?_)
  · have k := k.1 c1
    refine Ev_bipush (v := (-2)) hq_113 (show decode prog_1_method_59_code 20 = .ok (.bipush (-2), 2) by decide +kernel) (by decide) ?_
    exact Ev_iret hq_113 (show decode prog_1_method_59_code 22 = .ok (.ireturn, 1) by decide +kernel) rfl k
  · have k := k.2 c1
    refine Ev_iload_n hq_113 (show decode prog_1_method_59_code 11 = .ok (.iload_n 2, 1) by decide +kernel) rfl ?_
    refine Ev_iconst (v := 0) hq_113 (show decode prog_1_method_59_code 12 = .ok (.iconst 0, 1) by decide +kernel) (by decide) ?_
    refine Ev_iconst (v := 1) hq_113 (show decode prog_1_method_59_code 13 = .ok (.iconst 1, 1) by decide +kernel) (by decide) ?_
    refine Ev_stat (as := [.int x2, .int 0, .int 1]) hq_113 (show decode prog_1_method_59_code 14 = .ok (.invokestatic 108, 3) by decide +kernel) rfl (Or.inl rfl) hq_32 rfl (z_le rfl) (c_T_within x2 0 1) ?_
    refine Ev_if_ne (tgt := 23) hq_113 (show decode prog_1_method_59_code 17 = .ok (.ifCond .ne 6, 3) by decide +kernel) (by decide) (fun c2 => ?_) (fun c2 => ?_)
    · have k := k.1 c2
      refine Ev_aload_n hq_113 (show decode prog_1_method_59_code 23 = .ok (.aload_n 0, 1) by decide +kernel) rfl ?_
      refine Ev_getR hq_113 (show decode prog_1_method_59_code 24 = .ok (.getfield 16, 3) by decide +kernel) rfl (SGn hS (by decide)) (SGk hS rfl) (by decide) rfl (SGr hS rfl) ?_
      refine Ev_aload_n hq_113 (show decode prog_1_method_59_code 27 = .ok (.aload_n 0, 1) by decide +kernel) rfl ?_
      refine Ev_getR hq_113 (show decode prog_1_method_59_code 28 = .ok (.getfield 10, 3) by decide +kernel) rfl (SGn hS (by decide)) (SGk hS rfl) (by decide) rfl (SGr hS rfl) ?_
      obtain ⟨I3, h4, k⟩ := k
      refine Ev_virt (as := [.ref 1]) hq_113 (show decode prog_1_method_59_code 31 = .ok (.invokevirtual 230, 3) by decide +kernel) rfl hq_83 rfl (z_le rfl) ⟨(SGn hS (by decide)), (SGk hS rfl), by decide⟩ h4 ?_
      refine Ev_aload_n hq_113 (show decode prog_1_method_59_code 34 = .ok (.aload_n 0, 1) by decide +kernel) rfl ?_
      refine Ev_iload_n hq_113 (show decode prog_1_method_59_code 35 = .ok (.iload_n 1, 1) by decide +kernel) rfl ?_
      obtain ⟨I5, h6, k⟩ := k
      refine Ev_virt (as := [.int x1]) hq_113 (show decode prog_1_method_59_code 36 = .ok (.invokevirtual 291, 3) by decide +kernel) rfl hq_114 rfl (z_le rfl) ⟨(SGn hS (by decide)), (SGk hS rfl), by decide⟩ h6 ?_
      refine Ev_iload_n hq_113 (show decode prog_1_method_59_code 39 = .ok (.iload_n 2, 1) by decide +kernel) rfl ?_
      refine Ev_if_ne (tgt := 60) hq_113 (show decode prog_1_method_59_code 40 = .ok (.ifCond .ne 20, 3) by decide +kernel) (by decide) (fun c7 => ?_) (fun c7 => ?_)
      · have k := k.1 c7
        refine Ev_aload_n hq_113 (show decode prog_1_method_59_code 60 = .ok (.aload_n 0, 1) by decide +kernel) rfl ?_
        refine Ev_getR hq_113 (show decode prog_1_method_59_code 61 = .ok (.getfield 29, 3) by decide +kernel) rfl (SGn hS (by decide)) (SGk hS rfl) (by decide) rfl (SGr hS rfl) ?_
        refine Ev_aload_n hq_113 (show decode prog_1_method_59_code 64 = .ok (.aload_n 0, 1) by decide +kernel) rfl ?_
        refine Ev_getR hq_113 (show decode prog_1_method_59_code 65 = .ok (.getfield 16, 3) by decide +kernel) rfl (SGn hS (by decide)) (SGk hS rfl) (by decide) rfl (SGr hS rfl) ?_
        refine Ev_getI hq_113 (show decode prog_1_method_59_code 68 = .ok (.getfield 100, 3) by decide +kernel) rfl (SGn hS (by decide)) (SGk hS rfl) (by decide) rfl ?_
        obtain ⟨r10, I8, h9, k⟩ := k
        refine Ev_virt (as := [.int (I5 9 7)]) hq_113 (show decode prog_1_method_59_code 71 = .ok (.invokevirtual 221, 3) by decide +kernel) rfl hq_77 rfl (z_le rfl) ⟨(SGn hS (by decide)), (SGk hS rfl), by decide⟩ h9 ?_
        exact Ev_iret hq_113 (show decode prog_1_method_59_code 74 = .ok (.ireturn, 1) by decide +kernel) rfl k
      · have k := k.2 (Classical.not_not.mp c7)
        refine Ev_aload_n hq_113 (show decode prog_1_method_59_code 43 = .ok (.aload_n 0, 1) by decide +kernel) rfl ?_
        refine Ev_getR hq_113 (show decode prog_1_method_59_code 44 = .ok (.getfield 29, 3) by decide +kernel) rfl (SGn hS (by decide)) (SGk hS rfl) (by decide) rfl (SGr hS rfl) ?_
        refine Ev_aload_n hq_113 (show decode prog_1_method_59_code 47 = .ok (.aload_n 0, 1) by decide +kernel) rfl ?_
        refine Ev_getR hq_113 (show decode prog_1_method_59_code 48 = .ok (.getfield 16, 3) by decide +kernel) rfl (SGn hS (by decide)) (SGk hS rfl) (by decide) rfl (SGr hS rfl) ?_
        refine Ev_getI hq_113 (show decode prog_1_method_59_code 51 = .ok (.getfield 100, 3) by decide +kernel) rfl (SGn hS (by decide)) (SGk hS rfl) (by decide) rfl ?_
        obtain ⟨r13, I11, h12, k⟩ := k
        refine Ev_virt (as := [.int (I5 9 7)]) hq_113 (show decode prog_1_method_59_code 54 = .ok (.invokevirtual 218, 3) by decide +kernel) rfl hq_76 rfl (z_le rfl) ⟨(SGn hS (by decide)), (SGk hS rfl), by decide⟩ h12 ?_
        refine Ev_goto (tgt := 74) hq_113 (show decode prog_1_method_59_code 57 = .ok (.goto 17, 3) by decide +kernel) (by decide) ?_
        exact Ev_iret hq_113 (show decode prog_1_method_59_code 74 = .ok (.ireturn, 1) by decide +kernel) rfl k
    · have k := k.2 (Classical.not_not.mp c2)
      refine Ev_bipush (v := (-2)) hq_113 (show decode prog_1_method_59_code 20 = .ok (.bipush (-2), 2) by decide +kernel) (by decide) ?_
      exact Ev_iret hq_113 (show decode prog_1_method_59_code 22 = .ok (.ireturn, 1) by decide +kernel) rfl k
set_option maxRecDepth 20000 in
theorem wp_T_allRest {X : Nat × (Nat → Int32)} {d : Nat} {G : zG} {I : zI} {res : Option Value × zG × zI} (x1 : Int32) 
    (k : Ev X d 116 2 [.ref 0, .int x1, .int 0] [] G I res) :
    Ev X d 116 0 [.ref 0, .int x1, zU] [] G I res := by
  refine Ev_iconst (v := 0) hq_116 (show decode prog_1_method_62_code 0 = .ok (.iconst 0, 1) by decide +kernel) (by decide) ?_
  refine Ev_istore_n (lo2 := [.ref 0, .int x1, .int 0]) hq_116 (show decode prog_1_method_62_code 1 = .ok (.istore_n 2, 1) by decide +kernel) (z_le rfl) rfl ?_
  exact k
set_option maxRecDepth 20000 in
theorem wp_T_allRest_2 {X : Nat × (Nat → Int32)} {d : Nat} {G : zG} {I : zI} {res : Option Value × zG × zI} (x1 : Int32) (x2 : Int32) (hS : SG G) 
    (k : ((I 9 7) ≤ x2 → res = (some (.int 1), G, I)) ∧ (¬ (I 9 7) ≤ x2 → z_inr x2 4 ∧ ((¬ (I 16 x2.toNatClampNeg) = 1 → ∀ y4 : Int32, y4 = x2 + 1 → Ev X (d + 1) 116 2 [.ref 0, .int x1, .int y4] [] G I res) ∧ ((I 16 x2.toNatClampNeg) = 1 → z_inr x2 4 ∧ (∃ (r8 : Int32) (I6 : zI), Cv X d 72 [.ref 25, .int x2, .int (I 13 x2.toNatClampNeg), .int x1] G I (some (.int r8), G, I6) ∧ ((¬ r8 = (-1) → ∀ y10 : Int32, y10 = x2 + 1 → Ev X (d + 1) 116 2 [.ref 0, .int x1, .int y10] [] G I6 res) ∧ (r8 = (-1) → res = (some (.int 0), G, I6)))))))) :
    Ev X (d + 1) 116 2 [.ref 0, .int x1, .int x2] [] G I res := by
  refine Ev_iload_n hq_116 (show decode prog_1_method_62_code 2 = .ok (.iload_n 2, 1) by decide +kernel) rfl ?_
  refine Ev_aload_n hq_116 (show decode prog_1_method_62_code 3 = .ok (.aload_n 0, 1) by decide +kernel) rfl ?_
  refine Ev_getR hq_116 (show decode prog_1_method_62_code 4 = .ok (.getfield 16, 3) by decide +kernel) rfl (SGn hS (by decide)) (SGk hS rfl) (by decide) rfl (SGr hS rfl) ?_
  refine Ev_getI hq_116 (show decode prog_1_method_62_code 7 = .ok (.getfield 100, 3) by decide +kernel) rfl (SGn hS (by decide)) (SGk hS rfl) (by decide) rfl ?_
  refine Ev_icmp_ge (tgt := 56) hq_116 (show decode prog_1_method_62_code 10 = .ok (.if_icmp .ge 46, 3) by decide +kernel) (by decide) (fun c1 => ?_) (fun c1 => ?_)
  · have k := k.1 c1
    refine Ev_iconst (v := 1) hq_116 (show decode prog_1_method_62_code 56 = .ok (.iconst 1, 1) by decide +kernel) (by decide) ?_
    exact Ev_iret hq_116 (show decode prog_1_method_62_code 57 = .ok (.ireturn, 1) by decide +kernel) rfl k
  · have k := k.2 c1
    refine Ev_aload_n hq_116 (show decode prog_1_method_62_code 13 = .ok (.aload_n 0, 1) by decide +kernel) rfl ?_
    refine Ev_getR hq_116 (show decode prog_1_method_62_code 14 = .ok (.getfield 16, 3) by decide +kernel) rfl (SGn hS (by decide)) (SGk hS rfl) (by decide) rfl (SGr hS rfl) ?_
    refine Ev_getR hq_116 (show decode prog_1_method_62_code 17 = .ok (.getfield 253, 3) by decide +kernel) rfl (SGn hS (by decide)) (SGk hS rfl) (by decide) rfl (SGr hS rfl) ?_
    refine Ev_iload_n hq_116 (show decode prog_1_method_62_code 20 = .ok (.iload_n 2, 1) by decide +kernel) rfl ?_
    obtain ⟨h2, k⟩ := k
    refine Ev_iald hq_116 (show decode prog_1_method_62_code 21 = .ok (.iaload, 1) by decide +kernel) (SGn hS (by decide)) (SGk hS rfl) (SGi hS rfl h2) ?_
    refine Ev_iconst (v := 1) hq_116 (show decode prog_1_method_62_code 22 = .ok (.iconst 1, 1) by decide +kernel) (by decide) ?_
    refine Ev_icmp_ne (tgt := 50) hq_116 (show decode prog_1_method_62_code 23 = .ok (.if_icmp .ne 27, 3) by decide +kernel) (by decide) (fun c3 => ?_) (fun c3 => ?_)
    · have k := k.1 c3
      obtain ⟨y4, ey4⟩ : ∃ y4 : Int32, y4 = x2 + 1 := ⟨_, rfl⟩
      have k := k y4 ey4
      refine Ev_iinc (v := y4) (lo2 := [.ref 0, .int x1, .int y4]) hq_116 (show decode prog_1_method_62_code 50 = .ok (.iinc 2 1, 3) by decide +kernel) rfl (by rw [ey4]; rfl) rfl ?_
      refine Ev_goto (tgt := 2) hq_116 (show decode prog_1_method_62_code 53 = .ok (.goto (-51), 3) by decide +kernel) (by decide) ?_
      exact k
    · have k := k.2 (Classical.not_not.mp c3)
      refine Ev_aload_n hq_116 (show decode prog_1_method_62_code 26 = .ok (.aload_n 0, 1) by decide +kernel) rfl ?_
      refine Ev_getR hq_116 (show decode prog_1_method_62_code 27 = .ok (.getfield 29, 3) by decide +kernel) rfl (SGn hS (by decide)) (SGk hS rfl) (by decide) rfl (SGr hS rfl) ?_
      refine Ev_iload_n hq_116 (show decode prog_1_method_62_code 30 = .ok (.iload_n 2, 1) by decide +kernel) rfl ?_
      refine Ev_aload_n hq_116 (show decode prog_1_method_62_code 31 = .ok (.aload_n 0, 1) by decide +kernel) rfl ?_
      refine Ev_getR hq_116 (show decode prog_1_method_62_code 32 = .ok (.getfield 16, 3) by decide +kernel) rfl (SGn hS (by decide)) (SGk hS rfl) (by decide) rfl (SGr hS rfl) ?_
      refine Ev_getR hq_116 (show decode prog_1_method_62_code 35 = .ok (.getfield 197, 3) by decide +kernel) rfl (SGn hS (by decide)) (SGk hS rfl) (by decide) rfl (SGr hS rfl) ?_
      refine Ev_iload_n hq_116 (show decode prog_1_method_62_code 38 = .ok (.iload_n 2, 1) by decide +kernel) rfl ?_
      obtain ⟨h5, k⟩ := k
      refine Ev_iald hq_116 (show decode prog_1_method_62_code 39 = .ok (.iaload, 1) by decide +kernel) (SGn hS (by decide)) (SGk hS rfl) (SGi hS rfl h5) ?_
      refine Ev_iload_n hq_116 (show decode prog_1_method_62_code 40 = .ok (.iload_n 1, 1) by decide +kernel) rfl ?_
      obtain ⟨r8, I6, h7, k⟩ := k
      refine Ev_virt (as := [.int x2, .int (I 13 x2.toNatClampNeg), .int x1]) hq_116 (show decode prog_1_method_62_code 41 = .ok (.invokevirtual 212, 3) by decide +kernel) rfl hq_72 rfl (z_le rfl) ⟨(SGn hS (by decide)), (SGk hS rfl), by decide⟩ h7 ?_
      refine Ev_iconst (v := (-1)) hq_116 (show decode prog_1_method_62_code 44 = .ok (.iconst (-1), 1) by decide +kernel) (by decide) ?_
      refine Ev_icmp_ne (tgt := 50) hq_116 (show decode prog_1_method_62_code 45 = .ok (.if_icmp .ne 5, 3) by decide +kernel) (by decide) (fun c9 => ?_) (fun c9 => ?_)
      · have k := k.1 c9
        obtain ⟨y10, ey10⟩ : ∃ y10 : Int32, y10 = x2 + 1 := ⟨_, rfl⟩
        have k := k y10 ey10
        refine Ev_iinc (v := y10) (lo2 := [.ref 0, .int x1, .int y10]) hq_116 (show decode prog_1_method_62_code 50 = .ok (.iinc 2 1, 3) by decide +kernel) rfl (by rw [ey10]; rfl) rfl ?_
        refine Ev_goto (tgt := 2) hq_116 (show decode prog_1_method_62_code 53 = .ok (.goto (-51), 3) by decide +kernel) (by decide) ?_
        exact k
      · have k := k.2 (Classical.not_not.mp c9)
        refine Ev_iconst (v := 0) hq_116 (show decode prog_1_method_62_code 48 = .ok (.iconst 0, 1) by decide +kernel) (by decide) ?_
        exact Ev_iret hq_116 (show decode prog_1_method_62_code 49 = .ok (.ireturn, 1) by decide +kernel) rfl k
set_option maxRecDepth 20000 in
theorem wp_T_commonDivisor {X : Nat × (Nat → Int32)} {d : Nat} {G : zG} {I : zI} {res : Option Value × zG × zI} (x0 : Int32) (x1 : Int32) 
    (k : Ev X d 117 2 [.int x0, .int x1, .int x1] [] G I res) :
    Ev X d 117 0 [.int x0, .int x1, zU] [] G I res := by
  refine Ev_iload_n hq_117 (show decode prog_1_method_63_code 0 = .ok (.iload_n 1, 1) by decide +kernel) rfl ?_
  refine Ev_istore_n (lo2 := [.int x0, .int x1, .int x1]) hq_117 (show decode prog_1_method_63_code 1 = .ok (.istore_n 2, 1) by decide +kernel) (z_le rfl) rfl ?_
  exact k
set_option maxRecDepth 20000 in
theorem wp_T_commonDivisor_2 {X : Nat × (Nat → Int32)} {d : Nat} {G : zG} {I : zI} {res : Option Value × zG × zI} (x0 : Int32) (x1 : Int32) (x2 : Int32) 
    (k : (x2 ≤ 1 → res = (some (.int 1), G, I)) ∧ (¬ x2 ≤ 1 → (¬ x2 = 0) ∧ ((¬ (x0 - x0 / x2 * x2) = 0 → ∀ y4 : Int32, y4 = x2 + (-1) → Ev X d 117 2 [.int x0, .int x1, .int y4] [] G I res) ∧ ((x0 - x0 / x2 * x2) = 0 → (¬ x2 = 0) ∧ ((¬ (x1 - x1 / x2 * x2) = 0 → ∀ y7 : Int32, y7 = x2 + (-1) → Ev X d 117 2 [.int x0, .int x1, .int y7] [] G I res) ∧ ((x1 - x1 / x2 * x2) = 0 → res = (some (.int x2), G, I))))))) :
    Ev X d 117 2 [.int x0, .int x1, .int x2] [] G I res := by
  refine Ev_iload_n hq_117 (show decode prog_1_method_63_code 2 = .ok (.iload_n 2, 1) by decide +kernel) rfl ?_
  refine Ev_iconst (v := 1) hq_117 (show decode prog_1_method_63_code 3 = .ok (.iconst 1, 1) by decide +kernel) (by decide) ?_
  refine Ev_icmp_le (tgt := 27) hq_117 (show decode prog_1_method_63_code 4 = .ok (.if_icmp .le 23, 3) by decide +kernel) (by decide) (fun c1 => ?_) (fun c1 => ?_)
  · have k := k.1 c1
    refine Ev_iconst (v := 1) hq_117 (show decode prog_1_method_63_code 27 = .ok (.iconst 1, 1) by decide +kernel) (by decide) ?_
    exact Ev_iret hq_117 (show decode prog_1_method_63_code 28 = .ok (.ireturn, 1) by decide +kernel) rfl k
  · have k := k.2 c1
    refine Ev_iload_n hq_117 (show decode prog_1_method_63_code 7 = .ok (.iload_n 0, 1) by decide +kernel) rfl ?_
    refine Ev_iload_n hq_117 (show decode prog_1_method_63_code 8 = .ok (.iload_n 2, 1) by decide +kernel) rfl ?_
    obtain ⟨h2, k⟩ := k
    refine Ev_irem hq_117 (show decode prog_1_method_63_code 9 = .ok (.irem, 1) by decide +kernel) h2 ?_
    refine Ev_if_ne (tgt := 21) hq_117 (show decode prog_1_method_63_code 10 = .ok (.ifCond .ne 11, 3) by decide +kernel) (by decide) (fun c3 => ?_) (fun c3 => ?_)
    · have k := k.1 c3
      obtain ⟨y4, ey4⟩ : ∃ y4 : Int32, y4 = x2 + (-1) := ⟨_, rfl⟩
      have k := k y4 ey4
      refine Ev_iinc (v := y4) (lo2 := [.int x0, .int x1, .int y4]) hq_117 (show decode prog_1_method_63_code 21 = .ok (.iinc 2 (-1), 3) by decide +kernel) rfl (by rw [ey4]; rfl) rfl ?_
      refine Ev_goto (tgt := 2) hq_117 (show decode prog_1_method_63_code 24 = .ok (.goto (-22), 3) by decide +kernel) (by decide) ?_
      exact k
    · have k := k.2 (Classical.not_not.mp c3)
      refine Ev_iload_n hq_117 (show decode prog_1_method_63_code 13 = .ok (.iload_n 1, 1) by decide +kernel) rfl ?_
      refine Ev_iload_n hq_117 (show decode prog_1_method_63_code 14 = .ok (.iload_n 2, 1) by decide +kernel) rfl ?_
      obtain ⟨h5, k⟩ := k
      refine Ev_irem hq_117 (show decode prog_1_method_63_code 15 = .ok (.irem, 1) by decide +kernel) h5 ?_
      refine Ev_if_ne (tgt := 21) hq_117 (show decode prog_1_method_63_code 16 = .ok (.ifCond .ne 5, 3) by decide +kernel) (by decide) (fun c6 => ?_) (fun c6 => ?_)
      · have k := k.1 c6
        obtain ⟨y7, ey7⟩ : ∃ y7 : Int32, y7 = x2 + (-1) := ⟨_, rfl⟩
        have k := k y7 ey7
        refine Ev_iinc (v := y7) (lo2 := [.int x0, .int x1, .int y7]) hq_117 (show decode prog_1_method_63_code 21 = .ok (.iinc 2 (-1), 3) by decide +kernel) rfl (by rw [ey7]; rfl) rfl ?_
        refine Ev_goto (tgt := 2) hq_117 (show decode prog_1_method_63_code 24 = .ok (.goto (-22), 3) by decide +kernel) (by decide) ?_
        exact k
      · have k := k.2 (Classical.not_not.mp c6)
        refine Ev_iload_n hq_117 (show decode prog_1_method_63_code 19 = .ok (.iload_n 2, 1) by decide +kernel) rfl ?_
        exact Ev_iret hq_117 (show decode prog_1_method_63_code 20 = .ok (.ireturn, 1) by decide +kernel) rfl k
set_option maxRecDepth 20000 in
theorem wp_T_odds {X : Nat × (Nat → Int32)} {d : Nat} {G : zG} {I : zI} {res : Option Value × zG × zI} (x1 : Int32) (x2 : Int32) (x3 : Int32) (x4 : Int32) (hd : 1 ≤ d) (hS : SG G) 
    (k : ((f_T_within x1 0 99999) = 0 → res = (some (.long (-4611686018427387904)), G, I)) ∧ (¬ (f_T_within x1 0 99999) = 0 → (¬ (f_T_within x2 1 30) = 0 → ((f_T_isWarm x3) = 0 → res = (some (.long (-4611686018427387904)), G, I)) ∧ (¬ (f_T_isWarm x3) = 0 → (¬ (f_T_within x4 0 1) = 0 → ∃ (I5 : zI), Cv X d 83 [.ref 9, .ref 1] G I (none, G, I5) ∧ (Ev X (d + 1) 115 63 [.ref 0, .int x1, .int x2, .int x3, .int x4, .int 0, .int 0] [] G I5 res)) ∧ ((f_T_within x4 0 1) = 0 → res = (some (.long (-4611686018427387904)), G, I)))) ∧ ((f_T_within x2 1 30) = 0 → res = (some (.long (-4611686018427387904)), G, I)))) :
    Ev X (d + 1) 115 0 [.ref 0, .int x1, .int x2, .int x3, .int x4, zU, zU] [] G I res := by
  refine Ev_iload_n hq_115 (show decode prog_1_method_61_code 0 = .ok (.iload_n 1, 1) by decide +kernel) rfl ?_
  refine Ev_iconst (v := 0) hq_115 (show decode prog_1_method_61_code 1 = .ok (.iconst 0, 1) by decide +kernel) (by decide) ?_
  refine Ev_ldcw (v := 99999) hq_115 (show decode prog_1_method_61_code 2 = .ok (.ldc_w 290, 3) by decide +kernel) rfl ?_
  refine Ev_stat (as := [.int x1, .int 0, .int 99999]) hq_115 (show decode prog_1_method_61_code 5 = .ok (.invokestatic 108, 3) by decide +kernel) rfl (Or.inl rfl) hq_32 rfl (z_le rfl) (c_T_within x1 0 99999) ?_
  refine Ev_if_eq (tgt := 21) hq_115 (show decode prog_1_method_61_code 8 = .ok (.ifCond .eq 13, 3) by decide +kernel) (by decide) (fun c1 => ?_) (fun c1 => ?_)
  · have k := k.1 c1
    refine Ev_ldc2 (v := (-4611686018427387904)) hq_115 (show decode prog_1_method_61_code 21 = .ok (.ldc2_w 300, 3) by decide +kernel) rfl ?_
    exact Ev_lret hq_115 (show decode prog_1_method_61_code 24 = .ok (.lreturn, 1) by decide +kernel) k
  · have k := k.2 c1
    refine Ev_iload_n hq_115 (show decode prog_1_method_61_code 11 = .ok (.iload_n 2, 1) by decide +kernel) rfl ?_
    refine Ev_iconst (v := 1) hq_115 (show decode prog_1_method_61_code 12 = .ok (.iconst 1, 1) by decide +kernel) (by decide) ?_
    refine Ev_bipush (v := 30) hq_115 (show decode prog_1_method_61_code 13 = .ok (.bipush 30, 2) by decide +kernel) (by decide) ?_
    refine Ev_stat (as := [.int x2, .int 1, .int 30]) hq_115 (show decode prog_1_method_61_code 15 = .ok (.invokestatic 108, 3) by decide +kernel) rfl (Or.inl rfl) hq_32 rfl (z_le rfl) (c_T_within x2 1 30) ?_
    refine Ev_if_ne (tgt := 25) hq_115 (show decode prog_1_method_61_code 18 = .ok (.ifCond .ne 7, 3) by decide +kernel) (by decide) (fun c2 => ?_) (fun c2 => ?_)
    · have k := k.1 c2
      refine Ev_iload_n hq_115 (show decode prog_1_method_61_code 25 = .ok (.iload_n 3, 1) by decide +kernel) rfl ?_
      refine Ev_stat (as := [.int x3]) hq_115 (show decode prog_1_method_61_code 26 = .ok (.invokestatic 124, 3) by decide +kernel) rfl (Or.inl rfl) hq_46 rfl (z_le rfl) (c_T_isWarm (by omega) x3) ?_
      refine Ev_if_eq (tgt := 42) hq_115 (show decode prog_1_method_61_code 29 = .ok (.ifCond .eq 13, 3) by decide +kernel) (by decide) (fun c3 => ?_) (fun c3 => ?_)
      · have k := k.1 c3
        refine Ev_ldc2 (v := (-4611686018427387904)) hq_115 (show decode prog_1_method_61_code 42 = .ok (.ldc2_w 300, 3) by decide +kernel) rfl ?_
        exact Ev_lret hq_115 (show decode prog_1_method_61_code 45 = .ok (.lreturn, 1) by decide +kernel) k
      · have k := k.2 c3
        refine Ev_iload hq_115 (show decode prog_1_method_61_code 32 = .ok (.iload 4, 2) by decide +kernel) rfl ?_
        refine Ev_iconst (v := 0) hq_115 (show decode prog_1_method_61_code 34 = .ok (.iconst 0, 1) by decide +kernel) (by decide) ?_
        refine Ev_iconst (v := 1) hq_115 (show decode prog_1_method_61_code 35 = .ok (.iconst 1, 1) by decide +kernel) (by decide) ?_
        refine Ev_stat (as := [.int x4, .int 0, .int 1]) hq_115 (show decode prog_1_method_61_code 36 = .ok (.invokestatic 108, 3) by decide +kernel) rfl (Or.inl rfl) hq_32 rfl (z_le rfl) (c_T_within x4 0 1) ?_
        refine Ev_if_ne (tgt := 46) hq_115 (show decode prog_1_method_61_code 39 = .ok (.ifCond .ne 7, 3) by decide +kernel) (by decide) (fun c4 => ?_) (fun c4 => ?_)
        · have k := k.1 c4
          refine Ev_aload_n hq_115 (show decode prog_1_method_61_code 46 = .ok (.aload_n 0, 1) by decide +kernel) rfl ?_
          refine Ev_getR hq_115 (show decode prog_1_method_61_code 47 = .ok (.getfield 16, 3) by decide +kernel) rfl (SGn hS (by decide)) (SGk hS rfl) (by decide) rfl (SGr hS rfl) ?_
          refine Ev_aload_n hq_115 (show decode prog_1_method_61_code 50 = .ok (.aload_n 0, 1) by decide +kernel) rfl ?_
          refine Ev_getR hq_115 (show decode prog_1_method_61_code 51 = .ok (.getfield 10, 3) by decide +kernel) rfl (SGn hS (by decide)) (SGk hS rfl) (by decide) rfl (SGr hS rfl) ?_
          obtain ⟨I5, h6, k⟩ := k
          refine Ev_virt (as := [.ref 1]) hq_115 (show decode prog_1_method_61_code 54 = .ok (.invokevirtual 230, 3) by decide +kernel) rfl hq_83 rfl (z_le rfl) ⟨(SGn hS (by decide)), (SGk hS rfl), by decide⟩ h6 ?_
          refine Ev_iconst (v := 0) hq_115 (show decode prog_1_method_61_code 57 = .ok (.iconst 0, 1) by decide +kernel) (by decide) ?_
          refine Ev_istore (lo2 := [.ref 0, .int x1, .int x2, .int x3, .int x4, .int 0, zU]) hq_115 (show decode prog_1_method_61_code 58 = .ok (.istore 5, 2) by decide +kernel) (z_le rfl) rfl ?_
          refine Ev_iconst (v := 0) hq_115 (show decode prog_1_method_61_code 60 = .ok (.iconst 0, 1) by decide +kernel) (by decide) ?_
          refine Ev_istore (lo2 := [.ref 0, .int x1, .int x2, .int x3, .int x4, .int 0, .int 0]) hq_115 (show decode prog_1_method_61_code 61 = .ok (.istore 6, 2) by decide +kernel) (z_le rfl) rfl ?_
          exact k
        · have k := k.2 (Classical.not_not.mp c4)
          refine Ev_ldc2 (v := (-4611686018427387904)) hq_115 (show decode prog_1_method_61_code 42 = .ok (.ldc2_w 300, 3) by decide +kernel) rfl ?_
          exact Ev_lret hq_115 (show decode prog_1_method_61_code 45 = .ok (.lreturn, 1) by decide +kernel) k
    · have k := k.2 (Classical.not_not.mp c2)
      refine Ev_ldc2 (v := (-4611686018427387904)) hq_115 (show decode prog_1_method_61_code 21 = .ok (.ldc2_w 300, 3) by decide +kernel) rfl ?_
      exact Ev_lret hq_115 (show decode prog_1_method_61_code 24 = .ok (.lreturn, 1) by decide +kernel) k
set_option maxRecDepth 20000 in
theorem wp_T_odds_63 {X : Nat × (Nat → Int32)} {d : Nat} {G : zG} {I : zI} {res : Option Value × zG × zI} (x1 : Int32) (x2 : Int32) (x3 : Int32) (x4 : Int32) (x5 : Int32) (x6 : Int32) (hS : SG G) 
    (k : (x2 ≤ x6 → ∃ (r4 : Int32) (I2 : zI), Cv X d 117 [.int x5, .int x2] G I (some (.int r4), G, I2) ∧ (∀ y5 : Int32, y5 = (if 1 < r4 then r4 else 1) → (¬ x4 = 0 → (¬ y5 = 0) ∧ (res = (some (.long ((x2 / y5).toInt64)), G, I2))) ∧ (x4 = 0 → (¬ y5 = 0) ∧ (res = (some (.long ((x5 / y5).toInt64)), G, I2))))) ∧ (¬ x2 ≤ x6 → ∃ (I9 : zI), Cv X d 114 [.ref 0, .int (x1 + x6)] G I (none, G, I9) ∧ (∃ (r13 : Int32) (I11 : zI), Cv X d 116 [.ref 0, .int x3] G I9 (some (.int r13), G, I11) ∧ ((r13 = 0 → ∀ y15 : Int32, y15 = x6 + 1 → Ev X (d + 1) 115 63 [.ref 0, .int x1, .int x2, .int x3, .int x4, .int x5, .int y15] [] G I11 res) ∧ (¬ r13 = 0 → ∀ y16 : Int32, y16 = x5 + 1 → ∀ y17 : Int32, y17 = x6 + 1 → Ev X (d + 1) 115 63 [.ref 0, .int x1, .int x2, .int x3, .int x4, .int y16, .int y17] [] G I11 res))))) :
    Ev X (d + 1) 115 63 [.ref 0, .int x1, .int x2, .int x3, .int x4, .int x5, .int x6] [] G I res := by
  refine Ev_iload hq_115 (show decode prog_1_method_61_code 63 = .ok (.iload 6, 2) by decide +kernel) rfl ?_
  refine Ev_iload_n hq_115 (show decode prog_1_method_61_code 65 = .ok (.iload_n 2, 1) by decide +kernel) rfl ?_
  refine Ev_icmp_ge (tgt := 94) hq_115 (show decode prog_1_method_61_code 66 = .ok (.if_icmp .ge 28, 3) by decide +kernel) (by decide) (fun c1 => ?_) (fun c1 => ?_)
  · have k := k.1 c1
    refine Ev_iconst (v := 1) hq_115 (show decode prog_1_method_61_code 94 = .ok (.iconst 1, 1) by decide +kernel) (by decide) ?_
    refine Ev_iload hq_115 (show decode prog_1_method_61_code 95 = .ok (.iload 5, 2) by decide +kernel) rfl ?_
    refine Ev_iload_n hq_115 (show decode prog_1_method_61_code 97 = .ok (.iload_n 2, 1) by decide +kernel) rfl ?_
    obtain ⟨r4, I2, h3, k⟩ := k
    refine Ev_stat (as := [.int x5, .int x2]) hq_115 (show decode prog_1_method_61_code 98 = .ok (.invokestatic 305, 3) by decide +kernel) rfl (Or.inl rfl) hq_117 rfl (z_le rfl) h3 ?_
    refine Ev_max hq_115 (show decode prog_1_method_61_code 101 = .ok (.invokestatic 168, 3) by decide +kernel) rfl (z_le rfl) ?_
    obtain ⟨y5, ey5⟩ : ∃ y5 : Int32, y5 = (if 1 < r4 then r4 else 1) := ⟨_, rfl⟩
    have k := k y5 ey5
    rw [← ey5]
    refine Ev_istore (lo2 := [.ref 0, .int x1, .int x2, .int x3, .int x4, .int x5, .int y5]) hq_115 (show decode prog_1_method_61_code 104 = .ok (.istore 6, 2) by decide +kernel) (z_le rfl) rfl ?_
    refine Ev_iload hq_115 (show decode prog_1_method_61_code 106 = .ok (.iload 4, 2) by decide +kernel) rfl ?_
    refine Ev_if_ne (tgt := 120) hq_115 (show decode prog_1_method_61_code 108 = .ok (.ifCond .ne 12, 3) by decide +kernel) (by decide) (fun c6 => ?_) (fun c6 => ?_)
    · have k := k.1 c6
      refine Ev_iload_n hq_115 (show decode prog_1_method_61_code 120 = .ok (.iload_n 2, 1) by decide +kernel) rfl ?_
      refine Ev_iload hq_115 (show decode prog_1_method_61_code 121 = .ok (.iload 6, 2) by decide +kernel) rfl ?_
      obtain ⟨h7, k⟩ := k
      refine Ev_idiv hq_115 (show decode prog_1_method_61_code 123 = .ok (.idiv, 1) by decide +kernel) h7 ?_
      refine Ev_i2l hq_115 (show decode prog_1_method_61_code 124 = .ok (.i2l, 1) by decide +kernel) ?_
      exact Ev_lret hq_115 (show decode prog_1_method_61_code 125 = .ok (.lreturn, 1) by decide +kernel) k
    · have k := k.2 (Classical.not_not.mp c6)
      refine Ev_iload hq_115 (show decode prog_1_method_61_code 111 = .ok (.iload 5, 2) by decide +kernel) rfl ?_
      refine Ev_iload hq_115 (show decode prog_1_method_61_code 113 = .ok (.iload 6, 2) by decide +kernel) rfl ?_
      obtain ⟨h8, k⟩ := k
      refine Ev_idiv hq_115 (show decode prog_1_method_61_code 115 = .ok (.idiv, 1) by decide +kernel) h8 ?_
      refine Ev_i2l hq_115 (show decode prog_1_method_61_code 116 = .ok (.i2l, 1) by decide +kernel) ?_
      refine Ev_goto (tgt := 125) hq_115 (show decode prog_1_method_61_code 117 = .ok (.goto 8, 3) by decide +kernel) (by decide) ?_
      exact Ev_lret hq_115 (show decode prog_1_method_61_code 125 = .ok (.lreturn, 1) by decide +kernel) k
  · have k := k.2 c1
    refine Ev_aload_n hq_115 (show decode prog_1_method_61_code 69 = .ok (.aload_n 0, 1) by decide +kernel) rfl ?_
    refine Ev_iload_n hq_115 (show decode prog_1_method_61_code 70 = .ok (.iload_n 1, 1) by decide +kernel) rfl ?_
    refine Ev_iload hq_115 (show decode prog_1_method_61_code 71 = .ok (.iload 6, 2) by decide +kernel) rfl ?_
    refine Ev_iadd hq_115 (show decode prog_1_method_61_code 73 = .ok (.iadd, 1) by decide +kernel) ?_
    obtain ⟨I9, h10, k⟩ := k
    refine Ev_virt (as := [.int (x1 + x6)]) hq_115 (show decode prog_1_method_61_code 74 = .ok (.invokevirtual 291, 3) by decide +kernel) rfl hq_114 rfl (z_le rfl) ⟨(SGn hS (by decide)), (SGk hS rfl), by decide⟩ h10 ?_
    refine Ev_aload_n hq_115 (show decode prog_1_method_61_code 77 = .ok (.aload_n 0, 1) by decide +kernel) rfl ?_
    refine Ev_iload_n hq_115 (show decode prog_1_method_61_code 78 = .ok (.iload_n 3, 1) by decide +kernel) rfl ?_
    obtain ⟨r13, I11, h12, k⟩ := k
    refine Ev_virt (as := [.int x3]) hq_115 (show decode prog_1_method_61_code 79 = .ok (.invokevirtual 302, 3) by decide +kernel) rfl hq_116 rfl (z_le rfl) ⟨(SGn hS (by decide)), (SGk hS rfl), by decide⟩ h12 ?_
    refine Ev_if_eq (tgt := 88) hq_115 (show decode prog_1_method_61_code 82 = .ok (.ifCond .eq 6, 3) by decide +kernel) (by decide) (fun c14 => ?_) (fun c14 => ?_)
    · have k := k.1 c14
      obtain ⟨y15, ey15⟩ : ∃ y15 : Int32, y15 = x6 + 1 := ⟨_, rfl⟩
      have k := k y15 ey15
      refine Ev_iinc (v := y15) (lo2 := [.ref 0, .int x1, .int x2, .int x3, .int x4, .int x5, .int y15]) hq_115 (show decode prog_1_method_61_code 88 = .ok (.iinc 6 1, 3) by decide +kernel) rfl (by rw [ey15]; rfl) rfl ?_
      refine Ev_goto (tgt := 63) hq_115 (show decode prog_1_method_61_code 91 = .ok (.goto (-28), 3) by decide +kernel) (by decide) ?_
      exact k
    · have k := k.2 c14
      obtain ⟨y16, ey16⟩ : ∃ y16 : Int32, y16 = x5 + 1 := ⟨_, rfl⟩
      have k := k y16 ey16
      refine Ev_iinc (v := y16) (lo2 := [.ref 0, .int x1, .int x2, .int x3, .int x4, .int y16, .int x6]) hq_115 (show decode prog_1_method_61_code 85 = .ok (.iinc 5 1, 3) by decide +kernel) rfl (by rw [ey16]; rfl) rfl ?_
      obtain ⟨y17, ey17⟩ : ∃ y17 : Int32, y17 = x6 + 1 := ⟨_, rfl⟩
      have k := k y17 ey17
      refine Ev_iinc (v := y17) (lo2 := [.ref 0, .int x1, .int x2, .int x3, .int x4, .int y16, .int y17]) hq_115 (show decode prog_1_method_61_code 88 = .ok (.iinc 6 1, 3) by decide +kernel) rfl (by rw [ey17]; rfl) rfl ?_
      refine Ev_goto (tgt := 63) hq_115 (show decode prog_1_method_61_code 91 = .ok (.goto (-28), 3) by decide +kernel) (by decide) ?_
      exact k
set_option maxRecDepth 20000 in
theorem wp_T_image {X : Nat × (Nat → Int32)} {d : Nat} {G : zG} {I : zI} {res : Option Value × zG × zI}  (hS : SG G) 
    (k : ∃ (I1 : zI), Cv X d 83 [.ref 17, .ref 1] G I (none, G, I1) ∧ ((∀ I3 : zI, I3 = z_up I1 0 3 1 → res = (some (.int (I3 1 7)), G, I3)))) :
    Ev X (d + 1) 118 0 [.ref 0] [] G I res := by
  refine Ev_aload_n hq_118 (show decode prog_1_method_64_code 0 = .ok (.aload_n 0, 1) by decide +kernel) rfl ?_
  refine Ev_getR hq_118 (show decode prog_1_method_64_code 1 = .ok (.getfield 19, 3) by decide +kernel) rfl (SGn hS (by decide)) (SGk hS rfl) (by decide) rfl (SGr hS rfl) ?_
  refine Ev_aload_n hq_118 (show decode prog_1_method_64_code 4 = .ok (.aload_n 0, 1) by decide +kernel) rfl ?_
  refine Ev_getR hq_118 (show decode prog_1_method_64_code 5 = .ok (.getfield 10, 3) by decide +kernel) rfl (SGn hS (by decide)) (SGk hS rfl) (by decide) rfl (SGr hS rfl) ?_
  obtain ⟨I1, h2, k⟩ := k
  refine Ev_virt (as := [.ref 1]) hq_118 (show decode prog_1_method_64_code 8 = .ok (.invokevirtual 230, 3) by decide +kernel) rfl hq_83 rfl (z_le rfl) ⟨(SGn hS (by decide)), (SGk hS rfl), by decide⟩ h2 ?_
  refine Ev_aload_n hq_118 (show decode prog_1_method_64_code 11 = .ok (.aload_n 0, 1) by decide +kernel) rfl ?_
  refine Ev_iconst (v := 1) hq_118 (show decode prog_1_method_64_code 12 = .ok (.iconst 1, 1) by decide +kernel) (by decide) ?_
  refine Ev_putI hq_118 (show decode prog_1_method_64_code 13 = .ok (.putfield 22, 3) by decide +kernel) rfl (SGn hS (by decide)) (SGk hS rfl) (by decide) (by decide) rfl (fun _ => by decide) ?_
  obtain ⟨I3, eI3⟩ : ∃ I3 : zI, I3 = z_up I1 0 3 1 := ⟨_, rfl⟩
  have k := k I3 eI3
  rw [← eI3]
  refine Ev_aload_n hq_118 (show decode prog_1_method_64_code 16 = .ok (.aload_n 0, 1) by decide +kernel) rfl ?_
  refine Ev_getR hq_118 (show decode prog_1_method_64_code 17 = .ok (.getfield 10, 3) by decide +kernel) rfl (SGn hS (by decide)) (SGk hS rfl) (by decide) rfl (SGr hS rfl) ?_
  refine Ev_getI hq_118 (show decode prog_1_method_64_code 20 = .ok (.getfield 100, 3) by decide +kernel) rfl (SGn hS (by decide)) (SGk hS rfl) (by decide) rfl ?_
  exact Ev_iret hq_118 (show decode prog_1_method_64_code 23 = .ok (.ireturn, 1) by decide +kernel) rfl k
set_option maxRecDepth 20000 in
theorem wp_T_back {X : Nat × (Nat → Int32)} {d : Nat} {G : zG} {I : zI} {res : Option Value × zG × zI}  (hS : SG G) 
    (k : (¬ (I 0 3) = 0 → ∃ (I2 : zI), Cv X d 83 [.ref 1, .ref 17] G I (none, G, I2) ∧ (res = (some (.int (I2 1 7)), G, I2))) ∧ ((I 0 3) = 0 → res = (some (.int (-3)), G, I))) :
    Ev X (d + 1) 119 0 [.ref 0] [] G I res := by
  refine Ev_aload_n hq_119 (show decode prog_1_method_65_code 0 = .ok (.aload_n 0, 1) by decide +kernel) rfl ?_
  refine Ev_getI hq_119 (show decode prog_1_method_65_code 1 = .ok (.getfield 22, 3) by decide +kernel) rfl (SGn hS (by decide)) (SGk hS rfl) (by decide) rfl ?_
  refine Ev_if_ne (tgt := 10) hq_119 (show decode prog_1_method_65_code 4 = .ok (.ifCond .ne 6, 3) by decide +kernel) (by decide) (fun c1 => ?_) (fun c1 => ?_)
  · have k := k.1 c1
    refine Ev_aload_n hq_119 (show decode prog_1_method_65_code 10 = .ok (.aload_n 0, 1) by decide +kernel) rfl ?_
    refine Ev_getR hq_119 (show decode prog_1_method_65_code 11 = .ok (.getfield 10, 3) by decide +kernel) rfl (SGn hS (by decide)) (SGk hS rfl) (by decide) rfl (SGr hS rfl) ?_
    refine Ev_aload_n hq_119 (show decode prog_1_method_65_code 14 = .ok (.aload_n 0, 1) by decide +kernel) rfl ?_
    refine Ev_getR hq_119 (show decode prog_1_method_65_code 15 = .ok (.getfield 19, 3) by decide +kernel) rfl (SGn hS (by decide)) (SGk hS rfl) (by decide) rfl (SGr hS rfl) ?_
    obtain ⟨I2, h3, k⟩ := k
    refine Ev_virt (as := [.ref 17]) hq_119 (show decode prog_1_method_65_code 18 = .ok (.invokevirtual 230, 3) by decide +kernel) rfl hq_83 rfl (z_le rfl) ⟨(SGn hS (by decide)), (SGk hS rfl), by decide⟩ h3 ?_
    refine Ev_aload_n hq_119 (show decode prog_1_method_65_code 21 = .ok (.aload_n 0, 1) by decide +kernel) rfl ?_
    refine Ev_getR hq_119 (show decode prog_1_method_65_code 22 = .ok (.getfield 10, 3) by decide +kernel) rfl (SGn hS (by decide)) (SGk hS rfl) (by decide) rfl (SGr hS rfl) ?_
    refine Ev_getI hq_119 (show decode prog_1_method_65_code 25 = .ok (.getfield 100, 3) by decide +kernel) rfl (SGn hS (by decide)) (SGk hS rfl) (by decide) rfl ?_
    exact Ev_iret hq_119 (show decode prog_1_method_65_code 28 = .ok (.ireturn, 1) by decide +kernel) rfl k
  · have k := k.2 (Classical.not_not.mp c1)
    refine Ev_bipush (v := (-3)) hq_119 (show decode prog_1_method_65_code 7 = .ok (.bipush (-3), 2) by decide +kernel) (by decide) ?_
    exact Ev_iret hq_119 (show decode prog_1_method_65_code 9 = .ok (.ireturn, 1) by decide +kernel) rfl k
set_option maxRecDepth 20000 in
theorem wp_T_sheet {X : Nat × (Nat → Int32)} {d : Nat} {G : zG} {I : zI} {res : Option Value × zG × zI} (x1 : Int32) (x2 : Int32) (x3 : Int32) (hd : 1 ≤ d) (hS : SG G) 
    (k : ((f_T_isSheet x1) = 0 → res = (some (.int (-2)), G, I)) ∧ (¬ (f_T_isSheet x1) = 0 → (¬ (f_T_within x2 (-1) 2) = 0 → (¬ x2 = (-1) → (x3 ≤ 40 → (0 ≤ x3 → z_inr x1 4 ∧ (∀ I7 : zI, I7 = z_up I 50 x1.toNatClampNeg x2 → z_inr x1 4 ∧ (∀ I9 : zI, I9 = z_up I7 51 x1.toNatClampNeg x3 → z_inr x1 4 ∧ (∃ (I12 : zI), Cv X d 36 [.ref (46 + x1.toNatClampNeg), .int 0] G I9 (none, G, I12) ∧ (res = (some (.int 1), G, I12)))))) ∧ (¬ 0 ≤ x3 → res = (some (.int (-14)), G, I))) ∧ (¬ x3 ≤ 40 → res = (some (.int (-2)), G, I))) ∧ (x2 = (-1) → z_inr x1 4 ∧ (∀ I15 : zI, I15 = z_up I 50 x1.toNatClampNeg (-1) → res = (some (.int 1), G, I15)))) ∧ ((f_T_within x2 (-1) 2) = 0 → res = (some (.int (-2)), G, I)))) :
    Ev X (d + 1) 120 0 [.ref 0, .int x1, .int x2, .int x3] [] G I res := by
  refine Ev_iload_n hq_120 (show decode prog_1_method_67_code 0 = .ok (.iload_n 1, 1) by decide +kernel) rfl ?_
  refine Ev_stat (as := [.int x1]) hq_120 (show decode prog_1_method_67_code 1 = .ok (.invokestatic 269, 3) by decide +kernel) rfl (Or.inl rfl) hq_102 rfl (z_le rfl) (c_T_isSheet (by omega) x1) ?_
  refine Ev_if_eq (tgt := 16) hq_120 (show decode prog_1_method_67_code 4 = .ok (.ifCond .eq 12, 3) by decide +kernel) (by decide) (fun c1 => ?_) (fun c1 => ?_)
  · have k := k.1 c1
    refine Ev_bipush (v := (-2)) hq_120 (show decode prog_1_method_67_code 16 = .ok (.bipush (-2), 2) by decide +kernel) (by decide) ?_
    exact Ev_iret hq_120 (show decode prog_1_method_67_code 18 = .ok (.ireturn, 1) by decide +kernel) rfl k
  · have k := k.2 c1
    refine Ev_iload_n hq_120 (show decode prog_1_method_67_code 7 = .ok (.iload_n 2, 1) by decide +kernel) rfl ?_
    refine Ev_iconst (v := (-1)) hq_120 (show decode prog_1_method_67_code 8 = .ok (.iconst (-1), 1) by decide +kernel) (by decide) ?_
    refine Ev_iconst (v := 2) hq_120 (show decode prog_1_method_67_code 9 = .ok (.iconst 2, 1) by decide +kernel) (by decide) ?_
    refine Ev_stat (as := [.int x2, .int (-1), .int 2]) hq_120 (show decode prog_1_method_67_code 10 = .ok (.invokestatic 108, 3) by decide +kernel) rfl (Or.inl rfl) hq_32 rfl (z_le rfl) (c_T_within x2 (-1) 2) ?_
    refine Ev_if_ne (tgt := 19) hq_120 (show decode prog_1_method_67_code 13 = .ok (.ifCond .ne 6, 3) by decide +kernel) (by decide) (fun c2 => ?_) (fun c2 => ?_)
    · have k := k.1 c2
      refine Ev_iload_n hq_120 (show decode prog_1_method_67_code 19 = .ok (.iload_n 2, 1) by decide +kernel) rfl ?_
      refine Ev_iconst (v := (-1)) hq_120 (show decode prog_1_method_67_code 20 = .ok (.iconst (-1), 1) by decide +kernel) (by decide) ?_
      refine Ev_icmp_ne (tgt := 33) hq_120 (show decode prog_1_method_67_code 21 = .ok (.if_icmp .ne 12, 3) by decide +kernel) (by decide) (fun c3 => ?_) (fun c3 => ?_)
      · have k := k.1 c3
        refine Ev_iload_n hq_120 (show decode prog_1_method_67_code 33 = .ok (.iload_n 3, 1) by decide +kernel) rfl ?_
        refine Ev_bipush (v := 40) hq_120 (show decode prog_1_method_67_code 34 = .ok (.bipush 40, 2) by decide +kernel) (by decide) ?_
        refine Ev_icmp_le (tgt := 42) hq_120 (show decode prog_1_method_67_code 36 = .ok (.if_icmp .le 6, 3) by decide +kernel) (by decide) (fun c4 => ?_) (fun c4 => ?_)
        · have k := k.1 c4
          refine Ev_iload_n hq_120 (show decode prog_1_method_67_code 42 = .ok (.iload_n 3, 1) by decide +kernel) rfl ?_
          refine Ev_if_ge (tgt := 49) hq_120 (show decode prog_1_method_67_code 43 = .ok (.ifCond .ge 6, 3) by decide +kernel) (by decide) (fun c5 => ?_) (fun c5 => ?_)
          · have k := k.1 c5
            refine Ev_aload_n hq_120 (show decode prog_1_method_67_code 49 = .ok (.aload_n 0, 1) by decide +kernel) rfl ?_
            refine Ev_getR hq_120 (show decode prog_1_method_67_code 50 = .ok (.getfield 62, 3) by decide +kernel) rfl (SGn hS (by decide)) (SGk hS rfl) (by decide) rfl (SGr hS rfl) ?_
            refine Ev_iload_n hq_120 (show decode prog_1_method_67_code 53 = .ok (.iload_n 1, 1) by decide +kernel) rfl ?_
            refine Ev_iload_n hq_120 (show decode prog_1_method_67_code 54 = .ok (.iload_n 2, 1) by decide +kernel) rfl ?_
            obtain ⟨h6, k⟩ := k
            refine Ev_iast hq_120 (show decode prog_1_method_67_code 55 = .ok (.iastore, 1) by decide +kernel) (SGn hS (by decide)) (SGk hS rfl) (SGi hS rfl h6) ?_
            obtain ⟨I7, eI7⟩ : ∃ I7 : zI, I7 = z_up I 50 x1.toNatClampNeg x2 := ⟨_, rfl⟩
            have k := k I7 eI7
            rw [← eI7]
            refine Ev_aload_n hq_120 (show decode prog_1_method_67_code 56 = .ok (.aload_n 0, 1) by decide +kernel) rfl ?_
            refine Ev_getR hq_120 (show decode prog_1_method_67_code 57 = .ok (.getfield 65, 3) by decide +kernel) rfl (SGn hS (by decide)) (SGk hS rfl) (by decide) rfl (SGr hS rfl) ?_
            refine Ev_iload_n hq_120 (show decode prog_1_method_67_code 60 = .ok (.iload_n 1, 1) by decide +kernel) rfl ?_
            refine Ev_iload_n hq_120 (show decode prog_1_method_67_code 61 = .ok (.iload_n 3, 1) by decide +kernel) rfl ?_
            obtain ⟨h8, k⟩ := k
            refine Ev_iast hq_120 (show decode prog_1_method_67_code 62 = .ok (.iastore, 1) by decide +kernel) (SGn hS (by decide)) (SGk hS rfl) (SGi hS rfl h8) ?_
            obtain ⟨I9, eI9⟩ : ∃ I9 : zI, I9 = z_up I7 51 x1.toNatClampNeg x3 := ⟨_, rfl⟩
            have k := k I9 eI9
            rw [← eI9]
            refine Ev_aload_n hq_120 (show decode prog_1_method_67_code 63 = .ok (.aload_n 0, 1) by decide +kernel) rfl ?_
            refine Ev_getR hq_120 (show decode prog_1_method_67_code 64 = .ok (.getfield 59, 3) by decide +kernel) rfl (SGn hS (by decide)) (SGk hS rfl) (by decide) rfl (SGr hS rfl) ?_
            refine Ev_iload_n hq_120 (show decode prog_1_method_67_code 67 = .ok (.iload_n 1, 1) by decide +kernel) rfl ?_
            obtain ⟨h10, k⟩ := k
            have r11 := SGrow hS (a := 45) (b := 46) (n := 40) (Or.inr (Or.inr ⟨rfl, rfl, rfl⟩)) h10.2
            refine Ev_aald hq_120 (show decode prog_1_method_67_code 68 = .ok (.aaload, 1) by decide +kernel) (SGn hS (by decide)) (Or.inr (SGk hS rfl)) (SGi hS rfl h10) r11.1 ?_
            refine Ev_iconst (v := 0) hq_120 (show decode prog_1_method_67_code 69 = .ok (.iconst 0, 1) by decide +kernel) (by decide) ?_
            obtain ⟨I12, h13, k⟩ := k
            refine Ev_stat (as := [.ref (46 + x1.toNatClampNeg), .int 0]) hq_120 (show decode prog_1_method_67_code 70 = .ok (.invokestatic 94, 3) by decide +kernel) rfl (Or.inl rfl) hq_36 rfl (z_le rfl) h13 ?_
            refine Ev_iconst (v := 1) hq_120 (show decode prog_1_method_67_code 73 = .ok (.iconst 1, 1) by decide +kernel) (by decide) ?_
            exact Ev_iret hq_120 (show decode prog_1_method_67_code 74 = .ok (.ireturn, 1) by decide +kernel) rfl k
          · have k := k.2 c5
            refine Ev_bipush (v := (-14)) hq_120 (show decode prog_1_method_67_code 46 = .ok (.bipush (-14), 2) by decide +kernel) (by decide) ?_
            exact Ev_iret hq_120 (show decode prog_1_method_67_code 48 = .ok (.ireturn, 1) by decide +kernel) rfl k
        · have k := k.2 c4
          refine Ev_bipush (v := (-2)) hq_120 (show decode prog_1_method_67_code 39 = .ok (.bipush (-2), 2) by decide +kernel) (by decide) ?_
          exact Ev_iret hq_120 (show decode prog_1_method_67_code 41 = .ok (.ireturn, 1) by decide +kernel) rfl k
      · have k := k.2 (Classical.not_not.mp c3)
        refine Ev_aload_n hq_120 (show decode prog_1_method_67_code 24 = .ok (.aload_n 0, 1) by decide +kernel) rfl ?_
        refine Ev_getR hq_120 (show decode prog_1_method_67_code 25 = .ok (.getfield 62, 3) by decide +kernel) rfl (SGn hS (by decide)) (SGk hS rfl) (by decide) rfl (SGr hS rfl) ?_
        refine Ev_iload_n hq_120 (show decode prog_1_method_67_code 28 = .ok (.iload_n 1, 1) by decide +kernel) rfl ?_
        refine Ev_iconst (v := (-1)) hq_120 (show decode prog_1_method_67_code 29 = .ok (.iconst (-1), 1) by decide +kernel) (by decide) ?_
        obtain ⟨h14, k⟩ := k
        refine Ev_iast hq_120 (show decode prog_1_method_67_code 30 = .ok (.iastore, 1) by decide +kernel) (SGn hS (by decide)) (SGk hS rfl) (SGi hS rfl h14) ?_
        obtain ⟨I15, eI15⟩ : ∃ I15 : zI, I15 = z_up I 50 x1.toNatClampNeg (-1) := ⟨_, rfl⟩
        have k := k I15 eI15
        rw [← eI15]
        refine Ev_iconst (v := 1) hq_120 (show decode prog_1_method_67_code 31 = .ok (.iconst 1, 1) by decide +kernel) (by decide) ?_
        exact Ev_iret hq_120 (show decode prog_1_method_67_code 32 = .ok (.ireturn, 1) by decide +kernel) rfl k
    · have k := k.2 (Classical.not_not.mp c2)
      refine Ev_bipush (v := (-2)) hq_120 (show decode prog_1_method_67_code 16 = .ok (.bipush (-2), 2) by decide +kernel) (by decide) ?_
      exact Ev_iret hq_120 (show decode prog_1_method_67_code 18 = .ok (.ireturn, 1) by decide +kernel) rfl k
set_option maxRecDepth 20000 in
theorem wp_T_asOfSort {X : Nat × (Nat → Int32)} {d : Nat} {G : zG} {I : zI} {res : Option Value × zG × zI} (x0 : Int32) (x1 : Int32) 
    (k : (x0 = 0 → res = (some (.int (x1.toInt8.toInt32)), G, I)) ∧ (¬ x0 = 0 → (x0 = 1 → res = (some (.int (x1.toInt16.toInt32)), G, I)) ∧ (¬ x0 = 1 → res = (some (.int x1), G, I)))) :
    Ev X d 122 0 [.int x0, .int x1] [] G I res := by
  refine Ev_iload_n hq_122 (show decode prog_1_method_69_code 0 = .ok (.iload_n 0, 1) by decide +kernel) rfl ?_
  by_cases c1 : x0 = 0
  · have k := k.1 c1
    refine Ev_lookup (off := 27) (tgt := 28) hq_122 (show decode prog_1_method_69_code 1 = .ok (.lookupswitch 33 #[(0, 27), (1, 30)], 27) by decide +kernel) (by decide) (by rw [c1]; decide) (by decide) ?_
    refine Ev_iload_n hq_122 (show decode prog_1_method_69_code 28 = .ok (.iload_n 1, 1) by decide +kernel) rfl ?_
    refine Ev_i2b hq_122 (show decode prog_1_method_69_code 29 = .ok (.i2b, 1) by decide +kernel) ?_
    exact Ev_iret hq_122 (show decode prog_1_method_69_code 30 = .ok (.ireturn, 1) by decide +kernel) rfl k
  have k := k.2 c1
  by_cases c2 : x0 = 1
  · have k := k.1 c2
    refine Ev_lookup (off := 30) (tgt := 31) hq_122 (show decode prog_1_method_69_code 1 = .ok (.lookupswitch 33 #[(0, 27), (1, 30)], 27) by decide +kernel) (by decide) (by rw [c2]; decide) (by decide) ?_
    refine Ev_iload_n hq_122 (show decode prog_1_method_69_code 31 = .ok (.iload_n 1, 1) by decide +kernel) rfl ?_
    refine Ev_i2s hq_122 (show decode prog_1_method_69_code 32 = .ok (.i2s, 1) by decide +kernel) ?_
    exact Ev_iret hq_122 (show decode prog_1_method_69_code 33 = .ok (.ireturn, 1) by decide +kernel) rfl k
  have k := k.2 c2
  have ec1 : (x0).toInt ≠ 0 := z_ne (k := 0) c1
  have ec2 : (x0).toInt ≠ 1 := z_ne (k := 1) c2
  refine Ev_lookup (off := 33) (tgt := 34) hq_122 (show decode prog_1_method_69_code 1 = .ok (.lookupswitch 33 #[(0, 27), (1, 30)], 27) by decide +kernel) (by decide) (by simp [Op.lookupswitch.offset, List.find?, ec1, ec2, Ne.symm ec1, Ne.symm ec2]) (by decide) ?_
  refine Ev_iload_n hq_122 (show decode prog_1_method_69_code 34 = .ok (.iload_n 1, 1) by decide +kernel) rfl ?_
  exact Ev_iret hq_122 (show decode prog_1_method_69_code 35 = .ok (.ireturn, 1) by decide +kernel) rfl k
def f_T_asOfSort (x0 x1 : Int32) : Int32 := (if x0 = 0 then (x1.toInt8.toInt32) else (if x0 = 1 then (x1.toInt16.toInt32) else x1))
theorem c_T_asOfSort {X : Nat × (Nat → Int32)} {d : Nat} {G : zG} {I : zI} (x0 x1 : Int32) : Cv X d 122 [.int x0, .int x1] G I (some (.int (f_T_asOfSort x0 x1)), G, I) := by
  exact Cv.of hq_122 (z_le rfl) rfl (wp_T_asOfSort x0 x1 ⟨fun h0 => (by simp only [f_T_asOfSort]; rw [if_pos h0]), fun h0 => ⟨fun h1 => (by simp only [f_T_asOfSort]; rw [if_neg h0]; rw [if_pos h1]), fun h1 => (by simp only [f_T_asOfSort]; rw [if_neg h0]; rw [if_neg h1])⟩⟩)
set_option maxRecDepth 20000 in
theorem wp_T_cell {X : Nat × (Nat → Int32)} {d : Nat} {G : zG} {I : zI} {res : Option Value × zG × zI} (x1 : Int32) (x2 : Int32) (x3 : Int32) (hd : 1 ≤ d) (hS : SG G) 
    (k : (¬ (f_T_isSheet x1) = 0 → z_inr x1 4 ∧ ((¬ (I 50 x1.toNatClampNeg) = (-1) → z_inr x1 4 ∧ ((¬ (f_T_within x2 0 ((I 51 x1.toNatClampNeg) - 1)) = 0 → z_inr x1 4 ∧ (z_inr x1 4 ∧ (z_inr x2 40 ∧ (∀ I10 : zI, I10 = z_up I (46 + x1.toNatClampNeg) x2.toNatClampNeg (f_T_asOfSort (I 50 x1.toNatClampNeg) x3) → res = (some (.int 1), G, I10))))) ∧ ((f_T_within x2 0 ((I 51 x1.toNatClampNeg) - 1)) = 0 → res = (some (.int (-12)), G, I)))) ∧ ((I 50 x1.toNatClampNeg) = (-1) → res = (some (.int (-11)), G, I)))) ∧ ((f_T_isSheet x1) = 0 → res = (some (.int (-2)), G, I))) :
    Ev X (d + 1) 121 0 [.ref 0, .int x1, .int x2, .int x3] [] G I res := by
  refine Ev_iload_n hq_121 (show decode prog_1_method_68_code 0 = .ok (.iload_n 1, 1) by decide +kernel) rfl ?_
  refine Ev_stat (as := [.int x1]) hq_121 (show decode prog_1_method_68_code 1 = .ok (.invokestatic 269, 3) by decide +kernel) rfl (Or.inl rfl) hq_102 rfl (z_le rfl) (c_T_isSheet (by omega) x1) ?_
  refine Ev_if_ne (tgt := 10) hq_121 (show decode prog_1_method_68_code 4 = .ok (.ifCond .ne 6, 3) by decide +kernel) (by decide) (fun c1 => ?_) (fun c1 => ?_)
  · have k := k.1 c1
    refine Ev_aload_n hq_121 (show decode prog_1_method_68_code 10 = .ok (.aload_n 0, 1) by decide +kernel) rfl ?_
    refine Ev_getR hq_121 (show decode prog_1_method_68_code 11 = .ok (.getfield 62, 3) by decide +kernel) rfl (SGn hS (by decide)) (SGk hS rfl) (by decide) rfl (SGr hS rfl) ?_
    refine Ev_iload_n hq_121 (show decode prog_1_method_68_code 14 = .ok (.iload_n 1, 1) by decide +kernel) rfl ?_
    obtain ⟨h2, k⟩ := k
    refine Ev_iald hq_121 (show decode prog_1_method_68_code 15 = .ok (.iaload, 1) by decide +kernel) (SGn hS (by decide)) (SGk hS rfl) (SGi hS rfl h2) ?_
    refine Ev_iconst (v := (-1)) hq_121 (show decode prog_1_method_68_code 16 = .ok (.iconst (-1), 1) by decide +kernel) (by decide) ?_
    refine Ev_icmp_ne (tgt := 23) hq_121 (show decode prog_1_method_68_code 17 = .ok (.if_icmp .ne 6, 3) by decide +kernel) (by decide) (fun c3 => ?_) (fun c3 => ?_)
    · have k := k.1 c3
      refine Ev_iload_n hq_121 (show decode prog_1_method_68_code 23 = .ok (.iload_n 2, 1) by decide +kernel) rfl ?_
      refine Ev_iconst (v := 0) hq_121 (show decode prog_1_method_68_code 24 = .ok (.iconst 0, 1) by decide +kernel) (by decide) ?_
      refine Ev_aload_n hq_121 (show decode prog_1_method_68_code 25 = .ok (.aload_n 0, 1) by decide +kernel) rfl ?_
      refine Ev_getR hq_121 (show decode prog_1_method_68_code 26 = .ok (.getfield 65, 3) by decide +kernel) rfl (SGn hS (by decide)) (SGk hS rfl) (by decide) rfl (SGr hS rfl) ?_
      refine Ev_iload_n hq_121 (show decode prog_1_method_68_code 29 = .ok (.iload_n 1, 1) by decide +kernel) rfl ?_
      obtain ⟨h4, k⟩ := k
      refine Ev_iald hq_121 (show decode prog_1_method_68_code 30 = .ok (.iaload, 1) by decide +kernel) (SGn hS (by decide)) (SGk hS rfl) (SGi hS rfl h4) ?_
      refine Ev_iconst (v := 1) hq_121 (show decode prog_1_method_68_code 31 = .ok (.iconst 1, 1) by decide +kernel) (by decide) ?_
      refine Ev_isub hq_121 (show decode prog_1_method_68_code 32 = .ok (.isub, 1) by decide +kernel) ?_
      refine Ev_stat (as := [.int x2, .int 0, .int ((I 51 x1.toNatClampNeg) - 1)]) hq_121 (show decode prog_1_method_68_code 33 = .ok (.invokestatic 108, 3) by decide +kernel) rfl (Or.inl rfl) hq_32 rfl (z_le rfl) (c_T_within x2 0 ((I 51 x1.toNatClampNeg) - 1)) ?_
      refine Ev_if_ne (tgt := 42) hq_121 (show decode prog_1_method_68_code 36 = .ok (.ifCond .ne 6, 3) by decide +kernel) (by decide) (fun c5 => ?_) (fun c5 => ?_)
      · have k := k.1 c5
        refine Ev_aload_n hq_121 (show decode prog_1_method_68_code 42 = .ok (.aload_n 0, 1) by decide +kernel) rfl ?_
        refine Ev_getR hq_121 (show decode prog_1_method_68_code 43 = .ok (.getfield 59, 3) by decide +kernel) rfl (SGn hS (by decide)) (SGk hS rfl) (by decide) rfl (SGr hS rfl) ?_
        refine Ev_iload_n hq_121 (show decode prog_1_method_68_code 46 = .ok (.iload_n 1, 1) by decide +kernel) rfl ?_
        obtain ⟨h6, k⟩ := k
        have r7 := SGrow hS (a := 45) (b := 46) (n := 40) (Or.inr (Or.inr ⟨rfl, rfl, rfl⟩)) h6.2
        refine Ev_aald hq_121 (show decode prog_1_method_68_code 47 = .ok (.aaload, 1) by decide +kernel) (SGn hS (by decide)) (Or.inr (SGk hS rfl)) (SGi hS rfl h6) r7.1 ?_
        refine Ev_iload_n hq_121 (show decode prog_1_method_68_code 48 = .ok (.iload_n 2, 1) by decide +kernel) rfl ?_
        refine Ev_aload_n hq_121 (show decode prog_1_method_68_code 49 = .ok (.aload_n 0, 1) by decide +kernel) rfl ?_
        refine Ev_getR hq_121 (show decode prog_1_method_68_code 50 = .ok (.getfield 62, 3) by decide +kernel) rfl (SGn hS (by decide)) (SGk hS rfl) (by decide) rfl (SGr hS rfl) ?_
        refine Ev_iload_n hq_121 (show decode prog_1_method_68_code 53 = .ok (.iload_n 1, 1) by decide +kernel) rfl ?_
        obtain ⟨h8, k⟩ := k
        refine Ev_iald hq_121 (show decode prog_1_method_68_code 54 = .ok (.iaload, 1) by decide +kernel) (SGn hS (by decide)) (SGk hS rfl) (SGi hS rfl h8) ?_
        refine Ev_iload_n hq_121 (show decode prog_1_method_68_code 55 = .ok (.iload_n 3, 1) by decide +kernel) rfl ?_
        refine Ev_stat (as := [.int (I 50 x1.toNatClampNeg), .int x3]) hq_121 (show decode prog_1_method_68_code 56 = .ok (.invokestatic 308, 3) by decide +kernel) rfl (Or.inl rfl) hq_122 rfl (z_le rfl) (c_T_asOfSort (I 50 x1.toNatClampNeg) x3) ?_
        obtain ⟨h9, k⟩ := k
        refine Ev_iast hq_121 (show decode prog_1_method_68_code 59 = .ok (.iastore, 1) by decide +kernel) r7.2.1 r7.2.2.1 (by rw [r7.2.2.2]; exact h9) ?_
        obtain ⟨I10, eI10⟩ : ∃ I10 : zI, I10 = z_up I (46 + x1.toNatClampNeg) x2.toNatClampNeg (f_T_asOfSort (I 50 x1.toNatClampNeg) x3) := ⟨_, rfl⟩
        have k := k I10 eI10
        rw [← eI10]
        refine Ev_iconst (v := 1) hq_121 (show decode prog_1_method_68_code 60 = .ok (.iconst 1, 1) by decide +kernel) (by decide) ?_
        exact Ev_iret hq_121 (show decode prog_1_method_68_code 61 = .ok (.ireturn, 1) by decide +kernel) rfl k
      · have k := k.2 (Classical.not_not.mp c5)
        refine Ev_bipush (v := (-12)) hq_121 (show decode prog_1_method_68_code 39 = .ok (.bipush (-12), 2) by decide +kernel) (by decide) ?_
        exact Ev_iret hq_121 (show decode prog_1_method_68_code 41 = .ok (.ireturn, 1) by decide +kernel) rfl k
    · have k := k.2 (Classical.not_not.mp c3)
      refine Ev_bipush (v := (-11)) hq_121 (show decode prog_1_method_68_code 20 = .ok (.bipush (-11), 2) by decide +kernel) (by decide) ?_
      exact Ev_iret hq_121 (show decode prog_1_method_68_code 22 = .ok (.ireturn, 1) by decide +kernel) rfl k
  · have k := k.2 (Classical.not_not.mp c1)
    refine Ev_bipush (v := (-2)) hq_121 (show decode prog_1_method_68_code 7 = .ok (.bipush (-2), 2) by decide +kernel) (by decide) ?_
    exact Ev_iret hq_121 (show decode prog_1_method_68_code 9 = .ok (.ireturn, 1) by decide +kernel) rfl k
set_option maxRecDepth 20000 in
theorem wp_T_isStretch {X : Nat × (Nat → Int32)} {d : Nat} {G : zG} {I : zI} {res : Option Value × zG × zI} (x1 : Int32) (x2 : Int32) (x3 : Int32) (hS : SG G) 
    (k : z_inr x1 4 ∧ (((f_T_within x3 0 (I 51 x1.toNatClampNeg)) = 0 → res = (some (.int 0), G, I)) ∧ (¬ (f_T_within x3 0 (I 51 x1.toNatClampNeg)) = 0 → z_inr x1 4 ∧ (((f_T_within x2 0 ((I 51 x1.toNatClampNeg) - x3)) = 0 → res = (some (.int 0), G, I)) ∧ (¬ (f_T_within x2 0 ((I 51 x1.toNatClampNeg) - x3)) = 0 → res = (some (.int 1), G, I)))))) :
    Ev X (d + 1) 124 0 [.ref 0, .int x1, .int x2, .int x3] [] G I res := by
  refine Ev_iload_n hq_124 (show decode prog_1_method_71_code 0 = .ok (.iload_n 3, 1) by decide +kernel) rfl ?_
  refine Ev_iconst (v := 0) hq_124 (show decode prog_1_method_71_code 1 = .ok (.iconst 0, 1) by decide +kernel) (by decide) ?_
  refine Ev_aload_n hq_124 (show decode prog_1_method_71_code 2 = .ok (.aload_n 0, 1) by decide +kernel) rfl ?_
  refine Ev_getR hq_124 (show decode prog_1_method_71_code 3 = .ok (.getfield 65, 3) by decide +kernel) rfl (SGn hS (by decide)) (SGk hS rfl) (by decide) rfl (SGr hS rfl) ?_
  refine Ev_iload_n hq_124 (show decode prog_1_method_71_code 6 = .ok (.iload_n 1, 1) by decide +kernel) rfl ?_
  obtain ⟨h1, k⟩ := k
  refine Ev_iald hq_124 (show decode prog_1_method_71_code 7 = .ok (.iaload, 1) by decide +kernel) (SGn hS (by decide)) (SGk hS rfl) (SGi hS rfl h1) ?_
  refine Ev_stat (as := [.int x3, .int 0, .int (I 51 x1.toNatClampNeg)]) hq_124 (show decode prog_1_method_71_code 8 = .ok (.invokestatic 108, 3) by decide +kernel) rfl (Or.inl rfl) hq_32 rfl (z_le rfl) (c_T_within x3 0 (I 51 x1.toNatClampNeg)) ?_
  refine Ev_if_eq (tgt := 34) hq_124 (show decode prog_1_method_71_code 11 = .ok (.ifCond .eq 23, 3) by decide +kernel) (by decide) (fun c2 => ?_) (fun c2 => ?_)
  · have k := k.1 c2
    refine Ev_iconst (v := 0) hq_124 (show decode prog_1_method_71_code 34 = .ok (.iconst 0, 1) by decide +kernel) (by decide) ?_
    exact Ev_iret hq_124 (show decode prog_1_method_71_code 35 = .ok (.ireturn, 1) by decide +kernel) rfl k
  · have k := k.2 c2
    refine Ev_iload_n hq_124 (show decode prog_1_method_71_code 14 = .ok (.iload_n 2, 1) by decide +kernel) rfl ?_
    refine Ev_iconst (v := 0) hq_124 (show decode prog_1_method_71_code 15 = .ok (.iconst 0, 1) by decide +kernel) (by decide) ?_
    refine Ev_aload_n hq_124 (show decode prog_1_method_71_code 16 = .ok (.aload_n 0, 1) by decide +kernel) rfl ?_
    refine Ev_getR hq_124 (show decode prog_1_method_71_code 17 = .ok (.getfield 65, 3) by decide +kernel) rfl (SGn hS (by decide)) (SGk hS rfl) (by decide) rfl (SGr hS rfl) ?_
    refine Ev_iload_n hq_124 (show decode prog_1_method_71_code 20 = .ok (.iload_n 1, 1) by decide +kernel) rfl ?_
    obtain ⟨h3, k⟩ := k
    refine Ev_iald hq_124 (show decode prog_1_method_71_code 21 = .ok (.iaload, 1) by decide +kernel) (SGn hS (by decide)) (SGk hS rfl) (SGi hS rfl h3) ?_
    refine Ev_iload_n hq_124 (show decode prog_1_method_71_code 22 = .ok (.iload_n 3, 1) by decide +kernel) rfl ?_
    refine Ev_isub hq_124 (show decode prog_1_method_71_code 23 = .ok (.isub, 1) by decide +kernel) ?_
    refine Ev_stat (as := [.int x2, .int 0, .int ((I 51 x1.toNatClampNeg) - x3)]) hq_124 (show decode prog_1_method_71_code 24 = .ok (.invokestatic 108, 3) by decide +kernel) rfl (Or.inl rfl) hq_32 rfl (z_le rfl) (c_T_within x2 0 ((I 51 x1.toNatClampNeg) - x3)) ?_
    refine Ev_if_eq (tgt := 34) hq_124 (show decode prog_1_method_71_code 27 = .ok (.ifCond .eq 7, 3) by decide +kernel) (by decide) (fun c4 => ?_) (fun c4 => ?_)
    · have k := k.1 c4
      refine Ev_iconst (v := 0) hq_124 (show decode prog_1_method_71_code 34 = .ok (.iconst 0, 1) by decide +kernel) (by decide) ?_
      exact Ev_iret hq_124 (show decode prog_1_method_71_code 35 = .ok (.ireturn, 1) by decide +kernel) rfl k
    · have k := k.2 c4
      refine Ev_iconst (v := 1) hq_124 (show decode prog_1_method_71_code 30 = .ok (.iconst 1, 1) by decide +kernel) (by decide) ?_
      refine Ev_goto (tgt := 35) hq_124 (show decode prog_1_method_71_code 31 = .ok (.goto 4, 3) by decide +kernel) (by decide) ?_
      exact Ev_iret hq_124 (show decode prog_1_method_71_code 35 = .ok (.ireturn, 1) by decide +kernel) rfl k
set_option maxRecDepth 20000 in
theorem wp_T_copy {X : Nat × (Nat → Int32)} {d : Nat} {G : zG} {I : zI} {res : Option Value × zG × zI} (x1 : Int32) (x2 : Int32) (x3 : Int32) (x4 : Int32) (x5 : Int32) (hd : 1 ≤ d) (hS : SG G) 
    (k : ((f_T_isSheet x1) = 0 → res = (some (.int (-2)), G, I)) ∧ (¬ (f_T_isSheet x1) = 0 → (¬ (f_T_isSheet x3) = 0 → z_inr x1 4 ∧ (((I 50 x1.toNatClampNeg) = (-1) → res = (some (.int (-11)), G, I)) ∧ (¬ (I 50 x1.toNatClampNeg) = (-1) → z_inr x3 4 ∧ ((¬ (I 50 x3.toNatClampNeg) = (-1) → z_inr x1 4 ∧ (z_inr x3 4 ∧ (((I 50 x1.toNatClampNeg) = (I 50 x3.toNatClampNeg) → ∃ (r12 : Int32) (I10 : zI), Cv X d 124 [.ref 0, .int x1, .int x2, .int x5] G I (some (.int r12), G, I10) ∧ ((r12 = 0 → res = (some (.int (-12)), G, I10)) ∧ (¬ r12 = 0 → ∃ (r16 : Int32) (I14 : zI), Cv X d 124 [.ref 0, .int x3, .int x4, .int x5] G I10 (some (.int r16), G, I14) ∧ ((¬ r16 = 0 → z_inr x1 4 ∧ (z_inr x3 4 ∧ ((0 ≤ (x2 : Int32) ∧ 0 ≤ (x4 : Int32) ∧ 0 ≤ (x5 : Int32) ∧ (x2 : Int32).toNatClampNeg + (x5 : Int32).toNatClampNeg ≤ zl G (46 + x1.toNatClampNeg) ∧ (x4 : Int32).toNatClampNeg + (x5 : Int32).toNatClampNeg ≤ zl G (46 + x3.toNatClampNeg)) ∧ (∀ I23 : zI, I23 = va_up I14 (46 + x3.toNatClampNeg) (va_cpy (I14 (46 + x1.toNatClampNeg)) (I14 (46 + x3.toNatClampNeg)) (x2 : Int32).toNatClampNeg (x4 : Int32).toNatClampNeg (x5 : Int32).toNatClampNeg) → res = (some (.int x5), G, I23))))) ∧ (r16 = 0 → res = (some (.int (-12)), G, I14)))))) ∧ (¬ (I 50 x1.toNatClampNeg) = (I 50 x3.toNatClampNeg) → res = (some (.int (-13)), G, I))))) ∧ ((I 50 x3.toNatClampNeg) = (-1) → res = (some (.int (-11)), G, I)))))) ∧ ((f_T_isSheet x3) = 0 → res = (some (.int (-2)), G, I)))) :
    Ev X (d + 1) 123 0 [.ref 0, .int x1, .int x2, .int x3, .int x4, .int x5] [] G I res := by
  refine Ev_iload_n hq_123 (show decode prog_1_method_70_code 0 = .ok (.iload_n 1, 1) by decide +kernel) rfl ?_
  refine Ev_stat (as := [.int x1]) hq_123 (show decode prog_1_method_70_code 1 = .ok (.invokestatic 269, 3) by decide +kernel) rfl (Or.inl rfl) hq_102 rfl (z_le rfl) (c_T_isSheet (by omega) x1) ?_
  refine Ev_if_eq (tgt := 14) hq_123 (show decode prog_1_method_70_code 4 = .ok (.ifCond .eq 10, 3) by decide +kernel) (by decide) (fun c1 => ?_) (fun c1 => ?_)
  · have k := k.1 c1
    refine Ev_bipush (v := (-2)) hq_123 (show decode prog_1_method_70_code 14 = .ok (.bipush (-2), 2) by decide +kernel) (by decide) ?_
    exact Ev_iret hq_123 (show decode prog_1_method_70_code 16 = .ok (.ireturn, 1) by decide +kernel) rfl k
  · have k := k.2 c1
    refine Ev_iload_n hq_123 (show decode prog_1_method_70_code 7 = .ok (.iload_n 3, 1) by decide +kernel) rfl ?_
    refine Ev_stat (as := [.int x3]) hq_123 (show decode prog_1_method_70_code 8 = .ok (.invokestatic 269, 3) by decide +kernel) rfl (Or.inl rfl) hq_102 rfl (z_le rfl) (c_T_isSheet (by omega) x3) ?_
    refine Ev_if_ne (tgt := 17) hq_123 (show decode prog_1_method_70_code 11 = .ok (.ifCond .ne 6, 3) by decide +kernel) (by decide) (fun c2 => ?_) (fun c2 => ?_)
    · have k := k.1 c2
      refine Ev_aload_n hq_123 (show decode prog_1_method_70_code 17 = .ok (.aload_n 0, 1) by decide +kernel) rfl ?_
      refine Ev_getR hq_123 (show decode prog_1_method_70_code 18 = .ok (.getfield 62, 3) by decide +kernel) rfl (SGn hS (by decide)) (SGk hS rfl) (by decide) rfl (SGr hS rfl) ?_
      refine Ev_iload_n hq_123 (show decode prog_1_method_70_code 21 = .ok (.iload_n 1, 1) by decide +kernel) rfl ?_
      obtain ⟨h3, k⟩ := k
      refine Ev_iald hq_123 (show decode prog_1_method_70_code 22 = .ok (.iaload, 1) by decide +kernel) (SGn hS (by decide)) (SGk hS rfl) (SGi hS rfl h3) ?_
      refine Ev_iconst (v := (-1)) hq_123 (show decode prog_1_method_70_code 23 = .ok (.iconst (-1), 1) by decide +kernel) (by decide) ?_
      refine Ev_icmp_eq (tgt := 37) hq_123 (show decode prog_1_method_70_code 24 = .ok (.if_icmp .eq 13, 3) by decide +kernel) (by decide) (fun c4 => ?_) (fun c4 => ?_)
      · have k := k.1 c4
        refine Ev_bipush (v := (-11)) hq_123 (show decode prog_1_method_70_code 37 = .ok (.bipush (-11), 2) by decide +kernel) (by decide) ?_
        exact Ev_iret hq_123 (show decode prog_1_method_70_code 39 = .ok (.ireturn, 1) by decide +kernel) rfl k
      · have k := k.2 c4
        refine Ev_aload_n hq_123 (show decode prog_1_method_70_code 27 = .ok (.aload_n 0, 1) by decide +kernel) rfl ?_
        refine Ev_getR hq_123 (show decode prog_1_method_70_code 28 = .ok (.getfield 62, 3) by decide +kernel) rfl (SGn hS (by decide)) (SGk hS rfl) (by decide) rfl (SGr hS rfl) ?_
        refine Ev_iload_n hq_123 (show decode prog_1_method_70_code 31 = .ok (.iload_n 3, 1) by decide +kernel) rfl ?_
        obtain ⟨h5, k⟩ := k
        refine Ev_iald hq_123 (show decode prog_1_method_70_code 32 = .ok (.iaload, 1) by decide +kernel) (SGn hS (by decide)) (SGk hS rfl) (SGi hS rfl h5) ?_
        refine Ev_iconst (v := (-1)) hq_123 (show decode prog_1_method_70_code 33 = .ok (.iconst (-1), 1) by decide +kernel) (by decide) ?_
        refine Ev_icmp_ne (tgt := 40) hq_123 (show decode prog_1_method_70_code 34 = .ok (.if_icmp .ne 6, 3) by decide +kernel) (by decide) (fun c6 => ?_) (fun c6 => ?_)
        · have k := k.1 c6
          refine Ev_aload_n hq_123 (show decode prog_1_method_70_code 40 = .ok (.aload_n 0, 1) by decide +kernel) rfl ?_
          refine Ev_getR hq_123 (show decode prog_1_method_70_code 41 = .ok (.getfield 62, 3) by decide +kernel) rfl (SGn hS (by decide)) (SGk hS rfl) (by decide) rfl (SGr hS rfl) ?_
          refine Ev_iload_n hq_123 (show decode prog_1_method_70_code 44 = .ok (.iload_n 1, 1) by decide +kernel) rfl ?_
          obtain ⟨h7, k⟩ := k
          refine Ev_iald hq_123 (show decode prog_1_method_70_code 45 = .ok (.iaload, 1) by decide +kernel) (SGn hS (by decide)) (SGk hS rfl) (SGi hS rfl h7) ?_
          refine Ev_aload_n hq_123 (show decode prog_1_method_70_code 46 = .ok (.aload_n 0, 1) by decide +kernel) rfl ?_
          refine Ev_getR hq_123 (show decode prog_1_method_70_code 47 = .ok (.getfield 62, 3) by decide +kernel) rfl (SGn hS (by decide)) (SGk hS rfl) (by decide) rfl (SGr hS rfl) ?_
          refine Ev_iload_n hq_123 (show decode prog_1_method_70_code 50 = .ok (.iload_n 3, 1) by decide +kernel) rfl ?_
          obtain ⟨h8, k⟩ := k
          refine Ev_iald hq_123 (show decode prog_1_method_70_code 51 = .ok (.iaload, 1) by decide +kernel) (SGn hS (by decide)) (SGk hS rfl) (SGi hS rfl h8) ?_
          refine Ev_icmp_eq (tgt := 58) hq_123 (show decode prog_1_method_70_code 52 = .ok (.if_icmp .eq 6, 3) by decide +kernel) (by decide) (fun c9 => ?_) (fun c9 => ?_)
          · have k := k.1 c9
            refine Ev_aload_n hq_123 (show decode prog_1_method_70_code 58 = .ok (.aload_n 0, 1) by decide +kernel) rfl ?_
            refine Ev_iload_n hq_123 (show decode prog_1_method_70_code 59 = .ok (.iload_n 1, 1) by decide +kernel) rfl ?_
            refine Ev_iload_n hq_123 (show decode prog_1_method_70_code 60 = .ok (.iload_n 2, 1) by decide +kernel) rfl ?_
            refine Ev_iload hq_123 (show decode prog_1_method_70_code 61 = .ok (.iload 5, 2) by decide +kernel) rfl ?_
            obtain ⟨r12, I10, h11, k⟩ := k
            refine Ev_virt (as := [.int x1, .int x2, .int x5]) hq_123 (show decode prog_1_method_70_code 63 = .ok (.invokevirtual 311, 3) by decide +kernel) rfl hq_124 rfl (z_le rfl) ⟨(SGn hS (by decide)), (SGk hS rfl), by decide⟩ h11 ?_
            refine Ev_if_eq (tgt := 81) hq_123 (show decode prog_1_method_70_code 66 = .ok (.ifCond .eq 15, 3) by decide +kernel) (by decide) (fun c13 => ?_) (fun c13 => ?_)
            · have k := k.1 c13
              refine Ev_bipush (v := (-12)) hq_123 (show decode prog_1_method_70_code 81 = .ok (.bipush (-12), 2) by decide +kernel) (by decide) ?_
              exact Ev_iret hq_123 (show decode prog_1_method_70_code 83 = .ok (.ireturn, 1) by decide +kernel) rfl k
            · have k := k.2 c13
              refine Ev_aload_n hq_123 (show decode prog_1_method_70_code 69 = .ok (.aload_n 0, 1) by decide +kernel) rfl ?_
              refine Ev_iload_n hq_123 (show decode prog_1_method_70_code 70 = .ok (.iload_n 3, 1) by decide +kernel) rfl ?_
              refine Ev_iload hq_123 (show decode prog_1_method_70_code 71 = .ok (.iload 4, 2) by decide +kernel) rfl ?_
              refine Ev_iload hq_123 (show decode prog_1_method_70_code 73 = .ok (.iload 5, 2) by decide +kernel) rfl ?_
              obtain ⟨r16, I14, h15, k⟩ := k
              refine Ev_virt (as := [.int x3, .int x4, .int x5]) hq_123 (show decode prog_1_method_70_code 75 = .ok (.invokevirtual 311, 3) by decide +kernel) rfl hq_124 rfl (z_le rfl) ⟨(SGn hS (by decide)), (SGk hS rfl), by decide⟩ h15 ?_
              refine Ev_if_ne (tgt := 84) hq_123 (show decode prog_1_method_70_code 78 = .ok (.ifCond .ne 6, 3) by decide +kernel) (by decide) (fun c17 => ?_) (fun c17 => ?_)
              · have k := k.1 c17
                refine Ev_aload_n hq_123 (show decode prog_1_method_70_code 84 = .ok (.aload_n 0, 1) by decide +kernel) rfl ?_
                refine Ev_getR hq_123 (show decode prog_1_method_70_code 85 = .ok (.getfield 59, 3) by decide +kernel) rfl (SGn hS (by decide)) (SGk hS rfl) (by decide) rfl (SGr hS rfl) ?_
                refine Ev_iload_n hq_123 (show decode prog_1_method_70_code 88 = .ok (.iload_n 1, 1) by decide +kernel) rfl ?_
                obtain ⟨h18, k⟩ := k
                have r19 := SGrow hS (a := 45) (b := 46) (n := 40) (Or.inr (Or.inr ⟨rfl, rfl, rfl⟩)) h18.2
                refine Ev_aald hq_123 (show decode prog_1_method_70_code 89 = .ok (.aaload, 1) by decide +kernel) (SGn hS (by decide)) (Or.inr (SGk hS rfl)) (SGi hS rfl h18) r19.1 ?_
                refine Ev_iload_n hq_123 (show decode prog_1_method_70_code 90 = .ok (.iload_n 2, 1) by decide +kernel) rfl ?_
                refine Ev_aload_n hq_123 (show decode prog_1_method_70_code 91 = .ok (.aload_n 0, 1) by decide +kernel) rfl ?_
                refine Ev_getR hq_123 (show decode prog_1_method_70_code 92 = .ok (.getfield 59, 3) by decide +kernel) rfl (SGn hS (by decide)) (SGk hS rfl) (by decide) rfl (SGr hS rfl) ?_
                refine Ev_iload_n hq_123 (show decode prog_1_method_70_code 95 = .ok (.iload_n 3, 1) by decide +kernel) rfl ?_
                obtain ⟨h20, k⟩ := k
                have r21 := SGrow hS (a := 45) (b := 46) (n := 40) (Or.inr (Or.inr ⟨rfl, rfl, rfl⟩)) h20.2
                refine Ev_aald hq_123 (show decode prog_1_method_70_code 96 = .ok (.aaload, 1) by decide +kernel) (SGn hS (by decide)) (Or.inr (SGk hS rfl)) (SGi hS rfl h20) r21.1 ?_
                refine Ev_iload hq_123 (show decode prog_1_method_70_code 97 = .ok (.iload 4, 2) by decide +kernel) rfl ?_
                refine Ev_iload hq_123 (show decode prog_1_method_70_code 99 = .ok (.iload 5, 2) by decide +kernel) rfl ?_
                obtain ⟨h22, k⟩ := k
                refine Ev_copy hq_123 (show decode prog_1_method_70_code 101 = .ok (.invokestatic 278, 3) by decide +kernel) rfl ⟨z_le rfl, r19.2.1, r21.2.1, r19.2.2.1, r21.2.2.1, h22⟩ ?_
                obtain ⟨I23, eI23⟩ : ∃ I23 : zI, I23 = va_up I14 (46 + x3.toNatClampNeg) (va_cpy (I14 (46 + x1.toNatClampNeg)) (I14 (46 + x3.toNatClampNeg)) (x2 : Int32).toNatClampNeg (x4 : Int32).toNatClampNeg (x5 : Int32).toNatClampNeg) := ⟨_, rfl⟩
                have k := k I23 eI23
                rw [← eI23]
                refine Ev_iload hq_123 (show decode prog_1_method_70_code 104 = .ok (.iload 5, 2) by decide +kernel) rfl ?_
                exact Ev_iret hq_123 (show decode prog_1_method_70_code 106 = .ok (.ireturn, 1) by decide +kernel) rfl k
              · have k := k.2 (Classical.not_not.mp c17)
                refine Ev_bipush (v := (-12)) hq_123 (show decode prog_1_method_70_code 81 = .ok (.bipush (-12), 2) by decide +kernel) (by decide) ?_
                exact Ev_iret hq_123 (show decode prog_1_method_70_code 83 = .ok (.ireturn, 1) by decide +kernel) rfl k
          · have k := k.2 c9
            refine Ev_bipush (v := (-13)) hq_123 (show decode prog_1_method_70_code 55 = .ok (.bipush (-13), 2) by decide +kernel) (by decide) ?_
            exact Ev_iret hq_123 (show decode prog_1_method_70_code 57 = .ok (.ireturn, 1) by decide +kernel) rfl k
        · have k := k.2 (Classical.not_not.mp c6)
          refine Ev_bipush (v := (-11)) hq_123 (show decode prog_1_method_70_code 37 = .ok (.bipush (-11), 2) by decide +kernel) (by decide) ?_
          exact Ev_iret hq_123 (show decode prog_1_method_70_code 39 = .ok (.ireturn, 1) by decide +kernel) rfl k
    · have k := k.2 (Classical.not_not.mp c2)
      refine Ev_bipush (v := (-2)) hq_123 (show decode prog_1_method_70_code 14 = .ok (.bipush (-2), 2) by decide +kernel) (by decide) ?_
      exact Ev_iret hq_123 (show decode prog_1_method_70_code 16 = .ok (.ireturn, 1) by decide +kernel) rfl k
set_option maxRecDepth 20000 in
theorem wp_T_showersBy {X : Nat × (Nat → Int32)} {d : Nat} {G : zG} {I : zI} {res : Option Value × zG × zI} (x1 : Int32) (x2 : Int32) (x3 : Int32) (x4 : Int32) (hd : 1 ≤ d) (hS : SG G) 
    (k : ((f_T_isSheet x1) = 0 → res = (some (.int (-2)), G, I)) ∧ (¬ (f_T_isSheet x1) = 0 → ((f_T_within x2 0 2) = 0 → res = (some (.int (-2)), G, I)) ∧ (¬ (f_T_within x2 0 2) = 0 → (¬ (f_T_within x4 0 4) = 0 → z_inr x1 4 ∧ ((¬ (I 50 x1.toNatClampNeg) = (-1) → z_inr x1 4 ∧ (((I 50 x1.toNatClampNeg) = x2 → Ev X (d + 1) 125 61 [.ref 0, .int x1, .int x2, .int x3, .int x4, .int 0, .int 0, zU] [] G I res) ∧ (¬ (I 50 x1.toNatClampNeg) = x2 → res = (some (.int (-13)), G, I)))) ∧ ((I 50 x1.toNatClampNeg) = (-1) → res = (some (.int (-11)), G, I)))) ∧ ((f_T_within x4 0 4) = 0 → res = (some (.int (-2)), G, I))))) :
    Ev X (d + 1) 125 0 [.ref 0, .int x1, .int x2, .int x3, .int x4, zU, zU, zU] [] G I res := by
  refine Ev_iload_n hq_125 (show decode prog_1_method_72_code 0 = .ok (.iload_n 1, 1) by decide +kernel) rfl ?_
  refine Ev_stat (as := [.int x1]) hq_125 (show decode prog_1_method_72_code 1 = .ok (.invokestatic 269, 3) by decide +kernel) rfl (Or.inl rfl) hq_102 rfl (z_le rfl) (c_T_isSheet (by omega) x1) ?_
  refine Ev_if_eq (tgt := 26) hq_125 (show decode prog_1_method_72_code 4 = .ok (.ifCond .eq 22, 3) by decide +kernel) (by decide) (fun c1 => ?_) (fun c1 => ?_)
  · have k := k.1 c1
    refine Ev_bipush (v := (-2)) hq_125 (show decode prog_1_method_72_code 26 = .ok (.bipush (-2), 2) by decide +kernel) (by decide) ?_
    exact Ev_iret hq_125 (show decode prog_1_method_72_code 28 = .ok (.ireturn, 1) by decide +kernel) rfl k
  · have k := k.2 c1
    refine Ev_iload_n hq_125 (show decode prog_1_method_72_code 7 = .ok (.iload_n 2, 1) by decide +kernel) rfl ?_
    refine Ev_iconst (v := 0) hq_125 (show decode prog_1_method_72_code 8 = .ok (.iconst 0, 1) by decide +kernel) (by decide) ?_
    refine Ev_iconst (v := 2) hq_125 (show decode prog_1_method_72_code 9 = .ok (.iconst 2, 1) by decide +kernel) (by decide) ?_
    refine Ev_stat (as := [.int x2, .int 0, .int 2]) hq_125 (show decode prog_1_method_72_code 10 = .ok (.invokestatic 108, 3) by decide +kernel) rfl (Or.inl rfl) hq_32 rfl (z_le rfl) (c_T_within x2 0 2) ?_
    refine Ev_if_eq (tgt := 26) hq_125 (show decode prog_1_method_72_code 13 = .ok (.ifCond .eq 13, 3) by decide +kernel) (by decide) (fun c2 => ?_) (fun c2 => ?_)
    · have k := k.1 c2
      refine Ev_bipush (v := (-2)) hq_125 (show decode prog_1_method_72_code 26 = .ok (.bipush (-2), 2) by decide +kernel) (by decide) ?_
      exact Ev_iret hq_125 (show decode prog_1_method_72_code 28 = .ok (.ireturn, 1) by decide +kernel) rfl k
    · have k := k.2 c2
      refine Ev_iload hq_125 (show decode prog_1_method_72_code 16 = .ok (.iload 4, 2) by decide +kernel) rfl ?_
      refine Ev_iconst (v := 0) hq_125 (show decode prog_1_method_72_code 18 = .ok (.iconst 0, 1) by decide +kernel) (by decide) ?_
      refine Ev_iconst (v := 4) hq_125 (show decode prog_1_method_72_code 19 = .ok (.iconst 4, 1) by decide +kernel) (by decide) ?_
      refine Ev_stat (as := [.int x4, .int 0, .int 4]) hq_125 (show decode prog_1_method_72_code 20 = .ok (.invokestatic 108, 3) by decide +kernel) rfl (Or.inl rfl) hq_32 rfl (z_le rfl) (c_T_within x4 0 4) ?_
      refine Ev_if_ne (tgt := 29) hq_125 (show decode prog_1_method_72_code 23 = .ok (.ifCond .ne 6, 3) by decide +kernel) (by decide) (fun c3 => ?_) (fun c3 => ?_)
      · have k := k.1 c3
        refine Ev_aload_n hq_125 (show decode prog_1_method_72_code 29 = .ok (.aload_n 0, 1) by decide +kernel) rfl ?_
        refine Ev_getR hq_125 (show decode prog_1_method_72_code 30 = .ok (.getfield 62, 3) by decide +kernel) rfl (SGn hS (by decide)) (SGk hS rfl) (by decide) rfl (SGr hS rfl) ?_
        refine Ev_iload_n hq_125 (show decode prog_1_method_72_code 33 = .ok (.iload_n 1, 1) by decide +kernel) rfl ?_
        obtain ⟨h4, k⟩ := k
        refine Ev_iald hq_125 (show decode prog_1_method_72_code 34 = .ok (.iaload, 1) by decide +kernel) (SGn hS (by decide)) (SGk hS rfl) (SGi hS rfl h4) ?_
        refine Ev_iconst (v := (-1)) hq_125 (show decode prog_1_method_72_code 35 = .ok (.iconst (-1), 1) by decide +kernel) (by decide) ?_
        refine Ev_icmp_ne (tgt := 42) hq_125 (show decode prog_1_method_72_code 36 = .ok (.if_icmp .ne 6, 3) by decide +kernel) (by decide) (fun c5 => ?_) (fun c5 => ?_)
        · have k := k.1 c5
          refine Ev_aload_n hq_125 (show decode prog_1_method_72_code 42 = .ok (.aload_n 0, 1) by decide +kernel) rfl ?_
          refine Ev_getR hq_125 (show decode prog_1_method_72_code 43 = .ok (.getfield 62, 3) by decide +kernel) rfl (SGn hS (by decide)) (SGk hS rfl) (by decide) rfl (SGr hS rfl) ?_
          refine Ev_iload_n hq_125 (show decode prog_1_method_72_code 46 = .ok (.iload_n 1, 1) by decide +kernel) rfl ?_
          obtain ⟨h6, k⟩ := k
          refine Ev_iald hq_125 (show decode prog_1_method_72_code 47 = .ok (.iaload, 1) by decide +kernel) (SGn hS (by decide)) (SGk hS rfl) (SGi hS rfl h6) ?_
          refine Ev_iload_n hq_125 (show decode prog_1_method_72_code 48 = .ok (.iload_n 2, 1) by decide +kernel) rfl ?_
          refine Ev_icmp_eq (tgt := 55) hq_125 (show decode prog_1_method_72_code 49 = .ok (.if_icmp .eq 6, 3) by decide +kernel) (by decide) (fun c7 => ?_) (fun c7 => ?_)
          · have k := k.1 c7
            refine Ev_iconst (v := 0) hq_125 (show decode prog_1_method_72_code 55 = .ok (.iconst 0, 1) by decide +kernel) (by decide) ?_
            refine Ev_istore (lo2 := [.ref 0, .int x1, .int x2, .int x3, .int x4, .int 0, zU, zU]) hq_125 (show decode prog_1_method_72_code 56 = .ok (.istore 5, 2) by decide +kernel) (z_le rfl) rfl ?_
            refine Ev_iconst (v := 0) hq_125 (show decode prog_1_method_72_code 58 = .ok (.iconst 0, 1) by decide +kernel) (by decide) ?_
            refine Ev_istore (lo2 := [.ref 0, .int x1, .int x2, .int x3, .int x4, .int 0, .int 0, zU]) hq_125 (show decode prog_1_method_72_code 59 = .ok (.istore 6, 2) by decide +kernel) (z_le rfl) rfl ?_
            exact k
          · have k := k.2 c7
            refine Ev_bipush (v := (-13)) hq_125 (show decode prog_1_method_72_code 52 = .ok (.bipush (-13), 2) by decide +kernel) (by decide) ?_
            exact Ev_iret hq_125 (show decode prog_1_method_72_code 54 = .ok (.ireturn, 1) by decide +kernel) rfl k
        · have k := k.2 (Classical.not_not.mp c5)
          refine Ev_bipush (v := (-11)) hq_125 (show decode prog_1_method_72_code 39 = .ok (.bipush (-11), 2) by decide +kernel) (by decide) ?_
          exact Ev_iret hq_125 (show decode prog_1_method_72_code 41 = .ok (.ireturn, 1) by decide +kernel) rfl k
      · have k := k.2 (Classical.not_not.mp c3)
        refine Ev_bipush (v := (-2)) hq_125 (show decode prog_1_method_72_code 26 = .ok (.bipush (-2), 2) by decide +kernel) (by decide) ?_
        exact Ev_iret hq_125 (show decode prog_1_method_72_code 28 = .ok (.ireturn, 1) by decide +kernel) rfl k
set_option maxRecDepth 20000 in
theorem wp_T_showersBy_61 {X : Nat × (Nat → Int32)} {d : Nat} {G : zG} {I : zI} {res : Option Value × zG × zI} (x1 : Int32) (x2 : Int32) (x3 : Int32) (x4 : Int32) (x5 : Int32) (x6 : Int32) (v7 : Value) (cv7 : v7.category = 1) (hS : SG G) 
    (k : (x4 ≤ x6 → res = (some (.int x5), G, I)) ∧ (¬ x4 ≤ x6 → ∀ y2 : Int32, y2 = (x3 + (3 * x6)) → ∃ (r5 : Int32) (I3 : zI), Cv X d 124 [.ref 0, .int x1, .int y2, .int 3] G I (some (.int r5), G, I3) ∧ ((¬ r5 = 0 → z_inr x1 4 ∧ (z_inr y2 40 ∧ (z_inr x1 4 ∧ (z_inr (y2 + 1) 40 ∧ (z_inr x1 4 ∧ (z_inr (y2 + 2) 40 ∧ (∃ (r18 : Int32) (I16 : zI), Cv X d 53 [.ref 0, .int (I3 (46 + x1.toNatClampNeg) y2.toNatClampNeg), .int (I3 (46 + x1.toNatClampNeg) (y2 + 1).toNatClampNeg), .int (I3 (46 + x1.toNatClampNeg) (y2 + 2).toNatClampNeg)] G I3 (some (.int r18), G, I16) ∧ ((r18 < 0 → ∀ y20 : Int32, y20 = x6 + 1 → Ev X (d + 1) 125 61 [.ref 0, .int x1, .int x2, .int x3, .int x4, .int x5, .int y20, .int y2] [] G I16 res) ∧ (¬ r18 < 0 → ∀ y21 : Int32, y21 = x5 + 1 → ∀ y22 : Int32, y22 = x6 + 1 → Ev X (d + 1) 125 61 [.ref 0, .int x1, .int x2, .int x3, .int x4, .int y21, .int y22, .int y2] [] G I16 res))))))))) ∧ (r5 = 0 → res = (some (.int (-12)), G, I3))))) :
    Ev X (d + 1) 125 61 [.ref 0, .int x1, .int x2, .int x3, .int x4, .int x5, .int x6, v7] [] G I res := by
  refine Ev_iload hq_125 (show decode prog_1_method_72_code 61 = .ok (.iload 6, 2) by decide +kernel) rfl ?_
  refine Ev_iload hq_125 (show decode prog_1_method_72_code 63 = .ok (.iload 4, 2) by decide +kernel) rfl ?_
  refine Ev_icmp_ge (tgt := 137) hq_125 (show decode prog_1_method_72_code 65 = .ok (.if_icmp .ge 72, 3) by decide +kernel) (by decide) (fun c1 => ?_) (fun c1 => ?_)
  · have k := k.1 c1
    refine Ev_iload hq_125 (show decode prog_1_method_72_code 137 = .ok (.iload 5, 2) by decide +kernel) rfl ?_
    exact Ev_iret hq_125 (show decode prog_1_method_72_code 139 = .ok (.ireturn, 1) by decide +kernel) rfl k
  · have k := k.2 c1
    refine Ev_iload_n hq_125 (show decode prog_1_method_72_code 68 = .ok (.iload_n 3, 1) by decide +kernel) rfl ?_
    refine Ev_iconst (v := 3) hq_125 (show decode prog_1_method_72_code 69 = .ok (.iconst 3, 1) by decide +kernel) (by decide) ?_
    refine Ev_iload hq_125 (show decode prog_1_method_72_code 70 = .ok (.iload 6, 2) by decide +kernel) rfl ?_
    refine Ev_imul hq_125 (show decode prog_1_method_72_code 72 = .ok (.imul, 1) by decide +kernel) ?_
    refine Ev_iadd hq_125 (show decode prog_1_method_72_code 73 = .ok (.iadd, 1) by decide +kernel) ?_
    obtain ⟨y2, ey2⟩ : ∃ y2 : Int32, y2 = (x3 + (3 * x6)) := ⟨_, rfl⟩
    have k := k y2 ey2
    rw [← ey2]
    refine Ev_istore (lo2 := [.ref 0, .int x1, .int x2, .int x3, .int x4, .int x5, .int x6, .int y2]) hq_125 (show decode prog_1_method_72_code 74 = .ok (.istore 7, 2) by decide +kernel) (z_le rfl) rfl ?_
    refine Ev_aload_n hq_125 (show decode prog_1_method_72_code 76 = .ok (.aload_n 0, 1) by decide +kernel) rfl ?_
    refine Ev_iload_n hq_125 (show decode prog_1_method_72_code 77 = .ok (.iload_n 1, 1) by decide +kernel) rfl ?_
    refine Ev_iload hq_125 (show decode prog_1_method_72_code 78 = .ok (.iload 7, 2) by decide +kernel) rfl ?_
    refine Ev_iconst (v := 3) hq_125 (show decode prog_1_method_72_code 80 = .ok (.iconst 3, 1) by decide +kernel) (by decide) ?_
    obtain ⟨r5, I3, h4, k⟩ := k
    refine Ev_virt (as := [.int x1, .int y2, .int 3]) hq_125 (show decode prog_1_method_72_code 81 = .ok (.invokevirtual 311, 3) by decide +kernel) rfl hq_124 rfl (z_le rfl) ⟨(SGn hS (by decide)), (SGk hS rfl), by decide⟩ h4 ?_
    refine Ev_if_ne (tgt := 90) hq_125 (show decode prog_1_method_72_code 84 = .ok (.ifCond .ne 6, 3) by decide +kernel) (by decide) (fun c6 => ?_) (fun c6 => ?_)
    · have k := k.1 c6
      refine Ev_aload_n hq_125 (show decode prog_1_method_72_code 90 = .ok (.aload_n 0, 1) by decide +kernel) rfl ?_
      refine Ev_aload_n hq_125 (show decode prog_1_method_72_code 91 = .ok (.aload_n 0, 1) by decide +kernel) rfl ?_
      refine Ev_getR hq_125 (show decode prog_1_method_72_code 92 = .ok (.getfield 59, 3) by decide +kernel) rfl (SGn hS (by decide)) (SGk hS rfl) (by decide) rfl (SGr hS rfl) ?_
      refine Ev_iload_n hq_125 (show decode prog_1_method_72_code 95 = .ok (.iload_n 1, 1) by decide +kernel) rfl ?_
      obtain ⟨h7, k⟩ := k
      have r8 := SGrow hS (a := 45) (b := 46) (n := 40) (Or.inr (Or.inr ⟨rfl, rfl, rfl⟩)) h7.2
      refine Ev_aald hq_125 (show decode prog_1_method_72_code 96 = .ok (.aaload, 1) by decide +kernel) (SGn hS (by decide)) (Or.inr (SGk hS rfl)) (SGi hS rfl h7) r8.1 ?_
      refine Ev_iload hq_125 (show decode prog_1_method_72_code 97 = .ok (.iload 7, 2) by decide +kernel) rfl ?_
      obtain ⟨h9, k⟩ := k
      refine Ev_iald hq_125 (show decode prog_1_method_72_code 99 = .ok (.iaload, 1) by decide +kernel) r8.2.1 r8.2.2.1 (by rw [r8.2.2.2]; exact h9) ?_
      refine Ev_aload_n hq_125 (show decode prog_1_method_72_code 100 = .ok (.aload_n 0, 1) by decide +kernel) rfl ?_
      refine Ev_getR hq_125 (show decode prog_1_method_72_code 101 = .ok (.getfield 59, 3) by decide +kernel) rfl (SGn hS (by decide)) (SGk hS rfl) (by decide) rfl (SGr hS rfl) ?_
      refine Ev_iload_n hq_125 (show decode prog_1_method_72_code 104 = .ok (.iload_n 1, 1) by decide +kernel) rfl ?_
      obtain ⟨h10, k⟩ := k
      have r11 := SGrow hS (a := 45) (b := 46) (n := 40) (Or.inr (Or.inr ⟨rfl, rfl, rfl⟩)) h10.2
      refine Ev_aald hq_125 (show decode prog_1_method_72_code 105 = .ok (.aaload, 1) by decide +kernel) (SGn hS (by decide)) (Or.inr (SGk hS rfl)) (SGi hS rfl h10) r11.1 ?_
      refine Ev_iload hq_125 (show decode prog_1_method_72_code 106 = .ok (.iload 7, 2) by decide +kernel) rfl ?_
      refine Ev_iconst (v := 1) hq_125 (show decode prog_1_method_72_code 108 = .ok (.iconst 1, 1) by decide +kernel) (by decide) ?_
      refine Ev_iadd hq_125 (show decode prog_1_method_72_code 109 = .ok (.iadd, 1) by decide +kernel) ?_
      obtain ⟨h12, k⟩ := k
      refine Ev_iald hq_125 (show decode prog_1_method_72_code 110 = .ok (.iaload, 1) by decide +kernel) r11.2.1 r11.2.2.1 (by rw [r11.2.2.2]; exact h12) ?_
      refine Ev_aload_n hq_125 (show decode prog_1_method_72_code 111 = .ok (.aload_n 0, 1) by decide +kernel) rfl ?_
      refine Ev_getR hq_125 (show decode prog_1_method_72_code 112 = .ok (.getfield 59, 3) by decide +kernel) rfl (SGn hS (by decide)) (SGk hS rfl) (by decide) rfl (SGr hS rfl) ?_
      refine Ev_iload_n hq_125 (show decode prog_1_method_72_code 115 = .ok (.iload_n 1, 1) by decide +kernel) rfl ?_
      obtain ⟨h13, k⟩ := k
      have r14 := SGrow hS (a := 45) (b := 46) (n := 40) (Or.inr (Or.inr ⟨rfl, rfl, rfl⟩)) h13.2
      refine Ev_aald hq_125 (show decode prog_1_method_72_code 116 = .ok (.aaload, 1) by decide +kernel) (SGn hS (by decide)) (Or.inr (SGk hS rfl)) (SGi hS rfl h13) r14.1 ?_
      refine Ev_iload hq_125 (show decode prog_1_method_72_code 117 = .ok (.iload 7, 2) by decide +kernel) rfl ?_
      refine Ev_iconst (v := 2) hq_125 (show decode prog_1_method_72_code 119 = .ok (.iconst 2, 1) by decide +kernel) (by decide) ?_
      refine Ev_iadd hq_125 (show decode prog_1_method_72_code 120 = .ok (.iadd, 1) by decide +kernel) ?_
      obtain ⟨h15, k⟩ := k
      refine Ev_iald hq_125 (show decode prog_1_method_72_code 121 = .ok (.iaload, 1) by decide +kernel) r14.2.1 r14.2.2.1 (by rw [r14.2.2.2]; exact h15) ?_
      obtain ⟨r18, I16, h17, k⟩ := k
      refine Ev_virt (as := [.int (I3 (46 + x1.toNatClampNeg) y2.toNatClampNeg), .int (I3 (46 + x1.toNatClampNeg) (y2 + 1).toNatClampNeg), .int (I3 (46 + x1.toNatClampNeg) (y2 + 2).toNatClampNeg)]) hq_125 (show decode prog_1_method_72_code 122 = .ok (.invokevirtual 314, 3) by decide +kernel) rfl hq_53 rfl (z_le rfl) ⟨(SGn hS (by decide)), (SGk hS rfl), by decide⟩ h17 ?_
      refine Ev_if_lt (tgt := 131) hq_125 (show decode prog_1_method_72_code 125 = .ok (.ifCond .lt 6, 3) by decide +kernel) (by decide) (fun c19 => ?_) (fun c19 => ?_)
      · have k := k.1 c19
        obtain ⟨y20, ey20⟩ : ∃ y20 : Int32, y20 = x6 + 1 := ⟨_, rfl⟩
        have k := k y20 ey20
        refine Ev_iinc (v := y20) (lo2 := [.ref 0, .int x1, .int x2, .int x3, .int x4, .int x5, .int y20, .int y2]) hq_125 (show decode prog_1_method_72_code 131 = .ok (.iinc 6 1, 3) by decide +kernel) rfl (by rw [ey20]; rfl) rfl ?_
        refine Ev_goto (tgt := 61) hq_125 (show decode prog_1_method_72_code 134 = .ok (.goto (-73), 3) by decide +kernel) (by decide) ?_
        exact k
      · have k := k.2 c19
        obtain ⟨y21, ey21⟩ : ∃ y21 : Int32, y21 = x5 + 1 := ⟨_, rfl⟩
        have k := k y21 ey21
        refine Ev_iinc (v := y21) (lo2 := [.ref 0, .int x1, .int x2, .int x3, .int x4, .int y21, .int x6, .int y2]) hq_125 (show decode prog_1_method_72_code 128 = .ok (.iinc 5 1, 3) by decide +kernel) rfl (by rw [ey21]; rfl) rfl ?_
        obtain ⟨y22, ey22⟩ : ∃ y22 : Int32, y22 = x6 + 1 := ⟨_, rfl⟩
        have k := k y22 ey22
        refine Ev_iinc (v := y22) (lo2 := [.ref 0, .int x1, .int x2, .int x3, .int x4, .int y21, .int y22, .int y2]) hq_125 (show decode prog_1_method_72_code 131 = .ok (.iinc 6 1, 3) by decide +kernel) rfl (by rw [ey22]; rfl) rfl ?_
        refine Ev_goto (tgt := 61) hq_125 (show decode prog_1_method_72_code 134 = .ok (.goto (-73), 3) by decide +kernel) (by decide) ?_
        exact k
    · have k := k.2 (Classical.not_not.mp c6)
      refine Ev_bipush (v := (-12)) hq_125 (show decode prog_1_method_72_code 87 = .ok (.bipush (-12), 2) by decide +kernel) (by decide) ?_
      exact Ev_iret hq_125 (show decode prog_1_method_72_code 89 = .ok (.ireturn, 1) by decide +kernel) rfl k
set_option maxRecDepth 20000 in
theorem wp_T_isOfKind {X : Nat × (Nat → Int32)} {d : Nat} {G : zG} {I : zI} {res : Option Value × zG × zI} (x0 : Int32) (x1 : Int32) 
    (k : Ev X d 127 4 [.int x0, .int x1, .int x0, .int 0] [] G I res) :
    Ev X d 127 0 [.int x0, .int x1, zU, zU] [] G I res := by
  refine Ev_iload_n hq_127 (show decode prog_1_method_22_code 0 = .ok (.iload_n 0, 1) by decide +kernel) rfl ?_
  refine Ev_istore_n (lo2 := [.int x0, .int x1, .int x0, zU]) hq_127 (show decode prog_1_method_22_code 1 = .ok (.istore_n 2, 1) by decide +kernel) (z_le rfl) rfl ?_
  refine Ev_iconst (v := 0) hq_127 (show decode prog_1_method_22_code 2 = .ok (.iconst 0, 1) by decide +kernel) (by decide) ?_
  refine Ev_istore_n (lo2 := [.int x0, .int x1, .int x0, .int 0]) hq_127 (show decode prog_1_method_22_code 3 = .ok (.istore_n 3, 1) by decide +kernel) (z_le rfl) rfl ?_
  exact k
set_option maxRecDepth 20000 in
theorem wp_T_isOfKind_4 {X : Nat × (Nat → Int32)} {d : Nat} {G : zG} {I : zI} {res : Option Value × zG × zI} (x0 : Int32) (x1 : Int32) (x2 : Int32) (x3 : Int32) 
    (k : (6 ≤ x3 → res = (some (.int 0), G, I)) ∧ (¬ 6 ≤ x3 → (x2 < 0 → res = (some (.int 0), G, I)) ∧ (¬ x2 < 0 → (6 ≤ x2 → res = (some (.int 0), G, I)) ∧ (¬ 6 ≤ x2 → (¬ x2 = x1 → z_inr x2 6 ∧ (∀ y6 : Int32, y6 = (zKA x2.toNatClampNeg) → ∀ y7 : Int32, y7 = x3 + 1 → Ev X d 127 4 [.int x0, .int x1, .int y6, .int y7] [] G I res)) ∧ (x2 = x1 → res = (some (.int 1), G, I)))))) :
    Ev X d 127 4 [.int x0, .int x1, .int x2, .int x3] [] G I res := by
  refine Ev_iload_n hq_127 (show decode prog_1_method_22_code 4 = .ok (.iload_n 3, 1) by decide +kernel) rfl ?_
  refine Ev_bipush (v := 6) hq_127 (show decode prog_1_method_22_code 5 = .ok (.bipush 6, 2) by decide +kernel) (by decide) ?_
  refine Ev_icmp_ge (tgt := 39) hq_127 (show decode prog_1_method_22_code 7 = .ok (.if_icmp .ge 32, 3) by decide +kernel) (by decide) (fun c1 => ?_) (fun c1 => ?_)
  · have k := k.1 c1
    refine Ev_iconst (v := 0) hq_127 (show decode prog_1_method_22_code 39 = .ok (.iconst 0, 1) by decide +kernel) (by decide) ?_
    exact Ev_iret hq_127 (show decode prog_1_method_22_code 40 = .ok (.ireturn, 1) by decide +kernel) rfl k
  · have k := k.2 c1
    refine Ev_iload_n hq_127 (show decode prog_1_method_22_code 10 = .ok (.iload_n 2, 1) by decide +kernel) rfl ?_
    refine Ev_if_lt (tgt := 39) hq_127 (show decode prog_1_method_22_code 11 = .ok (.ifCond .lt 28, 3) by decide +kernel) (by decide) (fun c2 => ?_) (fun c2 => ?_)
    · have k := k.1 c2
      refine Ev_iconst (v := 0) hq_127 (show decode prog_1_method_22_code 39 = .ok (.iconst 0, 1) by decide +kernel) (by decide) ?_
      exact Ev_iret hq_127 (show decode prog_1_method_22_code 40 = .ok (.ireturn, 1) by decide +kernel) rfl k
    · have k := k.2 c2
      refine Ev_iload_n hq_127 (show decode prog_1_method_22_code 14 = .ok (.iload_n 2, 1) by decide +kernel) rfl ?_
      refine Ev_bipush (v := 6) hq_127 (show decode prog_1_method_22_code 15 = .ok (.bipush 6, 2) by decide +kernel) (by decide) ?_
      refine Ev_icmp_ge (tgt := 39) hq_127 (show decode prog_1_method_22_code 17 = .ok (.if_icmp .ge 22, 3) by decide +kernel) (by decide) (fun c3 => ?_) (fun c3 => ?_)
      · have k := k.1 c3
        refine Ev_iconst (v := 0) hq_127 (show decode prog_1_method_22_code 39 = .ok (.iconst 0, 1) by decide +kernel) (by decide) ?_
        exact Ev_iret hq_127 (show decode prog_1_method_22_code 40 = .ok (.ireturn, 1) by decide +kernel) rfl k
      · have k := k.2 c3
        refine Ev_iload_n hq_127 (show decode prog_1_method_22_code 20 = .ok (.iload_n 2, 1) by decide +kernel) rfl ?_
        refine Ev_iload_n hq_127 (show decode prog_1_method_22_code 21 = .ok (.iload_n 1, 1) by decide +kernel) rfl ?_
        refine Ev_icmp_ne (tgt := 27) hq_127 (show decode prog_1_method_22_code 22 = .ok (.if_icmp .ne 5, 3) by decide +kernel) (by decide) (fun c4 => ?_) (fun c4 => ?_)
        · have k := k.1 c4
          refine Ev_h hq_127 (show decode prog_1_method_22_code 27 = .ok (.getstatic 178, 3) by decide +kernel) rfl rfl ?_
          refine Ev_iload_n hq_127 (show decode prog_1_method_22_code 30 = .ok (.iload_n 2, 1) by decide +kernel) rfl ?_
          obtain ⟨h5, k⟩ := k
          refine Ev_ialdk hq_127 (show decode prog_1_method_22_code 31 = .ok (.iaload, 1) by decide +kernel) h5 ?_
          obtain ⟨y6, ey6⟩ : ∃ y6 : Int32, y6 = (zKA x2.toNatClampNeg) := ⟨_, rfl⟩
          have k := k y6 ey6
          rw [← ey6]
          refine Ev_istore_n (lo2 := [.int x0, .int x1, .int y6, .int x3]) hq_127 (show decode prog_1_method_22_code 32 = .ok (.istore_n 2, 1) by decide +kernel) (z_le rfl) rfl ?_
          obtain ⟨y7, ey7⟩ : ∃ y7 : Int32, y7 = x3 + 1 := ⟨_, rfl⟩
          have k := k y7 ey7
          refine Ev_iinc (v := y7) (lo2 := [.int x0, .int x1, .int y6, .int y7]) hq_127 (show decode prog_1_method_22_code 33 = .ok (.iinc 3 1, 3) by decide +kernel) rfl (by rw [ey7]; rfl) rfl ?_
          refine Ev_goto (tgt := 4) hq_127 (show decode prog_1_method_22_code 36 = .ok (.goto (-32), 3) by decide +kernel) (by decide) ?_
          exact k
        · have k := k.2 (Classical.not_not.mp c4)
          refine Ev_iconst (v := 1) hq_127 (show decode prog_1_method_22_code 25 = .ok (.iconst 1, 1) by decide +kernel) (by decide) ?_
          exact Ev_iret hq_127 (show decode prog_1_method_22_code 26 = .ok (.ireturn, 1) by decide +kernel) rfl k
set_option maxRecDepth 20000 in
theorem wp_T_taken {X : Nat × (Nat → Int32)} {d : Nat} {G : zG} {I : zI} {res : Option Value × zG × zI} (x1 : Int32) (x2 : Int32) (hd : 1 ≤ d) (hS : SG G) 
    (k : (¬ (f_T_within x2 0 6) = 0 → (¬ (f_T_within x1 0 7) = 0 → ∀ y3 : Int32, y3 = (x1 - x1 / 4 * 4) → (x1 < 4 → ((f_T_isShower I y3) = 0 → res = (some (.int (-11)), G, I)) ∧ (¬ (f_T_isShower I y3) = 0 → z_inr y3 4 ∧ (∃ (r9 : Int32) (I7 : zI), Cv X d 127 [.int (I 2 y3.toNatClampNeg), .int x2] G I (some (.int r9), G, I7) ∧ ((r9 = 0 → res = (some (.int (-13)), G, I7)) ∧ (¬ r9 = 0 → res = (some (.int y3), G, I7)))))) ∧ (¬ x1 < 4 → ((f_T_isShower I y3) = 0 → res = (some (.int (-11)), G, I)) ∧ (¬ (f_T_isShower I y3) = 0 → z_inr y3 4 ∧ ((¬ (I 8 y3.toNatClampNeg) = 0 → (¬ x2 = 6 → res = (some (.int (-13)), G, I)) ∧ (x2 = 6 → z_inr y3 4 ∧ (res = (some (.int (I 6 y3.toNatClampNeg)), G, I)))) ∧ ((I 8 y3.toNatClampNeg) = 0 → res = (some (.int (-11)), G, I)))))) ∧ ((f_T_within x1 0 7) = 0 → res = (some (.int (-12)), G, I))) ∧ ((f_T_within x2 0 6) = 0 → res = (some (.int (-2)), G, I))) :
    Ev X (d + 1) 126 0 [.ref 0, .int x1, .int x2, zU, zU] [] G I res := by
  refine Ev_iload_n hq_126 (show decode prog_1_method_73_code 0 = .ok (.iload_n 2, 1) by decide +kernel) rfl ?_
  refine Ev_iconst (v := 0) hq_126 (show decode prog_1_method_73_code 1 = .ok (.iconst 0, 1) by decide +kernel) (by decide) ?_
  refine Ev_bipush (v := 6) hq_126 (show decode prog_1_method_73_code 2 = .ok (.bipush 6, 2) by decide +kernel) (by decide) ?_
  refine Ev_stat (as := [.int x2, .int 0, .int 6]) hq_126 (show decode prog_1_method_73_code 4 = .ok (.invokestatic 108, 3) by decide +kernel) rfl (Or.inl rfl) hq_32 rfl (z_le rfl) (c_T_within x2 0 6) ?_
  refine Ev_if_ne (tgt := 13) hq_126 (show decode prog_1_method_73_code 7 = .ok (.ifCond .ne 6, 3) by decide +kernel) (by decide) (fun c1 => ?_) (fun c1 => ?_)
  · have k := k.1 c1
    refine Ev_iload_n hq_126 (show decode prog_1_method_73_code 13 = .ok (.iload_n 1, 1) by decide +kernel) rfl ?_
    refine Ev_iconst (v := 0) hq_126 (show decode prog_1_method_73_code 14 = .ok (.iconst 0, 1) by decide +kernel) (by decide) ?_
    refine Ev_bipush (v := 7) hq_126 (show decode prog_1_method_73_code 15 = .ok (.bipush 7, 2) by decide +kernel) (by decide) ?_
    refine Ev_stat (as := [.int x1, .int 0, .int 7]) hq_126 (show decode prog_1_method_73_code 17 = .ok (.invokestatic 108, 3) by decide +kernel) rfl (Or.inl rfl) hq_32 rfl (z_le rfl) (c_T_within x1 0 7) ?_
    refine Ev_if_ne (tgt := 26) hq_126 (show decode prog_1_method_73_code 20 = .ok (.ifCond .ne 6, 3) by decide +kernel) (by decide) (fun c2 => ?_) (fun c2 => ?_)
    · have k := k.1 c2
      refine Ev_iload_n hq_126 (show decode prog_1_method_73_code 26 = .ok (.iload_n 1, 1) by decide +kernel) rfl ?_
      refine Ev_iconst (v := 4) hq_126 (show decode prog_1_method_73_code 27 = .ok (.iconst 4, 1) by decide +kernel) (by decide) ?_
      refine Ev_irem hq_126 (show decode prog_1_method_73_code 28 = .ok (.irem, 1) by decide +kernel) (by decide) ?_
      obtain ⟨y3, ey3⟩ : ∃ y3 : Int32, y3 = (x1 - x1 / 4 * 4) := ⟨_, rfl⟩
      have k := k y3 ey3
      rw [← ey3]
      refine Ev_istore_n (lo2 := [.ref 0, .int x1, .int x2, .int y3, zU]) hq_126 (show decode prog_1_method_73_code 29 = .ok (.istore_n 3, 1) by decide +kernel) (z_le rfl) rfl ?_
      refine Ev_iload_n hq_126 (show decode prog_1_method_73_code 30 = .ok (.iload_n 1, 1) by decide +kernel) rfl ?_
      refine Ev_iconst (v := 4) hq_126 (show decode prog_1_method_73_code 31 = .ok (.iconst 4, 1) by decide +kernel) (by decide) ?_
      refine Ev_icmp_lt (tgt := 39) hq_126 (show decode prog_1_method_73_code 32 = .ok (.if_icmp .lt 7, 3) by decide +kernel) (by decide) (fun c4 => ?_) (fun c4 => ?_)
      · have k := k.1 c4
        refine Ev_iconst (v := 0) hq_126 (show decode prog_1_method_73_code 39 = .ok (.iconst 0, 1) by decide +kernel) (by decide) ?_
        refine Ev_istore (lo2 := [.ref 0, .int x1, .int x2, .int y3, .int 0]) hq_126 (show decode prog_1_method_73_code 40 = .ok (.istore 4, 2) by decide +kernel) (z_le rfl) rfl ?_
        refine Ev_aload_n hq_126 (show decode prog_1_method_73_code 42 = .ok (.aload_n 0, 1) by decide +kernel) rfl ?_
        refine Ev_iload_n hq_126 (show decode prog_1_method_73_code 43 = .ok (.iload_n 3, 1) by decide +kernel) rfl ?_
        refine Ev_virt (as := [.int y3]) hq_126 (show decode prog_1_method_73_code 44 = .ok (.invokevirtual 120, 3) by decide +kernel) rfl hq_45 rfl (z_le rfl) ⟨(SGn hS (by decide)), (SGk hS rfl), by decide⟩ (c_T_isShower (by omega) hS y3) ?_
        refine Ev_if_eq (tgt := 67) hq_126 (show decode prog_1_method_73_code 47 = .ok (.ifCond .eq 20, 3) by decide +kernel) (by decide) (fun c5 => ?_) (fun c5 => ?_)
        · have k := k.1 c5
          refine Ev_bipush (v := (-11)) hq_126 (show decode prog_1_method_73_code 67 = .ok (.bipush (-11), 2) by decide +kernel) (by decide) ?_
          exact Ev_iret hq_126 (show decode prog_1_method_73_code 69 = .ok (.ireturn, 1) by decide +kernel) rfl k
        · have k := k.2 c5
          refine Ev_iload hq_126 (show decode prog_1_method_73_code 50 = .ok (.iload 4, 2) by decide +kernel) rfl ?_
          refine Ev_if_eq (tgt := 70) hq_126 (show decode prog_1_method_73_code 52 = .ok (.ifCond .eq 18, 3) by decide +kernel) (by decide) (fun _ => ?_) (fun hz => absurd (by decide) hz)
          refine Ev_iload hq_126 (show decode prog_1_method_73_code 70 = .ok (.iload 4, 2) by decide +kernel) rfl ?_
          refine Ev_if_eq (tgt := 96) hq_126 (show decode prog_1_method_73_code 72 = .ok (.ifCond .eq 24, 3) by decide +kernel) (by decide) (fun _ => ?_) (fun hz => absurd (by decide) hz)
          refine Ev_aload_n hq_126 (show decode prog_1_method_73_code 96 = .ok (.aload_n 0, 1) by decide +kernel) rfl ?_
          refine Ev_getR hq_126 (show decode prog_1_method_73_code 97 = .ok (.getfield 10, 3) by decide +kernel) rfl (SGn hS (by decide)) (SGk hS rfl) (by decide) rfl (SGr hS rfl) ?_
          refine Ev_getR hq_126 (show decode prog_1_method_73_code 100 = .ok (.getfield 162, 3) by decide +kernel) rfl (SGn hS (by decide)) (SGk hS rfl) (by decide) rfl (SGr hS rfl) ?_
          refine Ev_iload_n hq_126 (show decode prog_1_method_73_code 103 = .ok (.iload_n 3, 1) by decide +kernel) rfl ?_
          obtain ⟨h6, k⟩ := k
          refine Ev_iald hq_126 (show decode prog_1_method_73_code 104 = .ok (.iaload, 1) by decide +kernel) (SGn hS (by decide)) (SGk hS rfl) (SGi hS rfl h6) ?_
          refine Ev_iload_n hq_126 (show decode prog_1_method_73_code 105 = .ok (.iload_n 2, 1) by decide +kernel) rfl ?_
          obtain ⟨r9, I7, h8, k⟩ := k
          refine Ev_stat (as := [.int (I 2 y3.toNatClampNeg), .int x2]) hq_126 (show decode prog_1_method_73_code 106 = .ok (.invokestatic 317, 3) by decide +kernel) rfl (Or.inl rfl) hq_127 rfl (z_le rfl) h8 ?_
          refine Ev_if_eq (tgt := 116) hq_126 (show decode prog_1_method_73_code 109 = .ok (.ifCond .eq 7, 3) by decide +kernel) (by decide) (fun c10 => ?_) (fun c10 => ?_)
          · have k := k.1 c10
            refine Ev_bipush (v := (-13)) hq_126 (show decode prog_1_method_73_code 116 = .ok (.bipush (-13), 2) by decide +kernel) (by decide) ?_
            exact Ev_iret hq_126 (show decode prog_1_method_73_code 118 = .ok (.ireturn, 1) by decide +kernel) rfl k
          · have k := k.2 c10
            refine Ev_iload_n hq_126 (show decode prog_1_method_73_code 112 = .ok (.iload_n 3, 1) by decide +kernel) rfl ?_
            refine Ev_goto (tgt := 118) hq_126 (show decode prog_1_method_73_code 113 = .ok (.goto 5, 3) by decide +kernel) (by decide) ?_
            exact Ev_iret hq_126 (show decode prog_1_method_73_code 118 = .ok (.ireturn, 1) by decide +kernel) rfl k
      · have k := k.2 c4
        refine Ev_iconst (v := 1) hq_126 (show decode prog_1_method_73_code 35 = .ok (.iconst 1, 1) by decide +kernel) (by decide) ?_
        refine Ev_goto (tgt := 40) hq_126 (show decode prog_1_method_73_code 36 = .ok (.goto 4, 3) by decide +kernel) (by decide) ?_
        refine Ev_istore (lo2 := [.ref 0, .int x1, .int x2, .int y3, .int 1]) hq_126 (show decode prog_1_method_73_code 40 = .ok (.istore 4, 2) by decide +kernel) (z_le rfl) rfl ?_
        refine Ev_aload_n hq_126 (show decode prog_1_method_73_code 42 = .ok (.aload_n 0, 1) by decide +kernel) rfl ?_
        refine Ev_iload_n hq_126 (show decode prog_1_method_73_code 43 = .ok (.iload_n 3, 1) by decide +kernel) rfl ?_
        refine Ev_virt (as := [.int y3]) hq_126 (show decode prog_1_method_73_code 44 = .ok (.invokevirtual 120, 3) by decide +kernel) rfl hq_45 rfl (z_le rfl) ⟨(SGn hS (by decide)), (SGk hS rfl), by decide⟩ (c_T_isShower (by omega) hS y3) ?_
        refine Ev_if_eq (tgt := 67) hq_126 (show decode prog_1_method_73_code 47 = .ok (.ifCond .eq 20, 3) by decide +kernel) (by decide) (fun c11 => ?_) (fun c11 => ?_)
        · have k := k.1 c11
          refine Ev_bipush (v := (-11)) hq_126 (show decode prog_1_method_73_code 67 = .ok (.bipush (-11), 2) by decide +kernel) (by decide) ?_
          exact Ev_iret hq_126 (show decode prog_1_method_73_code 69 = .ok (.ireturn, 1) by decide +kernel) rfl k
        · have k := k.2 c11
          refine Ev_iload hq_126 (show decode prog_1_method_73_code 50 = .ok (.iload 4, 2) by decide +kernel) rfl ?_
          refine Ev_if_eq (tgt := 70) hq_126 (show decode prog_1_method_73_code 52 = .ok (.ifCond .eq 18, 3) by decide +kernel) (by decide) (fun hz => absurd hz (by decide)) (fun _ => ?_)
          refine Ev_aload_n hq_126 (show decode prog_1_method_73_code 55 = .ok (.aload_n 0, 1) by decide +kernel) rfl ?_
          refine Ev_getR hq_126 (show decode prog_1_method_73_code 56 = .ok (.getfield 10, 3) by decide +kernel) rfl (SGn hS (by decide)) (SGk hS rfl) (by decide) rfl (SGr hS rfl) ?_
          refine Ev_getR hq_126 (show decode prog_1_method_73_code 59 = .ok (.getfield 253, 3) by decide +kernel) rfl (SGn hS (by decide)) (SGk hS rfl) (by decide) rfl (SGr hS rfl) ?_
          refine Ev_iload_n hq_126 (show decode prog_1_method_73_code 62 = .ok (.iload_n 3, 1) by decide +kernel) rfl ?_
          obtain ⟨h12, k⟩ := k
          refine Ev_iald hq_126 (show decode prog_1_method_73_code 63 = .ok (.iaload, 1) by decide +kernel) (SGn hS (by decide)) (SGk hS rfl) (SGi hS rfl h12) ?_
          refine Ev_if_ne (tgt := 70) hq_126 (show decode prog_1_method_73_code 64 = .ok (.ifCond .ne 6, 3) by decide +kernel) (by decide) (fun c13 => ?_) (fun c13 => ?_)
          · have k := k.1 c13
            refine Ev_iload hq_126 (show decode prog_1_method_73_code 70 = .ok (.iload 4, 2) by decide +kernel) rfl ?_
            refine Ev_if_eq (tgt := 96) hq_126 (show decode prog_1_method_73_code 72 = .ok (.ifCond .eq 24, 3) by decide +kernel) (by decide) (fun hz => absurd hz (by decide)) (fun _ => ?_)
            refine Ev_iload_n hq_126 (show decode prog_1_method_73_code 75 = .ok (.iload_n 2, 1) by decide +kernel) rfl ?_
            refine Ev_bipush (v := 6) hq_126 (show decode prog_1_method_73_code 76 = .ok (.bipush 6, 2) by decide +kernel) (by decide) ?_
            refine Ev_icmp_ne (tgt := 93) hq_126 (show decode prog_1_method_73_code 78 = .ok (.if_icmp .ne 15, 3) by decide +kernel) (by decide) (fun c14 => ?_) (fun c14 => ?_)
            · have k := k.1 c14
              refine Ev_bipush (v := (-13)) hq_126 (show decode prog_1_method_73_code 93 = .ok (.bipush (-13), 2) by decide +kernel) (by decide) ?_
              exact Ev_iret hq_126 (show decode prog_1_method_73_code 95 = .ok (.ireturn, 1) by decide +kernel) rfl k
            · have k := k.2 (Classical.not_not.mp c14)
              refine Ev_aload_n hq_126 (show decode prog_1_method_73_code 81 = .ok (.aload_n 0, 1) by decide +kernel) rfl ?_
              refine Ev_getR hq_126 (show decode prog_1_method_73_code 82 = .ok (.getfield 10, 3) by decide +kernel) rfl (SGn hS (by decide)) (SGk hS rfl) (by decide) rfl (SGr hS rfl) ?_
              refine Ev_getR hq_126 (show decode prog_1_method_73_code 85 = .ok (.getfield 227, 3) by decide +kernel) rfl (SGn hS (by decide)) (SGk hS rfl) (by decide) rfl (SGr hS rfl) ?_
              refine Ev_iload_n hq_126 (show decode prog_1_method_73_code 88 = .ok (.iload_n 3, 1) by decide +kernel) rfl ?_
              obtain ⟨h15, k⟩ := k
              refine Ev_iald hq_126 (show decode prog_1_method_73_code 89 = .ok (.iaload, 1) by decide +kernel) (SGn hS (by decide)) (SGk hS rfl) (SGi hS rfl h15) ?_
              refine Ev_goto (tgt := 95) hq_126 (show decode prog_1_method_73_code 90 = .ok (.goto 5, 3) by decide +kernel) (by decide) ?_
              exact Ev_iret hq_126 (show decode prog_1_method_73_code 95 = .ok (.ireturn, 1) by decide +kernel) rfl k
          · have k := k.2 (Classical.not_not.mp c13)
            refine Ev_bipush (v := (-11)) hq_126 (show decode prog_1_method_73_code 67 = .ok (.bipush (-11), 2) by decide +kernel) (by decide) ?_
            exact Ev_iret hq_126 (show decode prog_1_method_73_code 69 = .ok (.ireturn, 1) by decide +kernel) rfl k
    · have k := k.2 (Classical.not_not.mp c2)
      refine Ev_bipush (v := (-12)) hq_126 (show decode prog_1_method_73_code 23 = .ok (.bipush (-12), 2) by decide +kernel) (by decide) ?_
      exact Ev_iret hq_126 (show decode prog_1_method_73_code 25 = .ok (.ireturn, 1) by decide +kernel) rfl k
  · have k := k.2 (Classical.not_not.mp c1)
    refine Ev_bipush (v := (-2)) hq_126 (show decode prog_1_method_73_code 10 = .ok (.bipush (-2), 2) by decide +kernel) (by decide) ?_
    exact Ev_iret hq_126 (show decode prog_1_method_73_code 12 = .ok (.ireturn, 1) by decide +kernel) rfl k
set_option maxRecDepth 20000 in
theorem wp_Z_in {X : Nat × (Nat → Int32)} {d : Nat} {G : zG} {I : zI} {res : Option Value × zG × zI} (x0 : Int32) (x1 : Int32) (x2 : Int32) 
    (k : (x0 < x1 → res = (some (.int 0), G, I)) ∧ (¬ x0 < x1 → (x2 < x0 → res = (some (.int 0), G, I)) ∧ (¬ x2 < x0 → res = (some (.int 1), G, I)))) :
    Ev X d 131 0 [.int x0, .int x1, .int x2] [] G I res := by
  refine Ev_iload_n hq_131 (show decode prog_7_method_3_code 0 = .ok (.iload_n 0, 1) by decide +kernel) rfl ?_
  refine Ev_iload_n hq_131 (show decode prog_7_method_3_code 1 = .ok (.iload_n 1, 1) by decide +kernel) rfl ?_
  refine Ev_icmp_lt (tgt := 14) hq_131 (show decode prog_7_method_3_code 2 = .ok (.if_icmp .lt 12, 3) by decide +kernel) (by decide) (fun c1 => ?_) (fun c1 => ?_)
  · have k := k.1 c1
    refine Ev_iconst (v := 0) hq_131 (show decode prog_7_method_3_code 14 = .ok (.iconst 0, 1) by decide +kernel) (by decide) ?_
    exact Ev_iret hq_131 (show decode prog_7_method_3_code 15 = .ok (.ireturn, 1) by decide +kernel) rfl k
  · have k := k.2 c1
    refine Ev_iload_n hq_131 (show decode prog_7_method_3_code 5 = .ok (.iload_n 0, 1) by decide +kernel) rfl ?_
    refine Ev_iload_n hq_131 (show decode prog_7_method_3_code 6 = .ok (.iload_n 2, 1) by decide +kernel) rfl ?_
    refine Ev_icmp_gt (tgt := 14) hq_131 (show decode prog_7_method_3_code 7 = .ok (.if_icmp .gt 7, 3) by decide +kernel) (by decide) (fun c2 => ?_) (fun c2 => ?_)
    · have k := k.1 c2
      refine Ev_iconst (v := 0) hq_131 (show decode prog_7_method_3_code 14 = .ok (.iconst 0, 1) by decide +kernel) (by decide) ?_
      exact Ev_iret hq_131 (show decode prog_7_method_3_code 15 = .ok (.ireturn, 1) by decide +kernel) rfl k
    · have k := k.2 c2
      refine Ev_iconst (v := 1) hq_131 (show decode prog_7_method_3_code 10 = .ok (.iconst 1, 1) by decide +kernel) (by decide) ?_
      refine Ev_goto (tgt := 15) hq_131 (show decode prog_7_method_3_code 11 = .ok (.goto 4, 3) by decide +kernel) (by decide) ?_
      exact Ev_iret hq_131 (show decode prog_7_method_3_code 15 = .ok (.ireturn, 1) by decide +kernel) rfl k
def f_Z_in (x0 x1 x2 : Int32) : Int32 := (if x0 < x1 then 0 else (if x2 < x0 then 0 else 1))
theorem c_Z_in {X : Nat × (Nat → Int32)} {d : Nat} {G : zG} {I : zI} (x0 x1 x2 : Int32) : Cv X d 131 [.int x0, .int x1, .int x2] G I (some (.int (f_Z_in x0 x1 x2)), G, I) := by
  exact Cv.of hq_131 (z_le rfl) rfl (wp_Z_in x0 x1 x2 ⟨fun h0 => (by simp only [f_Z_in]; rw [if_pos h0]), fun h0 => ⟨fun h1 => (by simp only [f_Z_in]; rw [if_neg h0]; rw [if_pos h1]), fun h1 => (by simp only [f_Z_in]; rw [if_neg h0]; rw [if_neg h1])⟩⟩)
theorem b_Z_in (x0 x1 x2 : Int32) : f_Z_in x0 x1 x2 = 0 ∨ f_Z_in x0 x1 x2 = 1 := by
  unfold f_Z_in
  repeat (any_goals split)
  all_goals first | exact Or.inl rfl | exact Or.inr rfl
set_option maxRecDepth 20000 in
theorem wp_Z_wordFrom {X : Nat × (Nat → Int32)} {d : Nat} {G : zG} {I : zI} {res : Option Value × zG × zI} (x1 : Int32) (x2 : Int32) 
    (k : Ev X d 132 2 [.ref 57, .int x1, .int x2, .int 0, zU, zU] [] G I res) :
    Ev X d 132 0 [.ref 57, .int x1, .int x2, zU, zU, zU] [] G I res := by
  refine Ev_iconst (v := 0) hq_132 (show decode prog_7_method_13_code 0 = .ok (.iconst 0, 1) by decide +kernel) (by decide) ?_
  refine Ev_istore_n (lo2 := [.ref 57, .int x1, .int x2, .int 0, zU, zU]) hq_132 (show decode prog_7_method_13_code 1 = .ok (.istore_n 3, 1) by decide +kernel) (z_le rfl) rfl ?_
  exact k
set_option maxRecDepth 20000 in
theorem wp_Z_wordFrom_2 {X : Nat × (Nat → Int32)} {d : Nat} {G : zG} {I : zI} {res : Option Value × zG × zI} (x1 : Int32) (x2 : Int32) (x3 : Int32) (v4 : Value) (cv4 : v4.category = 1) (v5 : Value) (cv5 : v5.category = 1) 
    (k : (12 ≤ x3 → res = (some (.int 12), G, I)) ∧ (¬ 12 ≤ x3 → (8 < (x2 - x1) → Ev X d 132 26 [.ref 57, .int x1, .int x2, .int x3, .int 0, .int 0] [] G I res) ∧ (¬ 8 < (x2 - x1) → Ev X d 132 26 [.ref 57, .int x1, .int x2, .int x3, .int 1, .int 0] [] G I res))) :
    Ev X d 132 2 [.ref 57, .int x1, .int x2, .int x3, v4, v5] [] G I res := by
  refine Ev_iload_n hq_132 (show decode prog_7_method_13_code 2 = .ok (.iload_n 3, 1) by decide +kernel) rfl ?_
  refine Ev_bipush (v := 12) hq_132 (show decode prog_7_method_13_code 3 = .ok (.bipush 12, 2) by decide +kernel) (by decide) ?_
  refine Ev_icmp_ge (tgt := 101) hq_132 (show decode prog_7_method_13_code 5 = .ok (.if_icmp .ge 96, 3) by decide +kernel) (by decide) (fun c1 => ?_) (fun c1 => ?_)
  · have k := k.1 c1
    refine Ev_bipush (v := 12) hq_132 (show decode prog_7_method_13_code 101 = .ok (.bipush 12, 2) by decide +kernel) (by decide) ?_
    exact Ev_iret hq_132 (show decode prog_7_method_13_code 103 = .ok (.ireturn, 1) by decide +kernel) rfl k
  · have k := k.2 c1
    refine Ev_iload_n hq_132 (show decode prog_7_method_13_code 8 = .ok (.iload_n 2, 1) by decide +kernel) rfl ?_
    refine Ev_iload_n hq_132 (show decode prog_7_method_13_code 9 = .ok (.iload_n 1, 1) by decide +kernel) rfl ?_
    refine Ev_isub hq_132 (show decode prog_7_method_13_code 10 = .ok (.isub, 1) by decide +kernel) ?_
    refine Ev_bipush (v := 8) hq_132 (show decode prog_7_method_13_code 11 = .ok (.bipush 8, 2) by decide +kernel) (by decide) ?_
    refine Ev_icmp_gt (tgt := 20) hq_132 (show decode prog_7_method_13_code 13 = .ok (.if_icmp .gt 7, 3) by decide +kernel) (by decide) (fun c2 => ?_) (fun c2 => ?_)
    · have k := k.1 c2
      refine Ev_iconst (v := 0) hq_132 (show decode prog_7_method_13_code 20 = .ok (.iconst 0, 1) by decide +kernel) (by decide) ?_
      refine Ev_istore (lo2 := [.ref 57, .int x1, .int x2, .int x3, .int 0, v5]) hq_132 (show decode prog_7_method_13_code 21 = .ok (.istore 4, 2) by decide +kernel) (z_le rfl) rfl ?_
      refine Ev_iconst (v := 0) hq_132 (show decode prog_7_method_13_code 23 = .ok (.iconst 0, 1) by decide +kernel) (by decide) ?_
      refine Ev_istore (lo2 := [.ref 57, .int x1, .int x2, .int x3, .int 0, .int 0]) hq_132 (show decode prog_7_method_13_code 24 = .ok (.istore 5, 2) by decide +kernel) (z_le rfl) rfl ?_
      exact k
    · have k := k.2 c2
      refine Ev_iconst (v := 1) hq_132 (show decode prog_7_method_13_code 16 = .ok (.iconst 1, 1) by decide +kernel) (by decide) ?_
      refine Ev_goto (tgt := 21) hq_132 (show decode prog_7_method_13_code 17 = .ok (.goto 4, 3) by decide +kernel) (by decide) ?_
      refine Ev_istore (lo2 := [.ref 57, .int x1, .int x2, .int x3, .int 1, v5]) hq_132 (show decode prog_7_method_13_code 21 = .ok (.istore 4, 2) by decide +kernel) (z_le rfl) rfl ?_
      refine Ev_iconst (v := 0) hq_132 (show decode prog_7_method_13_code 23 = .ok (.iconst 0, 1) by decide +kernel) (by decide) ?_
      refine Ev_istore (lo2 := [.ref 57, .int x1, .int x2, .int x3, .int 1, .int 0]) hq_132 (show decode prog_7_method_13_code 24 = .ok (.istore 5, 2) by decide +kernel) (z_le rfl) rfl ?_
      exact k
set_option maxRecDepth 20000 in
theorem wp_Z_wordFrom_26 {X : Nat × (Nat → Int32)} {d : Nat} {G : zG} {I : zI} {res : Option Value × zG × zI} (x1 : Int32) (x2 : Int32) (x3 : Int32) (x4 : Int32) (x5 : Int32) (hS : SG G) 
    (k : (8 ≤ x5 → (x4 = 0 → ∀ y3 : Int32, y3 = x3 + 1 → Ev X d 132 2 [.ref 57, .int x1, .int x2, .int y3, .int x4, .int x5] [] G I res) ∧ (¬ x4 = 0 → res = (some (.int x3), G, I))) ∧ (¬ 8 ≤ x5 → (x4 = 0 → (x4 = 0 → ∀ y6 : Int32, y6 = x3 + 1 → Ev X d 132 2 [.ref 57, .int x1, .int x2, .int y6, .int x4, .int x5] [] G I res) ∧ (¬ x4 = 0 → res = (some (.int x3), G, I))) ∧ (¬ x4 = 0 → z_inr ((8 * x3) + x5) 96 ∧ ((x2 ≤ (x1 + x5) → (¬ (I 69 ((8 * x3) + x5).toNatClampNeg) = 32 → ∀ y10 : Int32, y10 = x5 + 1 → Ev X d 132 26 [.ref 57, .int x1, .int x2, .int x3, .int 0, .int y10] [] G I res) ∧ ((I 69 ((8 * x3) + x5).toNatClampNeg) = 32 → ∀ y11 : Int32, y11 = x5 + 1 → Ev X d 132 26 [.ref 57, .int x1, .int x2, .int x3, .int 1, .int y11] [] G I res)) ∧ (¬ x2 ≤ (x1 + x5) → z_inr (x1 + x5) 160 ∧ ((¬ (I 69 ((8 * x3) + x5).toNatClampNeg) = (I 61 (x1 + x5).toNatClampNeg) → ∀ y14 : Int32, y14 = x5 + 1 → Ev X d 132 26 [.ref 57, .int x1, .int x2, .int x3, .int 0, .int y14] [] G I res) ∧ ((I 69 ((8 * x3) + x5).toNatClampNeg) = (I 61 (x1 + x5).toNatClampNeg) → ∀ y15 : Int32, y15 = x5 + 1 → Ev X d 132 26 [.ref 57, .int x1, .int x2, .int x3, .int 1, .int y15] [] G I res))))))) :
    Ev X d 132 26 [.ref 57, .int x1, .int x2, .int x3, .int x4, .int x5] [] G I res := by
  refine Ev_iload hq_132 (show decode prog_7_method_13_code 26 = .ok (.iload 5, 2) by decide +kernel) rfl ?_
  refine Ev_bipush (v := 8) hq_132 (show decode prog_7_method_13_code 28 = .ok (.bipush 8, 2) by decide +kernel) (by decide) ?_
  refine Ev_icmp_ge (tgt := 88) hq_132 (show decode prog_7_method_13_code 30 = .ok (.if_icmp .ge 58, 3) by decide +kernel) (by decide) (fun c1 => ?_) (fun c1 => ?_)
  · have k := k.1 c1
    refine Ev_iload hq_132 (show decode prog_7_method_13_code 88 = .ok (.iload 4, 2) by decide +kernel) rfl ?_
    refine Ev_if_eq (tgt := 95) hq_132 (show decode prog_7_method_13_code 90 = .ok (.ifCond .eq 5, 3) by decide +kernel) (by decide) (fun c2 => ?_) (fun c2 => ?_)
    · have k := k.1 c2
      obtain ⟨y3, ey3⟩ : ∃ y3 : Int32, y3 = x3 + 1 := ⟨_, rfl⟩
      have k := k y3 ey3
      refine Ev_iinc (v := y3) (lo2 := [.ref 57, .int x1, .int x2, .int y3, .int x4, .int x5]) hq_132 (show decode prog_7_method_13_code 95 = .ok (.iinc 3 1, 3) by decide +kernel) rfl (by rw [ey3]; rfl) rfl ?_
      refine Ev_goto (tgt := 2) hq_132 (show decode prog_7_method_13_code 98 = .ok (.goto (-96), 3) by decide +kernel) (by decide) ?_
      exact k
    · have k := k.2 c2
      refine Ev_iload_n hq_132 (show decode prog_7_method_13_code 93 = .ok (.iload_n 3, 1) by decide +kernel) rfl ?_
      exact Ev_iret hq_132 (show decode prog_7_method_13_code 94 = .ok (.ireturn, 1) by decide +kernel) rfl k
  · have k := k.2 c1
    refine Ev_iload hq_132 (show decode prog_7_method_13_code 33 = .ok (.iload 4, 2) by decide +kernel) rfl ?_
    refine Ev_if_eq (tgt := 88) hq_132 (show decode prog_7_method_13_code 35 = .ok (.ifCond .eq 53, 3) by decide +kernel) (by decide) (fun c4 => ?_) (fun c4 => ?_)
    · have k := k.1 c4
      refine Ev_iload hq_132 (show decode prog_7_method_13_code 88 = .ok (.iload 4, 2) by decide +kernel) rfl ?_
      refine Ev_if_eq (tgt := 95) hq_132 (show decode prog_7_method_13_code 90 = .ok (.ifCond .eq 5, 3) by decide +kernel) (by decide) (fun c5 => ?_) (fun c5 => ?_)
      · have k := k.1 c5
        obtain ⟨y6, ey6⟩ : ∃ y6 : Int32, y6 = x3 + 1 := ⟨_, rfl⟩
        have k := k y6 ey6
        refine Ev_iinc (v := y6) (lo2 := [.ref 57, .int x1, .int x2, .int y6, .int x4, .int x5]) hq_132 (show decode prog_7_method_13_code 95 = .ok (.iinc 3 1, 3) by decide +kernel) rfl (by rw [ey6]; rfl) rfl ?_
        refine Ev_goto (tgt := 2) hq_132 (show decode prog_7_method_13_code 98 = .ok (.goto (-96), 3) by decide +kernel) (by decide) ?_
        exact k
      · have k := k.2 c5
        refine Ev_iload_n hq_132 (show decode prog_7_method_13_code 93 = .ok (.iload_n 3, 1) by decide +kernel) rfl ?_
        exact Ev_iret hq_132 (show decode prog_7_method_13_code 94 = .ok (.ireturn, 1) by decide +kernel) rfl k
    · have k := k.2 c4
      refine Ev_aload_n hq_132 (show decode prog_7_method_13_code 38 = .ok (.aload_n 0, 1) by decide +kernel) rfl ?_
      refine Ev_getR hq_132 (show decode prog_7_method_13_code 39 = .ok (.getfield 43, 3) by decide +kernel) rfl (SGn hS (by decide)) (SGk hS rfl) (by decide) rfl (SGr hS rfl) ?_
      refine Ev_bipush (v := 8) hq_132 (show decode prog_7_method_13_code 42 = .ok (.bipush 8, 2) by decide +kernel) (by decide) ?_
      refine Ev_iload_n hq_132 (show decode prog_7_method_13_code 44 = .ok (.iload_n 3, 1) by decide +kernel) rfl ?_
      refine Ev_imul hq_132 (show decode prog_7_method_13_code 45 = .ok (.imul, 1) by decide +kernel) ?_
      refine Ev_iload hq_132 (show decode prog_7_method_13_code 46 = .ok (.iload 5, 2) by decide +kernel) rfl ?_
      refine Ev_iadd hq_132 (show decode prog_7_method_13_code 48 = .ok (.iadd, 1) by decide +kernel) ?_
      obtain ⟨h7, k⟩ := k
      refine Ev_iald hq_132 (show decode prog_7_method_13_code 49 = .ok (.iaload, 1) by decide +kernel) (SGn hS (by decide)) (SGk hS rfl) (SGi hS rfl h7) ?_
      refine Ev_iload_n hq_132 (show decode prog_7_method_13_code 50 = .ok (.iload_n 1, 1) by decide +kernel) rfl ?_
      refine Ev_iload hq_132 (show decode prog_7_method_13_code 51 = .ok (.iload 5, 2) by decide +kernel) rfl ?_
      refine Ev_iadd hq_132 (show decode prog_7_method_13_code 53 = .ok (.iadd, 1) by decide +kernel) ?_
      refine Ev_iload_n hq_132 (show decode prog_7_method_13_code 54 = .ok (.iload_n 2, 1) by decide +kernel) rfl ?_
      refine Ev_icmp_ge (tgt := 70) hq_132 (show decode prog_7_method_13_code 55 = .ok (.if_icmp .ge 15, 3) by decide +kernel) (by decide) (fun c8 => ?_) (fun c8 => ?_)
      · have k := k.1 c8
        refine Ev_bipush (v := 32) hq_132 (show decode prog_7_method_13_code 70 = .ok (.bipush 32, 2) by decide +kernel) (by decide) ?_
        refine Ev_icmp_ne (tgt := 79) hq_132 (show decode prog_7_method_13_code 72 = .ok (.if_icmp .ne 7, 3) by decide +kernel) (by decide) (fun c9 => ?_) (fun c9 => ?_)
        · have k := k.1 c9
          refine Ev_iconst (v := 0) hq_132 (show decode prog_7_method_13_code 79 = .ok (.iconst 0, 1) by decide +kernel) (by decide) ?_
          refine Ev_istore (lo2 := [.ref 57, .int x1, .int x2, .int x3, .int 0, .int x5]) hq_132 (show decode prog_7_method_13_code 80 = .ok (.istore 4, 2) by decide +kernel) (z_le rfl) rfl ?_
          obtain ⟨y10, ey10⟩ : ∃ y10 : Int32, y10 = x5 + 1 := ⟨_, rfl⟩
          have k := k y10 ey10
          refine Ev_iinc (v := y10) (lo2 := [.ref 57, .int x1, .int x2, .int x3, .int 0, .int y10]) hq_132 (show decode prog_7_method_13_code 82 = .ok (.iinc 5 1, 3) by decide +kernel) rfl (by rw [ey10]; rfl) rfl ?_
          refine Ev_goto (tgt := 26) hq_132 (show decode prog_7_method_13_code 85 = .ok (.goto (-59), 3) by decide +kernel) (by decide) ?_
          exact k
        · have k := k.2 (Classical.not_not.mp c9)
          refine Ev_iconst (v := 1) hq_132 (show decode prog_7_method_13_code 75 = .ok (.iconst 1, 1) by decide +kernel) (by decide) ?_
          refine Ev_goto (tgt := 80) hq_132 (show decode prog_7_method_13_code 76 = .ok (.goto 4, 3) by decide +kernel) (by decide) ?_
          refine Ev_istore (lo2 := [.ref 57, .int x1, .int x2, .int x3, .int 1, .int x5]) hq_132 (show decode prog_7_method_13_code 80 = .ok (.istore 4, 2) by decide +kernel) (z_le rfl) rfl ?_
          obtain ⟨y11, ey11⟩ : ∃ y11 : Int32, y11 = x5 + 1 := ⟨_, rfl⟩
          have k := k y11 ey11
          refine Ev_iinc (v := y11) (lo2 := [.ref 57, .int x1, .int x2, .int x3, .int 1, .int y11]) hq_132 (show decode prog_7_method_13_code 82 = .ok (.iinc 5 1, 3) by decide +kernel) rfl (by rw [ey11]; rfl) rfl ?_
          refine Ev_goto (tgt := 26) hq_132 (show decode prog_7_method_13_code 85 = .ok (.goto (-59), 3) by decide +kernel) (by decide) ?_
          exact k
      · have k := k.2 c8
        refine Ev_aload_n hq_132 (show decode prog_7_method_13_code 58 = .ok (.aload_n 0, 1) by decide +kernel) rfl ?_
        refine Ev_getR hq_132 (show decode prog_7_method_13_code 59 = .ok (.getfield 19, 3) by decide +kernel) rfl (SGn hS (by decide)) (SGk hS rfl) (by decide) rfl (SGr hS rfl) ?_
        refine Ev_iload_n hq_132 (show decode prog_7_method_13_code 62 = .ok (.iload_n 1, 1) by decide +kernel) rfl ?_
        refine Ev_iload hq_132 (show decode prog_7_method_13_code 63 = .ok (.iload 5, 2) by decide +kernel) rfl ?_
        refine Ev_iadd hq_132 (show decode prog_7_method_13_code 65 = .ok (.iadd, 1) by decide +kernel) ?_
        obtain ⟨h12, k⟩ := k
        refine Ev_iald hq_132 (show decode prog_7_method_13_code 66 = .ok (.iaload, 1) by decide +kernel) (SGn hS (by decide)) (SGk hS rfl) (SGi hS rfl h12) ?_
        refine Ev_goto (tgt := 72) hq_132 (show decode prog_7_method_13_code 67 = .ok (.goto 5, 3) by decide +kernel) (by decide) ?_
        refine Ev_icmp_ne (tgt := 79) hq_132 (show decode prog_7_method_13_code 72 = .ok (.if_icmp .ne 7, 3) by decide +kernel) (by decide) (fun c13 => ?_) (fun c13 => ?_)
        · have k := k.1 c13
          refine Ev_iconst (v := 0) hq_132 (show decode prog_7_method_13_code 79 = .ok (.iconst 0, 1) by decide +kernel) (by decide) ?_
          refine Ev_istore (lo2 := [.ref 57, .int x1, .int x2, .int x3, .int 0, .int x5]) hq_132 (show decode prog_7_method_13_code 80 = .ok (.istore 4, 2) by decide +kernel) (z_le rfl) rfl ?_
          obtain ⟨y14, ey14⟩ : ∃ y14 : Int32, y14 = x5 + 1 := ⟨_, rfl⟩
          have k := k y14 ey14
          refine Ev_iinc (v := y14) (lo2 := [.ref 57, .int x1, .int x2, .int x3, .int 0, .int y14]) hq_132 (show decode prog_7_method_13_code 82 = .ok (.iinc 5 1, 3) by decide +kernel) rfl (by rw [ey14]; rfl) rfl ?_
          refine Ev_goto (tgt := 26) hq_132 (show decode prog_7_method_13_code 85 = .ok (.goto (-59), 3) by decide +kernel) (by decide) ?_
          exact k
        · have k := k.2 (Classical.not_not.mp c13)
          refine Ev_iconst (v := 1) hq_132 (show decode prog_7_method_13_code 75 = .ok (.iconst 1, 1) by decide +kernel) (by decide) ?_
          refine Ev_goto (tgt := 80) hq_132 (show decode prog_7_method_13_code 76 = .ok (.goto 4, 3) by decide +kernel) (by decide) ?_
          refine Ev_istore (lo2 := [.ref 57, .int x1, .int x2, .int x3, .int 1, .int x5]) hq_132 (show decode prog_7_method_13_code 80 = .ok (.istore 4, 2) by decide +kernel) (z_le rfl) rfl ?_
          obtain ⟨y15, ey15⟩ : ∃ y15 : Int32, y15 = x5 + 1 := ⟨_, rfl⟩
          have k := k y15 ey15
          refine Ev_iinc (v := y15) (lo2 := [.ref 57, .int x1, .int x2, .int x3, .int 1, .int y15]) hq_132 (show decode prog_7_method_13_code 82 = .ok (.iinc 5 1, 3) by decide +kernel) rfl (by rw [ey15]; rfl) rfl ?_
          refine Ev_goto (tgt := 26) hq_132 (show decode prog_7_method_13_code 85 = .ok (.goto (-59), 3) by decide +kernel) (by decide) ?_
          exact k
set_option maxRecDepth 20000 in
theorem wp_Z_next {X : Nat × (Nat → Int32)} {d : Nat} {G : zG} {I : zI} {res : Option Value × zG × zI}  (hS : SG G) 
    (k : ((I 57 5) ≤ (I 57 18) → (∀ I2 : zI, I2 = z_up I 57 19 (I 57 18) → (∀ I3 : zI, I3 = z_up I2 57 20 0 → (∀ I4 : zI, I4 = z_up I3 57 21 0 → (¬ (I4 57 18) = (I4 57 5) → z_inr (I4 57 18) 160 ∧ (∀ y7 : Int32, y7 = (I4 61 (I4 57 18).toNatClampNeg) → ((f_Z_in y7 97 122) = 0 → ((f_Z_in y7 48 57) = 0 → (y7 = 40 → (∀ I11 : zI, I11 = z_up I4 57 20 y7 → (∀ I12 : zI, I12 = z_up I11 57 18 ((I11 57 18) + 1) → res = (none, G, I12)))) ∧ (¬ y7 = 40 → (y7 = 41 → (∀ I14 : zI, I14 = z_up I4 57 20 y7 → (∀ I15 : zI, I15 = z_up I14 57 18 ((I14 57 18) + 1) → res = (none, G, I15)))) ∧ (¬ y7 = 41 → (y7 = 59 → (∀ I17 : zI, I17 = z_up I4 57 20 y7 → (∀ I18 : zI, I18 = z_up I17 57 18 ((I17 57 18) + 1) → res = (none, G, I18)))) ∧ (¬ y7 = 59 → (y7 = 43 → (∀ I20 : zI, I20 = z_up I4 57 20 y7 → (∀ I21 : zI, I21 = z_up I20 57 18 ((I20 57 18) + 1) → res = (none, G, I21)))) ∧ (¬ y7 = 43 → (y7 = 45 → (∀ I23 : zI, I23 = z_up I4 57 20 y7 → (∀ I24 : zI, I24 = z_up I23 57 18 ((I23 57 18) + 1) → res = (none, G, I24)))) ∧ (¬ y7 = 45 → (y7 = 42 → (∀ I26 : zI, I26 = z_up I4 57 20 y7 → (∀ I27 : zI, I27 = z_up I26 57 18 ((I26 57 18) + 1) → res = (none, G, I27)))) ∧ (¬ y7 = 42 → (y7 = 60 → (∀ I29 : zI, I29 = z_up I4 57 20 y7 → (∀ I30 : zI, I30 = z_up I29 57 18 ((I29 57 18) + 1) → res = (none, G, I30)))) ∧ (¬ y7 = 60 → (¬ y7 = 61 → (∀ I32 : zI, I32 = z_up I4 57 20 (-1) → (∀ I33 : zI, I33 = z_up I32 57 18 ((I32 57 18) + 1) → res = (none, G, I33)))) ∧ (y7 = 61 → (∀ I34 : zI, I34 = z_up I4 57 20 y7 → (∀ I35 : zI, I35 = z_up I34 57 18 ((I34 57 18) + 1) → res = (none, G, I35)))))))))))) ∧ (¬ (f_Z_in y7 48 57) = 0 → Ev X (d + 1) 130 230 [.ref 57, .int y7, .int 0] [] G I4 res)) ∧ (¬ (f_Z_in y7 97 122) = 0 → Ev X (d + 1) 130 103 [.ref 57, .int y7, zU] [] G I4 res))) ∧ ((I4 57 18) = (I4 57 5) → res = (none, G, I4)))))) ∧ (¬ (I 57 5) ≤ (I 57 18) → z_inr (I 57 18) 160 ∧ (((I 61 (I 57 18).toNatClampNeg) = 32 → (∀ I38 : zI, I38 = z_up I 57 18 ((I 57 18) + 1) → Ev X (d + 1) 130 0 [.ref 57, zU, zU] [] G I38 res)) ∧ (¬ (I 61 (I 57 18).toNatClampNeg) = 32 → z_inr (I 57 18) 160 ∧ ((¬ (I 61 (I 57 18).toNatClampNeg) = 10 → (∀ I41 : zI, I41 = z_up I 57 19 (I 57 18) → (∀ I42 : zI, I42 = z_up I41 57 20 0 → (∀ I43 : zI, I43 = z_up I42 57 21 0 → (¬ (I43 57 18) = (I43 57 5) → z_inr (I43 57 18) 160 ∧ (∀ y46 : Int32, y46 = (I43 61 (I43 57 18).toNatClampNeg) → ((f_Z_in y46 97 122) = 0 → ((f_Z_in y46 48 57) = 0 → (y46 = 40 → (∀ I50 : zI, I50 = z_up I43 57 20 y46 → (∀ I51 : zI, I51 = z_up I50 57 18 ((I50 57 18) + 1) → res = (none, G, I51)))) ∧ (¬ y46 = 40 → (y46 = 41 → (∀ I53 : zI, I53 = z_up I43 57 20 y46 → (∀ I54 : zI, I54 = z_up I53 57 18 ((I53 57 18) + 1) → res = (none, G, I54)))) ∧ (¬ y46 = 41 → (y46 = 59 → (∀ I56 : zI, I56 = z_up I43 57 20 y46 → (∀ I57 : zI, I57 = z_up I56 57 18 ((I56 57 18) + 1) → res = (none, G, I57)))) ∧ (¬ y46 = 59 → (y46 = 43 → (∀ I59 : zI, I59 = z_up I43 57 20 y46 → (∀ I60 : zI, I60 = z_up I59 57 18 ((I59 57 18) + 1) → res = (none, G, I60)))) ∧ (¬ y46 = 43 → (y46 = 45 → (∀ I62 : zI, I62 = z_up I43 57 20 y46 → (∀ I63 : zI, I63 = z_up I62 57 18 ((I62 57 18) + 1) → res = (none, G, I63)))) ∧ (¬ y46 = 45 → (y46 = 42 → (∀ I65 : zI, I65 = z_up I43 57 20 y46 → (∀ I66 : zI, I66 = z_up I65 57 18 ((I65 57 18) + 1) → res = (none, G, I66)))) ∧ (¬ y46 = 42 → (y46 = 60 → (∀ I68 : zI, I68 = z_up I43 57 20 y46 → (∀ I69 : zI, I69 = z_up I68 57 18 ((I68 57 18) + 1) → res = (none, G, I69)))) ∧ (¬ y46 = 60 → (¬ y46 = 61 → (∀ I71 : zI, I71 = z_up I43 57 20 (-1) → (∀ I72 : zI, I72 = z_up I71 57 18 ((I71 57 18) + 1) → res = (none, G, I72)))) ∧ (y46 = 61 → (∀ I73 : zI, I73 = z_up I43 57 20 y46 → (∀ I74 : zI, I74 = z_up I73 57 18 ((I73 57 18) + 1) → res = (none, G, I74)))))))))))) ∧ (¬ (f_Z_in y46 48 57) = 0 → Ev X (d + 1) 130 230 [.ref 57, .int y46, .int 0] [] G I43 res)) ∧ (¬ (f_Z_in y46 97 122) = 0 → Ev X (d + 1) 130 103 [.ref 57, .int y46, zU] [] G I43 res))) ∧ ((I43 57 18) = (I43 57 5) → res = (none, G, I43)))))) ∧ ((I 61 (I 57 18).toNatClampNeg) = 10 → (∀ I75 : zI, I75 = z_up I 57 18 ((I 57 18) + 1) → Ev X (d + 1) 130 0 [.ref 57, zU, zU] [] G I75 res))))))) :
    Ev X (d + 1) 130 0 [.ref 57, zU, zU] [] G I res := by
  refine Ev_aload_n hq_130 (show decode prog_7_method_14_code 0 = .ok (.aload_n 0, 1) by decide +kernel) rfl ?_
  refine Ev_getI hq_130 (show decode prog_7_method_14_code 1 = .ok (.getfield 110, 3) by decide +kernel) rfl (SGn hS (by decide)) (SGk hS rfl) (by decide) rfl ?_
  refine Ev_aload_n hq_130 (show decode prog_7_method_14_code 4 = .ok (.aload_n 0, 1) by decide +kernel) rfl ?_
  refine Ev_getI hq_130 (show decode prog_7_method_14_code 5 = .ok (.getfield 80, 3) by decide +kernel) rfl (SGn hS (by decide)) (SGk hS rfl) (by decide) rfl ?_
  refine Ev_icmp_ge (tgt := 52) hq_130 (show decode prog_7_method_14_code 8 = .ok (.if_icmp .ge 44, 3) by decide +kernel) (by decide) (fun c1 => ?_) (fun c1 => ?_)
  · have k := k.1 c1
    refine Ev_aload_n hq_130 (show decode prog_7_method_14_code 52 = .ok (.aload_n 0, 1) by decide +kernel) rfl ?_
    refine Ev_aload_n hq_130 (show decode prog_7_method_14_code 53 = .ok (.aload_n 0, 1) by decide +kernel) rfl ?_
    refine Ev_getI hq_130 (show decode prog_7_method_14_code 54 = .ok (.getfield 110, 3) by decide +kernel) rfl (SGn hS (by decide)) (SGk hS rfl) (by decide) rfl ?_
    refine Ev_putI hq_130 (show decode prog_7_method_14_code 57 = .ok (.putfield 113, 3) by decide +kernel) rfl (SGn hS (by decide)) (SGk hS rfl) (by decide) (by decide) rfl (fun hz => by cases hz) ?_
    obtain ⟨I2, eI2⟩ : ∃ I2 : zI, I2 = z_up I 57 19 (I 57 18) := ⟨_, rfl⟩
    have k := k I2 eI2
    rw [← eI2]
    refine Ev_aload_n hq_130 (show decode prog_7_method_14_code 60 = .ok (.aload_n 0, 1) by decide +kernel) rfl ?_
    refine Ev_iconst (v := 0) hq_130 (show decode prog_7_method_14_code 61 = .ok (.iconst 0, 1) by decide +kernel) (by decide) ?_
    refine Ev_putI hq_130 (show decode prog_7_method_14_code 62 = .ok (.putfield 116, 3) by decide +kernel) rfl (SGn hS (by decide)) (SGk hS rfl) (by decide) (by decide) rfl (fun hz => by cases hz) ?_
    obtain ⟨I3, eI3⟩ : ∃ I3 : zI, I3 = z_up I2 57 20 0 := ⟨_, rfl⟩
    have k := k I3 eI3
    rw [← eI3]
    refine Ev_aload_n hq_130 (show decode prog_7_method_14_code 65 = .ok (.aload_n 0, 1) by decide +kernel) rfl ?_
    refine Ev_iconst (v := 0) hq_130 (show decode prog_7_method_14_code 66 = .ok (.iconst 0, 1) by decide +kernel) (by decide) ?_
    refine Ev_putI hq_130 (show decode prog_7_method_14_code 67 = .ok (.putfield 119, 3) by decide +kernel) rfl (SGn hS (by decide)) (SGk hS rfl) (by decide) (by decide) rfl (fun hz => by cases hz) ?_
    obtain ⟨I4, eI4⟩ : ∃ I4 : zI, I4 = z_up I3 57 21 0 := ⟨_, rfl⟩
    have k := k I4 eI4
    rw [← eI4]
    refine Ev_aload_n hq_130 (show decode prog_7_method_14_code 70 = .ok (.aload_n 0, 1) by decide +kernel) rfl ?_
    refine Ev_getI hq_130 (show decode prog_7_method_14_code 71 = .ok (.getfield 110, 3) by decide +kernel) rfl (SGn hS (by decide)) (SGk hS rfl) (by decide) rfl ?_
    refine Ev_aload_n hq_130 (show decode prog_7_method_14_code 74 = .ok (.aload_n 0, 1) by decide +kernel) rfl ?_
    refine Ev_getI hq_130 (show decode prog_7_method_14_code 75 = .ok (.getfield 80, 3) by decide +kernel) rfl (SGn hS (by decide)) (SGk hS rfl) (by decide) rfl ?_
    refine Ev_icmp_ne (tgt := 82) hq_130 (show decode prog_7_method_14_code 78 = .ok (.if_icmp .ne 4, 3) by decide +kernel) (by decide) (fun c5 => ?_) (fun c5 => ?_)
    · have k := k.1 c5
      refine Ev_aload_n hq_130 (show decode prog_7_method_14_code 82 = .ok (.aload_n 0, 1) by decide +kernel) rfl ?_
      refine Ev_getR hq_130 (show decode prog_7_method_14_code 83 = .ok (.getfield 19, 3) by decide +kernel) rfl (SGn hS (by decide)) (SGk hS rfl) (by decide) rfl (SGr hS rfl) ?_
      refine Ev_aload_n hq_130 (show decode prog_7_method_14_code 86 = .ok (.aload_n 0, 1) by decide +kernel) rfl ?_
      refine Ev_getI hq_130 (show decode prog_7_method_14_code 87 = .ok (.getfield 110, 3) by decide +kernel) rfl (SGn hS (by decide)) (SGk hS rfl) (by decide) rfl ?_
      obtain ⟨h6, k⟩ := k
      refine Ev_iald hq_130 (show decode prog_7_method_14_code 90 = .ok (.iaload, 1) by decide +kernel) (SGn hS (by decide)) (SGk hS rfl) (SGi hS rfl h6) ?_
      obtain ⟨y7, ey7⟩ : ∃ y7 : Int32, y7 = (I4 61 (I4 57 18).toNatClampNeg) := ⟨_, rfl⟩
      have k := k y7 ey7
      rw [← ey7]
      refine Ev_istore_n (lo2 := [.ref 57, .int y7, zU]) hq_130 (show decode prog_7_method_14_code 91 = .ok (.istore_n 1, 1) by decide +kernel) (z_le rfl) rfl ?_
      refine Ev_iload_n hq_130 (show decode prog_7_method_14_code 92 = .ok (.iload_n 1, 1) by decide +kernel) rfl ?_
      refine Ev_bipush (v := 97) hq_130 (show decode prog_7_method_14_code 93 = .ok (.bipush 97, 2) by decide +kernel) (by decide) ?_
      refine Ev_bipush (v := 122) hq_130 (show decode prog_7_method_14_code 95 = .ok (.bipush 122, 2) by decide +kernel) (by decide) ?_
      refine Ev_stat (as := [.int y7, .int 97, .int 122]) hq_130 (show decode prog_7_method_14_code 97 = .ok (.invokestatic 90, 3) by decide +kernel) rfl (Or.inl rfl) hq_131 rfl (z_le rfl) (c_Z_in y7 97 122) ?_
      refine Ev_if_eq (tgt := 217) hq_130 (show decode prog_7_method_14_code 100 = .ok (.ifCond .eq 117, 3) by decide +kernel) (by decide) (fun c8 => ?_) (fun c8 => ?_)
      · have k := k.1 c8
        refine Ev_iload_n hq_130 (show decode prog_7_method_14_code 217 = .ok (.iload_n 1, 1) by decide +kernel) rfl ?_
        refine Ev_bipush (v := 48) hq_130 (show decode prog_7_method_14_code 218 = .ok (.bipush 48, 2) by decide +kernel) (by decide) ?_
        refine Ev_bipush (v := 57) hq_130 (show decode prog_7_method_14_code 220 = .ok (.bipush 57, 2) by decide +kernel) (by decide) ?_
        refine Ev_stat (as := [.int y7, .int 48, .int 57]) hq_130 (show decode prog_7_method_14_code 222 = .ok (.invokestatic 90, 3) by decide +kernel) rfl (Or.inl rfl) hq_131 rfl (z_le rfl) (c_Z_in y7 48 57) ?_
        refine Ev_if_eq (tgt := 326) hq_130 (show decode prog_7_method_14_code 225 = .ok (.ifCond .eq 101, 3) by decide +kernel) (by decide) (fun c9 => ?_) (fun c9 => ?_)
        · have k := k.1 c9
          refine Ev_iload_n hq_130 (show decode prog_7_method_14_code 326 = .ok (.iload_n 1, 1) by decide +kernel) rfl ?_
          refine Ev_bipush (v := 40) hq_130 (show decode prog_7_method_14_code 327 = .ok (.bipush 40, 2) by decide +kernel) (by decide) ?_
          refine Ev_icmp_eq (tgt := 374) hq_130 (show decode prog_7_method_14_code 329 = .ok (.if_icmp .eq 45, 3) by decide +kernel) (by decide) (fun c10 => ?_) (fun c10 => ?_)
          · have k := k.1 c10
            refine Ev_iconst (v := 1) hq_130 (show decode prog_7_method_14_code 374 = .ok (.iconst 1, 1) by decide +kernel) (by decide) ?_
            refine Ev_goto (tgt := 379) hq_130 (show decode prog_7_method_14_code 375 = .ok (.goto 4, 3) by decide +kernel) (by decide) ?_
            refine Ev_istore_n (lo2 := [.ref 57, .int y7, .int 1]) hq_130 (show decode prog_7_method_14_code 379 = .ok (.istore_n 2, 1) by decide +kernel) (z_le rfl) rfl ?_
            refine Ev_aload_n hq_130 (show decode prog_7_method_14_code 380 = .ok (.aload_n 0, 1) by decide +kernel) rfl ?_
            refine Ev_iload_n hq_130 (show decode prog_7_method_14_code 381 = .ok (.iload_n 2, 1) by decide +kernel) rfl ?_
            refine Ev_if_eq (tgt := 389) hq_130 (show decode prog_7_method_14_code 382 = .ok (.ifCond .eq 7, 3) by decide +kernel) (by decide) (fun hz => absurd hz (by decide)) (fun _ => ?_)
            refine Ev_iload_n hq_130 (show decode prog_7_method_14_code 385 = .ok (.iload_n 1, 1) by decide +kernel) rfl ?_
            refine Ev_goto (tgt := 390) hq_130 (show decode prog_7_method_14_code 386 = .ok (.goto 4, 3) by decide +kernel) (by decide) ?_
            refine Ev_putI hq_130 (show decode prog_7_method_14_code 390 = .ok (.putfield 116, 3) by decide +kernel) rfl (SGn hS (by decide)) (SGk hS rfl) (by decide) (by decide) rfl (fun hz => by cases hz) ?_
            obtain ⟨I11, eI11⟩ : ∃ I11 : zI, I11 = z_up I4 57 20 y7 := ⟨_, rfl⟩
            have k := k I11 eI11
            rw [← eI11]
            refine Ev_aload_n hq_130 (show decode prog_7_method_14_code 393 = .ok (.aload_n 0, 1) by decide +kernel) rfl ?_
            refine Ev_dup hq_130 (show decode prog_7_method_14_code 394 = .ok (.dup, 1) by decide +kernel) rfl ?_
            refine Ev_getI hq_130 (show decode prog_7_method_14_code 395 = .ok (.getfield 110, 3) by decide +kernel) rfl (SGn hS (by decide)) (SGk hS rfl) (by decide) rfl ?_
            refine Ev_iconst (v := 1) hq_130 (show decode prog_7_method_14_code 398 = .ok (.iconst 1, 1) by decide +kernel) (by decide) ?_
            refine Ev_iadd hq_130 (show decode prog_7_method_14_code 399 = .ok (.iadd, 1) by decide +kernel) ?_
            refine Ev_putI hq_130 (show decode prog_7_method_14_code 400 = .ok (.putfield 110, 3) by decide +kernel) rfl (SGn hS (by decide)) (SGk hS rfl) (by decide) (by decide) rfl (fun hz => by cases hz) ?_
            obtain ⟨I12, eI12⟩ : ∃ I12 : zI, I12 = z_up I11 57 18 ((I11 57 18) + 1) := ⟨_, rfl⟩
            have k := k I12 eI12
            rw [← eI12]
            exact Ev_vret hq_130 (show decode prog_7_method_14_code 403 = .ok (.return_, 1) by decide +kernel) k
          · have k := k.2 c10
            refine Ev_iload_n hq_130 (show decode prog_7_method_14_code 332 = .ok (.iload_n 1, 1) by decide +kernel) rfl ?_
            refine Ev_bipush (v := 41) hq_130 (show decode prog_7_method_14_code 333 = .ok (.bipush 41, 2) by decide +kernel) (by decide) ?_
            refine Ev_icmp_eq (tgt := 374) hq_130 (show decode prog_7_method_14_code 335 = .ok (.if_icmp .eq 39, 3) by decide +kernel) (by decide) (fun c13 => ?_) (fun c13 => ?_)
            · have k := k.1 c13
              refine Ev_iconst (v := 1) hq_130 (show decode prog_7_method_14_code 374 = .ok (.iconst 1, 1) by decide +kernel) (by decide) ?_
              refine Ev_goto (tgt := 379) hq_130 (show decode prog_7_method_14_code 375 = .ok (.goto 4, 3) by decide +kernel) (by decide) ?_
              refine Ev_istore_n (lo2 := [.ref 57, .int y7, .int 1]) hq_130 (show decode prog_7_method_14_code 379 = .ok (.istore_n 2, 1) by decide +kernel) (z_le rfl) rfl ?_
              refine Ev_aload_n hq_130 (show decode prog_7_method_14_code 380 = .ok (.aload_n 0, 1) by decide +kernel) rfl ?_
              refine Ev_iload_n hq_130 (show decode prog_7_method_14_code 381 = .ok (.iload_n 2, 1) by decide +kernel) rfl ?_
              refine Ev_if_eq (tgt := 389) hq_130 (show decode prog_7_method_14_code 382 = .ok (.ifCond .eq 7, 3) by decide +kernel) (by decide) (fun hz => absurd hz (by decide)) (fun _ => ?_)
              refine Ev_iload_n hq_130 (show decode prog_7_method_14_code 385 = .ok (.iload_n 1, 1) by decide +kernel) rfl ?_
              refine Ev_goto (tgt := 390) hq_130 (show decode prog_7_method_14_code 386 = .ok (.goto 4, 3) by decide +kernel) (by decide) ?_
              refine Ev_putI hq_130 (show decode prog_7_method_14_code 390 = .ok (.putfield 116, 3) by decide +kernel) rfl (SGn hS (by decide)) (SGk hS rfl) (by decide) (by decide) rfl (fun hz => by cases hz) ?_
              obtain ⟨I14, eI14⟩ : ∃ I14 : zI, I14 = z_up I4 57 20 y7 := ⟨_, rfl⟩
              have k := k I14 eI14
              rw [← eI14]
              refine Ev_aload_n hq_130 (show decode prog_7_method_14_code 393 = .ok (.aload_n 0, 1) by decide +kernel) rfl ?_
              refine Ev_dup hq_130 (show decode prog_7_method_14_code 394 = .ok (.dup, 1) by decide +kernel) rfl ?_
              refine Ev_getI hq_130 (show decode prog_7_method_14_code 395 = .ok (.getfield 110, 3) by decide +kernel) rfl (SGn hS (by decide)) (SGk hS rfl) (by decide) rfl ?_
              refine Ev_iconst (v := 1) hq_130 (show decode prog_7_method_14_code 398 = .ok (.iconst 1, 1) by decide +kernel) (by decide) ?_
              refine Ev_iadd hq_130 (show decode prog_7_method_14_code 399 = .ok (.iadd, 1) by decide +kernel) ?_
              refine Ev_putI hq_130 (show decode prog_7_method_14_code 400 = .ok (.putfield 110, 3) by decide +kernel) rfl (SGn hS (by decide)) (SGk hS rfl) (by decide) (by decide) rfl (fun hz => by cases hz) ?_
              obtain ⟨I15, eI15⟩ : ∃ I15 : zI, I15 = z_up I14 57 18 ((I14 57 18) + 1) := ⟨_, rfl⟩
              have k := k I15 eI15
              rw [← eI15]
              exact Ev_vret hq_130 (show decode prog_7_method_14_code 403 = .ok (.return_, 1) by decide +kernel) k
            · have k := k.2 c13
              refine Ev_iload_n hq_130 (show decode prog_7_method_14_code 338 = .ok (.iload_n 1, 1) by decide +kernel) rfl ?_
              refine Ev_bipush (v := 59) hq_130 (show decode prog_7_method_14_code 339 = .ok (.bipush 59, 2) by decide +kernel) (by decide) ?_
              refine Ev_icmp_eq (tgt := 374) hq_130 (show decode prog_7_method_14_code 341 = .ok (.if_icmp .eq 33, 3) by decide +kernel) (by decide) (fun c16 => ?_) (fun c16 => ?_)
              · have k := k.1 c16
                refine Ev_iconst (v := 1) hq_130 (show decode prog_7_method_14_code 374 = .ok (.iconst 1, 1) by decide +kernel) (by decide) ?_
                refine Ev_goto (tgt := 379) hq_130 (show decode prog_7_method_14_code 375 = .ok (.goto 4, 3) by decide +kernel) (by decide) ?_
                refine Ev_istore_n (lo2 := [.ref 57, .int y7, .int 1]) hq_130 (show decode prog_7_method_14_code 379 = .ok (.istore_n 2, 1) by decide +kernel) (z_le rfl) rfl ?_
                refine Ev_aload_n hq_130 (show decode prog_7_method_14_code 380 = .ok (.aload_n 0, 1) by decide +kernel) rfl ?_
                refine Ev_iload_n hq_130 (show decode prog_7_method_14_code 381 = .ok (.iload_n 2, 1) by decide +kernel) rfl ?_
                refine Ev_if_eq (tgt := 389) hq_130 (show decode prog_7_method_14_code 382 = .ok (.ifCond .eq 7, 3) by decide +kernel) (by decide) (fun hz => absurd hz (by decide)) (fun _ => ?_)
                refine Ev_iload_n hq_130 (show decode prog_7_method_14_code 385 = .ok (.iload_n 1, 1) by decide +kernel) rfl ?_
                refine Ev_goto (tgt := 390) hq_130 (show decode prog_7_method_14_code 386 = .ok (.goto 4, 3) by decide +kernel) (by decide) ?_
                refine Ev_putI hq_130 (show decode prog_7_method_14_code 390 = .ok (.putfield 116, 3) by decide +kernel) rfl (SGn hS (by decide)) (SGk hS rfl) (by decide) (by decide) rfl (fun hz => by cases hz) ?_
                obtain ⟨I17, eI17⟩ : ∃ I17 : zI, I17 = z_up I4 57 20 y7 := ⟨_, rfl⟩
                have k := k I17 eI17
                rw [← eI17]
                refine Ev_aload_n hq_130 (show decode prog_7_method_14_code 393 = .ok (.aload_n 0, 1) by decide +kernel) rfl ?_
                refine Ev_dup hq_130 (show decode prog_7_method_14_code 394 = .ok (.dup, 1) by decide +kernel) rfl ?_
                refine Ev_getI hq_130 (show decode prog_7_method_14_code 395 = .ok (.getfield 110, 3) by decide +kernel) rfl (SGn hS (by decide)) (SGk hS rfl) (by decide) rfl ?_
                refine Ev_iconst (v := 1) hq_130 (show decode prog_7_method_14_code 398 = .ok (.iconst 1, 1) by decide +kernel) (by decide) ?_
                refine Ev_iadd hq_130 (show decode prog_7_method_14_code 399 = .ok (.iadd, 1) by decide +kernel) ?_
                refine Ev_putI hq_130 (show decode prog_7_method_14_code 400 = .ok (.putfield 110, 3) by decide +kernel) rfl (SGn hS (by decide)) (SGk hS rfl) (by decide) (by decide) rfl (fun hz => by cases hz) ?_
                obtain ⟨I18, eI18⟩ : ∃ I18 : zI, I18 = z_up I17 57 18 ((I17 57 18) + 1) := ⟨_, rfl⟩
                have k := k I18 eI18
                rw [← eI18]
                exact Ev_vret hq_130 (show decode prog_7_method_14_code 403 = .ok (.return_, 1) by decide +kernel) k
              · have k := k.2 c16
                refine Ev_iload_n hq_130 (show decode prog_7_method_14_code 344 = .ok (.iload_n 1, 1) by decide +kernel) rfl ?_
                refine Ev_bipush (v := 43) hq_130 (show decode prog_7_method_14_code 345 = .ok (.bipush 43, 2) by decide +kernel) (by decide) ?_
                refine Ev_icmp_eq (tgt := 374) hq_130 (show decode prog_7_method_14_code 347 = .ok (.if_icmp .eq 27, 3) by decide +kernel) (by decide) (fun c19 => ?_) (fun c19 => ?_)
                · have k := k.1 c19
                  refine Ev_iconst (v := 1) hq_130 (show decode prog_7_method_14_code 374 = .ok (.iconst 1, 1) by decide +kernel) (by decide) ?_
                  refine Ev_goto (tgt := 379) hq_130 (show decode prog_7_method_14_code 375 = .ok (.goto 4, 3) by decide +kernel) (by decide) ?_
                  refine Ev_istore_n (lo2 := [.ref 57, .int y7, .int 1]) hq_130 (show decode prog_7_method_14_code 379 = .ok (.istore_n 2, 1) by decide +kernel) (z_le rfl) rfl ?_
                  refine Ev_aload_n hq_130 (show decode prog_7_method_14_code 380 = .ok (.aload_n 0, 1) by decide +kernel) rfl ?_
                  refine Ev_iload_n hq_130 (show decode prog_7_method_14_code 381 = .ok (.iload_n 2, 1) by decide +kernel) rfl ?_
                  refine Ev_if_eq (tgt := 389) hq_130 (show decode prog_7_method_14_code 382 = .ok (.ifCond .eq 7, 3) by decide +kernel) (by decide) (fun hz => absurd hz (by decide)) (fun _ => ?_)
                  refine Ev_iload_n hq_130 (show decode prog_7_method_14_code 385 = .ok (.iload_n 1, 1) by decide +kernel) rfl ?_
                  refine Ev_goto (tgt := 390) hq_130 (show decode prog_7_method_14_code 386 = .ok (.goto 4, 3) by decide +kernel) (by decide) ?_
                  refine Ev_putI hq_130 (show decode prog_7_method_14_code 390 = .ok (.putfield 116, 3) by decide +kernel) rfl (SGn hS (by decide)) (SGk hS rfl) (by decide) (by decide) rfl (fun hz => by cases hz) ?_
                  obtain ⟨I20, eI20⟩ : ∃ I20 : zI, I20 = z_up I4 57 20 y7 := ⟨_, rfl⟩
                  have k := k I20 eI20
                  rw [← eI20]
                  refine Ev_aload_n hq_130 (show decode prog_7_method_14_code 393 = .ok (.aload_n 0, 1) by decide +kernel) rfl ?_
                  refine Ev_dup hq_130 (show decode prog_7_method_14_code 394 = .ok (.dup, 1) by decide +kernel) rfl ?_
                  refine Ev_getI hq_130 (show decode prog_7_method_14_code 395 = .ok (.getfield 110, 3) by decide +kernel) rfl (SGn hS (by decide)) (SGk hS rfl) (by decide) rfl ?_
                  refine Ev_iconst (v := 1) hq_130 (show decode prog_7_method_14_code 398 = .ok (.iconst 1, 1) by decide +kernel) (by decide) ?_
                  refine Ev_iadd hq_130 (show decode prog_7_method_14_code 399 = .ok (.iadd, 1) by decide +kernel) ?_
                  refine Ev_putI hq_130 (show decode prog_7_method_14_code 400 = .ok (.putfield 110, 3) by decide +kernel) rfl (SGn hS (by decide)) (SGk hS rfl) (by decide) (by decide) rfl (fun hz => by cases hz) ?_
                  obtain ⟨I21, eI21⟩ : ∃ I21 : zI, I21 = z_up I20 57 18 ((I20 57 18) + 1) := ⟨_, rfl⟩
                  have k := k I21 eI21
                  rw [← eI21]
                  exact Ev_vret hq_130 (show decode prog_7_method_14_code 403 = .ok (.return_, 1) by decide +kernel) k
                · have k := k.2 c19
                  refine Ev_iload_n hq_130 (show decode prog_7_method_14_code 350 = .ok (.iload_n 1, 1) by decide +kernel) rfl ?_
                  refine Ev_bipush (v := 45) hq_130 (show decode prog_7_method_14_code 351 = .ok (.bipush 45, 2) by decide +kernel) (by decide) ?_
                  refine Ev_icmp_eq (tgt := 374) hq_130 (show decode prog_7_method_14_code 353 = .ok (.if_icmp .eq 21, 3) by decide +kernel) (by decide) (fun c22 => ?_) (fun c22 => ?_)
                  · have k := k.1 c22
                    refine Ev_iconst (v := 1) hq_130 (show decode prog_7_method_14_code 374 = .ok (.iconst 1, 1) by decide +kernel) (by decide) ?_
                    refine Ev_goto (tgt := 379) hq_130 (show decode prog_7_method_14_code 375 = .ok (.goto 4, 3) by decide +kernel) (by decide) ?_
                    refine Ev_istore_n (lo2 := [.ref 57, .int y7, .int 1]) hq_130 (show decode prog_7_method_14_code 379 = .ok (.istore_n 2, 1) by decide +kernel) (z_le rfl) rfl ?_
                    refine Ev_aload_n hq_130 (show decode prog_7_method_14_code 380 = .ok (.aload_n 0, 1) by decide +kernel) rfl ?_
                    refine Ev_iload_n hq_130 (show decode prog_7_method_14_code 381 = .ok (.iload_n 2, 1) by decide +kernel) rfl ?_
                    refine Ev_if_eq (tgt := 389) hq_130 (show decode prog_7_method_14_code 382 = .ok (.ifCond .eq 7, 3) by decide +kernel) (by decide) (fun hz => absurd hz (by decide)) (fun _ => ?_)
                    refine Ev_iload_n hq_130 (show decode prog_7_method_14_code 385 = .ok (.iload_n 1, 1) by decide +kernel) rfl ?_
                    refine Ev_goto (tgt := 390) hq_130 (show decode prog_7_method_14_code 386 = .ok (.goto 4, 3) by decide +kernel) (by decide) ?_
                    refine Ev_putI hq_130 (show decode prog_7_method_14_code 390 = .ok (.putfield 116, 3) by decide +kernel) rfl (SGn hS (by decide)) (SGk hS rfl) (by decide) (by decide) rfl (fun hz => by cases hz) ?_
                    obtain ⟨I23, eI23⟩ : ∃ I23 : zI, I23 = z_up I4 57 20 y7 := ⟨_, rfl⟩
                    have k := k I23 eI23
                    rw [← eI23]
                    refine Ev_aload_n hq_130 (show decode prog_7_method_14_code 393 = .ok (.aload_n 0, 1) by decide +kernel) rfl ?_
                    refine Ev_dup hq_130 (show decode prog_7_method_14_code 394 = .ok (.dup, 1) by decide +kernel) rfl ?_
                    refine Ev_getI hq_130 (show decode prog_7_method_14_code 395 = .ok (.getfield 110, 3) by decide +kernel) rfl (SGn hS (by decide)) (SGk hS rfl) (by decide) rfl ?_
                    refine Ev_iconst (v := 1) hq_130 (show decode prog_7_method_14_code 398 = .ok (.iconst 1, 1) by decide +kernel) (by decide) ?_
                    refine Ev_iadd hq_130 (show decode prog_7_method_14_code 399 = .ok (.iadd, 1) by decide +kernel) ?_
                    refine Ev_putI hq_130 (show decode prog_7_method_14_code 400 = .ok (.putfield 110, 3) by decide +kernel) rfl (SGn hS (by decide)) (SGk hS rfl) (by decide) (by decide) rfl (fun hz => by cases hz) ?_
                    obtain ⟨I24, eI24⟩ : ∃ I24 : zI, I24 = z_up I23 57 18 ((I23 57 18) + 1) := ⟨_, rfl⟩
                    have k := k I24 eI24
                    rw [← eI24]
                    exact Ev_vret hq_130 (show decode prog_7_method_14_code 403 = .ok (.return_, 1) by decide +kernel) k
                  · have k := k.2 c22
                    refine Ev_iload_n hq_130 (show decode prog_7_method_14_code 356 = .ok (.iload_n 1, 1) by decide +kernel) rfl ?_
                    refine Ev_bipush (v := 42) hq_130 (show decode prog_7_method_14_code 357 = .ok (.bipush 42, 2) by decide +kernel) (by decide) ?_
                    refine Ev_icmp_eq (tgt := 374) hq_130 (show decode prog_7_method_14_code 359 = .ok (.if_icmp .eq 15, 3) by decide +kernel) (by decide) (fun c25 => ?_) (fun c25 => ?_)
                    · have k := k.1 c25
                      refine Ev_iconst (v := 1) hq_130 (show decode prog_7_method_14_code 374 = .ok (.iconst 1, 1) by decide +kernel) (by decide) ?_
                      refine Ev_goto (tgt := 379) hq_130 (show decode prog_7_method_14_code 375 = .ok (.goto 4, 3) by decide +kernel) (by decide) ?_
                      refine Ev_istore_n (lo2 := [.ref 57, .int y7, .int 1]) hq_130 (show decode prog_7_method_14_code 379 = .ok (.istore_n 2, 1) by decide +kernel) (z_le rfl) rfl ?_
                      refine Ev_aload_n hq_130 (show decode prog_7_method_14_code 380 = .ok (.aload_n 0, 1) by decide +kernel) rfl ?_
                      refine Ev_iload_n hq_130 (show decode prog_7_method_14_code 381 = .ok (.iload_n 2, 1) by decide +kernel) rfl ?_
                      refine Ev_if_eq (tgt := 389) hq_130 (show decode prog_7_method_14_code 382 = .ok (.ifCond .eq 7, 3) by decide +kernel) (by decide) (fun hz => absurd hz (by decide)) (fun _ => ?_)
                      refine Ev_iload_n hq_130 (show decode prog_7_method_14_code 385 = .ok (.iload_n 1, 1) by decide +kernel) rfl ?_
                      refine Ev_goto (tgt := 390) hq_130 (show decode prog_7_method_14_code 386 = .ok (.goto 4, 3) by decide +kernel) (by decide) ?_
                      refine Ev_putI hq_130 (show decode prog_7_method_14_code 390 = .ok (.putfield 116, 3) by decide +kernel) rfl (SGn hS (by decide)) (SGk hS rfl) (by decide) (by decide) rfl (fun hz => by cases hz) ?_
                      obtain ⟨I26, eI26⟩ : ∃ I26 : zI, I26 = z_up I4 57 20 y7 := ⟨_, rfl⟩
                      have k := k I26 eI26
                      rw [← eI26]
                      refine Ev_aload_n hq_130 (show decode prog_7_method_14_code 393 = .ok (.aload_n 0, 1) by decide +kernel) rfl ?_
                      refine Ev_dup hq_130 (show decode prog_7_method_14_code 394 = .ok (.dup, 1) by decide +kernel) rfl ?_
                      refine Ev_getI hq_130 (show decode prog_7_method_14_code 395 = .ok (.getfield 110, 3) by decide +kernel) rfl (SGn hS (by decide)) (SGk hS rfl) (by decide) rfl ?_
                      refine Ev_iconst (v := 1) hq_130 (show decode prog_7_method_14_code 398 = .ok (.iconst 1, 1) by decide +kernel) (by decide) ?_
                      refine Ev_iadd hq_130 (show decode prog_7_method_14_code 399 = .ok (.iadd, 1) by decide +kernel) ?_
                      refine Ev_putI hq_130 (show decode prog_7_method_14_code 400 = .ok (.putfield 110, 3) by decide +kernel) rfl (SGn hS (by decide)) (SGk hS rfl) (by decide) (by decide) rfl (fun hz => by cases hz) ?_
                      obtain ⟨I27, eI27⟩ : ∃ I27 : zI, I27 = z_up I26 57 18 ((I26 57 18) + 1) := ⟨_, rfl⟩
                      have k := k I27 eI27
                      rw [← eI27]
                      exact Ev_vret hq_130 (show decode prog_7_method_14_code 403 = .ok (.return_, 1) by decide +kernel) k
                    · have k := k.2 c25
                      refine Ev_iload_n hq_130 (show decode prog_7_method_14_code 362 = .ok (.iload_n 1, 1) by decide +kernel) rfl ?_
                      refine Ev_bipush (v := 60) hq_130 (show decode prog_7_method_14_code 363 = .ok (.bipush 60, 2) by decide +kernel) (by decide) ?_
                      refine Ev_icmp_eq (tgt := 374) hq_130 (show decode prog_7_method_14_code 365 = .ok (.if_icmp .eq 9, 3) by decide +kernel) (by decide) (fun c28 => ?_) (fun c28 => ?_)
                      · have k := k.1 c28
                        refine Ev_iconst (v := 1) hq_130 (show decode prog_7_method_14_code 374 = .ok (.iconst 1, 1) by decide +kernel) (by decide) ?_
                        refine Ev_goto (tgt := 379) hq_130 (show decode prog_7_method_14_code 375 = .ok (.goto 4, 3) by decide +kernel) (by decide) ?_
                        refine Ev_istore_n (lo2 := [.ref 57, .int y7, .int 1]) hq_130 (show decode prog_7_method_14_code 379 = .ok (.istore_n 2, 1) by decide +kernel) (z_le rfl) rfl ?_
                        refine Ev_aload_n hq_130 (show decode prog_7_method_14_code 380 = .ok (.aload_n 0, 1) by decide +kernel) rfl ?_
                        refine Ev_iload_n hq_130 (show decode prog_7_method_14_code 381 = .ok (.iload_n 2, 1) by decide +kernel) rfl ?_
                        refine Ev_if_eq (tgt := 389) hq_130 (show decode prog_7_method_14_code 382 = .ok (.ifCond .eq 7, 3) by decide +kernel) (by decide) (fun hz => absurd hz (by decide)) (fun _ => ?_)
                        refine Ev_iload_n hq_130 (show decode prog_7_method_14_code 385 = .ok (.iload_n 1, 1) by decide +kernel) rfl ?_
                        refine Ev_goto (tgt := 390) hq_130 (show decode prog_7_method_14_code 386 = .ok (.goto 4, 3) by decide +kernel) (by decide) ?_
                        refine Ev_putI hq_130 (show decode prog_7_method_14_code 390 = .ok (.putfield 116, 3) by decide +kernel) rfl (SGn hS (by decide)) (SGk hS rfl) (by decide) (by decide) rfl (fun hz => by cases hz) ?_
                        obtain ⟨I29, eI29⟩ : ∃ I29 : zI, I29 = z_up I4 57 20 y7 := ⟨_, rfl⟩
                        have k := k I29 eI29
                        rw [← eI29]
                        refine Ev_aload_n hq_130 (show decode prog_7_method_14_code 393 = .ok (.aload_n 0, 1) by decide +kernel) rfl ?_
                        refine Ev_dup hq_130 (show decode prog_7_method_14_code 394 = .ok (.dup, 1) by decide +kernel) rfl ?_
                        refine Ev_getI hq_130 (show decode prog_7_method_14_code 395 = .ok (.getfield 110, 3) by decide +kernel) rfl (SGn hS (by decide)) (SGk hS rfl) (by decide) rfl ?_
                        refine Ev_iconst (v := 1) hq_130 (show decode prog_7_method_14_code 398 = .ok (.iconst 1, 1) by decide +kernel) (by decide) ?_
                        refine Ev_iadd hq_130 (show decode prog_7_method_14_code 399 = .ok (.iadd, 1) by decide +kernel) ?_
                        refine Ev_putI hq_130 (show decode prog_7_method_14_code 400 = .ok (.putfield 110, 3) by decide +kernel) rfl (SGn hS (by decide)) (SGk hS rfl) (by decide) (by decide) rfl (fun hz => by cases hz) ?_
                        obtain ⟨I30, eI30⟩ : ∃ I30 : zI, I30 = z_up I29 57 18 ((I29 57 18) + 1) := ⟨_, rfl⟩
                        have k := k I30 eI30
                        rw [← eI30]
                        exact Ev_vret hq_130 (show decode prog_7_method_14_code 403 = .ok (.return_, 1) by decide +kernel) k
                      · have k := k.2 c28
                        refine Ev_iload_n hq_130 (show decode prog_7_method_14_code 368 = .ok (.iload_n 1, 1) by decide +kernel) rfl ?_
                        refine Ev_bipush (v := 61) hq_130 (show decode prog_7_method_14_code 369 = .ok (.bipush 61, 2) by decide +kernel) (by decide) ?_
                        refine Ev_icmp_ne (tgt := 378) hq_130 (show decode prog_7_method_14_code 371 = .ok (.if_icmp .ne 7, 3) by decide +kernel) (by decide) (fun c31 => ?_) (fun c31 => ?_)
                        · have k := k.1 c31
                          refine Ev_iconst (v := 0) hq_130 (show decode prog_7_method_14_code 378 = .ok (.iconst 0, 1) by decide +kernel) (by decide) ?_
                          refine Ev_istore_n (lo2 := [.ref 57, .int y7, .int 0]) hq_130 (show decode prog_7_method_14_code 379 = .ok (.istore_n 2, 1) by decide +kernel) (z_le rfl) rfl ?_
                          refine Ev_aload_n hq_130 (show decode prog_7_method_14_code 380 = .ok (.aload_n 0, 1) by decide +kernel) rfl ?_
                          refine Ev_iload_n hq_130 (show decode prog_7_method_14_code 381 = .ok (.iload_n 2, 1) by decide +kernel) rfl ?_
                          refine Ev_if_eq (tgt := 389) hq_130 (show decode prog_7_method_14_code 382 = .ok (.ifCond .eq 7, 3) by decide +kernel) (by decide) (fun _ => ?_) (fun hz => absurd (by decide) hz)
                          refine Ev_iconst (v := (-1)) hq_130 (show decode prog_7_method_14_code 389 = .ok (.iconst (-1), 1) by decide +kernel) (by decide) ?_
                          refine Ev_putI hq_130 (show decode prog_7_method_14_code 390 = .ok (.putfield 116, 3) by decide +kernel) rfl (SGn hS (by decide)) (SGk hS rfl) (by decide) (by decide) rfl (fun hz => by cases hz) ?_
                          obtain ⟨I32, eI32⟩ : ∃ I32 : zI, I32 = z_up I4 57 20 (-1) := ⟨_, rfl⟩
                          have k := k I32 eI32
                          rw [← eI32]
                          refine Ev_aload_n hq_130 (show decode prog_7_method_14_code 393 = .ok (.aload_n 0, 1) by decide +kernel) rfl ?_
                          refine Ev_dup hq_130 (show decode prog_7_method_14_code 394 = .ok (.dup, 1) by decide +kernel) rfl ?_
                          refine Ev_getI hq_130 (show decode prog_7_method_14_code 395 = .ok (.getfield 110, 3) by decide +kernel) rfl (SGn hS (by decide)) (SGk hS rfl) (by decide) rfl ?_
                          refine Ev_iconst (v := 1) hq_130 (show decode prog_7_method_14_code 398 = .ok (.iconst 1, 1) by decide +kernel) (by decide) ?_
                          refine Ev_iadd hq_130 (show decode prog_7_method_14_code 399 = .ok (.iadd, 1) by decide +kernel) ?_
                          refine Ev_putI hq_130 (show decode prog_7_method_14_code 400 = .ok (.putfield 110, 3) by decide +kernel) rfl (SGn hS (by decide)) (SGk hS rfl) (by decide) (by decide) rfl (fun hz => by cases hz) ?_
                          obtain ⟨I33, eI33⟩ : ∃ I33 : zI, I33 = z_up I32 57 18 ((I32 57 18) + 1) := ⟨_, rfl⟩
                          have k := k I33 eI33
                          rw [← eI33]
                          exact Ev_vret hq_130 (show decode prog_7_method_14_code 403 = .ok (.return_, 1) by decide +kernel) k
                        · have k := k.2 (Classical.not_not.mp c31)
                          refine Ev_iconst (v := 1) hq_130 (show decode prog_7_method_14_code 374 = .ok (.iconst 1, 1) by decide +kernel) (by decide) ?_
                          refine Ev_goto (tgt := 379) hq_130 (show decode prog_7_method_14_code 375 = .ok (.goto 4, 3) by decide +kernel) (by decide) ?_
                          refine Ev_istore_n (lo2 := [.ref 57, .int y7, .int 1]) hq_130 (show decode prog_7_method_14_code 379 = .ok (.istore_n 2, 1) by decide +kernel) (z_le rfl) rfl ?_
                          refine Ev_aload_n hq_130 (show decode prog_7_method_14_code 380 = .ok (.aload_n 0, 1) by decide +kernel) rfl ?_
                          refine Ev_iload_n hq_130 (show decode prog_7_method_14_code 381 = .ok (.iload_n 2, 1) by decide +kernel) rfl ?_
                          refine Ev_if_eq (tgt := 389) hq_130 (show decode prog_7_method_14_code 382 = .ok (.ifCond .eq 7, 3) by decide +kernel) (by decide) (fun hz => absurd hz (by decide)) (fun _ => ?_)
                          refine Ev_iload_n hq_130 (show decode prog_7_method_14_code 385 = .ok (.iload_n 1, 1) by decide +kernel) rfl ?_
                          refine Ev_goto (tgt := 390) hq_130 (show decode prog_7_method_14_code 386 = .ok (.goto 4, 3) by decide +kernel) (by decide) ?_
                          refine Ev_putI hq_130 (show decode prog_7_method_14_code 390 = .ok (.putfield 116, 3) by decide +kernel) rfl (SGn hS (by decide)) (SGk hS rfl) (by decide) (by decide) rfl (fun hz => by cases hz) ?_
                          obtain ⟨I34, eI34⟩ : ∃ I34 : zI, I34 = z_up I4 57 20 y7 := ⟨_, rfl⟩
                          have k := k I34 eI34
                          rw [← eI34]
                          refine Ev_aload_n hq_130 (show decode prog_7_method_14_code 393 = .ok (.aload_n 0, 1) by decide +kernel) rfl ?_
                          refine Ev_dup hq_130 (show decode prog_7_method_14_code 394 = .ok (.dup, 1) by decide +kernel) rfl ?_
                          refine Ev_getI hq_130 (show decode prog_7_method_14_code 395 = .ok (.getfield 110, 3) by decide +kernel) rfl (SGn hS (by decide)) (SGk hS rfl) (by decide) rfl ?_
                          refine Ev_iconst (v := 1) hq_130 (show decode prog_7_method_14_code 398 = .ok (.iconst 1, 1) by decide +kernel) (by decide) ?_
                          refine Ev_iadd hq_130 (show decode prog_7_method_14_code 399 = .ok (.iadd, 1) by decide +kernel) ?_
                          refine Ev_putI hq_130 (show decode prog_7_method_14_code 400 = .ok (.putfield 110, 3) by decide +kernel) rfl (SGn hS (by decide)) (SGk hS rfl) (by decide) (by decide) rfl (fun hz => by cases hz) ?_
                          obtain ⟨I35, eI35⟩ : ∃ I35 : zI, I35 = z_up I34 57 18 ((I34 57 18) + 1) := ⟨_, rfl⟩
                          have k := k I35 eI35
                          rw [← eI35]
                          exact Ev_vret hq_130 (show decode prog_7_method_14_code 403 = .ok (.return_, 1) by decide +kernel) k
        · have k := k.2 c9
          refine Ev_iconst (v := 0) hq_130 (show decode prog_7_method_14_code 228 = .ok (.iconst 0, 1) by decide +kernel) (by decide) ?_
          refine Ev_istore_n (lo2 := [.ref 57, .int y7, .int 0]) hq_130 (show decode prog_7_method_14_code 229 = .ok (.istore_n 2, 1) by decide +kernel) (z_le rfl) rfl ?_
          exact k
      · have k := k.2 c8
        exact k
    · have k := k.2 (Classical.not_not.mp c5)
      exact Ev_vret hq_130 (show decode prog_7_method_14_code 81 = .ok (.return_, 1) by decide +kernel) k
  · have k := k.2 c1
    refine Ev_aload_n hq_130 (show decode prog_7_method_14_code 11 = .ok (.aload_n 0, 1) by decide +kernel) rfl ?_
    refine Ev_getR hq_130 (show decode prog_7_method_14_code 12 = .ok (.getfield 19, 3) by decide +kernel) rfl (SGn hS (by decide)) (SGk hS rfl) (by decide) rfl (SGr hS rfl) ?_
    refine Ev_aload_n hq_130 (show decode prog_7_method_14_code 15 = .ok (.aload_n 0, 1) by decide +kernel) rfl ?_
    refine Ev_getI hq_130 (show decode prog_7_method_14_code 16 = .ok (.getfield 110, 3) by decide +kernel) rfl (SGn hS (by decide)) (SGk hS rfl) (by decide) rfl ?_
    obtain ⟨h36, k⟩ := k
    refine Ev_iald hq_130 (show decode prog_7_method_14_code 19 = .ok (.iaload, 1) by decide +kernel) (SGn hS (by decide)) (SGk hS rfl) (SGi hS rfl h36) ?_
    refine Ev_bipush (v := 32) hq_130 (show decode prog_7_method_14_code 20 = .ok (.bipush 32, 2) by decide +kernel) (by decide) ?_
    refine Ev_icmp_eq (tgt := 39) hq_130 (show decode prog_7_method_14_code 22 = .ok (.if_icmp .eq 17, 3) by decide +kernel) (by decide) (fun c37 => ?_) (fun c37 => ?_)
    · have k := k.1 c37
      refine Ev_aload_n hq_130 (show decode prog_7_method_14_code 39 = .ok (.aload_n 0, 1) by decide +kernel) rfl ?_
      refine Ev_dup hq_130 (show decode prog_7_method_14_code 40 = .ok (.dup, 1) by decide +kernel) rfl ?_
      refine Ev_getI hq_130 (show decode prog_7_method_14_code 41 = .ok (.getfield 110, 3) by decide +kernel) rfl (SGn hS (by decide)) (SGk hS rfl) (by decide) rfl ?_
      refine Ev_iconst (v := 1) hq_130 (show decode prog_7_method_14_code 44 = .ok (.iconst 1, 1) by decide +kernel) (by decide) ?_
      refine Ev_iadd hq_130 (show decode prog_7_method_14_code 45 = .ok (.iadd, 1) by decide +kernel) ?_
      refine Ev_putI hq_130 (show decode prog_7_method_14_code 46 = .ok (.putfield 110, 3) by decide +kernel) rfl (SGn hS (by decide)) (SGk hS rfl) (by decide) (by decide) rfl (fun hz => by cases hz) ?_
      obtain ⟨I38, eI38⟩ : ∃ I38 : zI, I38 = z_up I 57 18 ((I 57 18) + 1) := ⟨_, rfl⟩
      have k := k I38 eI38
      rw [← eI38]
      refine Ev_goto (tgt := 0) hq_130 (show decode prog_7_method_14_code 49 = .ok (.goto (-49), 3) by decide +kernel) (by decide) ?_
      exact k
    · have k := k.2 c37
      refine Ev_aload_n hq_130 (show decode prog_7_method_14_code 25 = .ok (.aload_n 0, 1) by decide +kernel) rfl ?_
      refine Ev_getR hq_130 (show decode prog_7_method_14_code 26 = .ok (.getfield 19, 3) by decide +kernel) rfl (SGn hS (by decide)) (SGk hS rfl) (by decide) rfl (SGr hS rfl) ?_
      refine Ev_aload_n hq_130 (show decode prog_7_method_14_code 29 = .ok (.aload_n 0, 1) by decide +kernel) rfl ?_
      refine Ev_getI hq_130 (show decode prog_7_method_14_code 30 = .ok (.getfield 110, 3) by decide +kernel) rfl (SGn hS (by decide)) (SGk hS rfl) (by decide) rfl ?_
      obtain ⟨h39, k⟩ := k
      refine Ev_iald hq_130 (show decode prog_7_method_14_code 33 = .ok (.iaload, 1) by decide +kernel) (SGn hS (by decide)) (SGk hS rfl) (SGi hS rfl h39) ?_
      refine Ev_bipush (v := 10) hq_130 (show decode prog_7_method_14_code 34 = .ok (.bipush 10, 2) by decide +kernel) (by decide) ?_
      refine Ev_icmp_ne (tgt := 52) hq_130 (show decode prog_7_method_14_code 36 = .ok (.if_icmp .ne 16, 3) by decide +kernel) (by decide) (fun c40 => ?_) (fun c40 => ?_)
      · have k := k.1 c40
        refine Ev_aload_n hq_130 (show decode prog_7_method_14_code 52 = .ok (.aload_n 0, 1) by decide +kernel) rfl ?_
        refine Ev_aload_n hq_130 (show decode prog_7_method_14_code 53 = .ok (.aload_n 0, 1) by decide +kernel) rfl ?_
        refine Ev_getI hq_130 (show decode prog_7_method_14_code 54 = .ok (.getfield 110, 3) by decide +kernel) rfl (SGn hS (by decide)) (SGk hS rfl) (by decide) rfl ?_
        refine Ev_putI hq_130 (show decode prog_7_method_14_code 57 = .ok (.putfield 113, 3) by decide +kernel) rfl (SGn hS (by decide)) (SGk hS rfl) (by decide) (by decide) rfl (fun hz => by cases hz) ?_
        obtain ⟨I41, eI41⟩ : ∃ I41 : zI, I41 = z_up I 57 19 (I 57 18) := ⟨_, rfl⟩
        have k := k I41 eI41
        rw [← eI41]
        refine Ev_aload_n hq_130 (show decode prog_7_method_14_code 60 = .ok (.aload_n 0, 1) by decide +kernel) rfl ?_
        refine Ev_iconst (v := 0) hq_130 (show decode prog_7_method_14_code 61 = .ok (.iconst 0, 1) by decide +kernel) (by decide) ?_
        refine Ev_putI hq_130 (show decode prog_7_method_14_code 62 = .ok (.putfield 116, 3) by decide +kernel) rfl (SGn hS (by decide)) (SGk hS rfl) (by decide) (by decide) rfl (fun hz => by cases hz) ?_
        obtain ⟨I42, eI42⟩ : ∃ I42 : zI, I42 = z_up I41 57 20 0 := ⟨_, rfl⟩
        have k := k I42 eI42
        rw [← eI42]
        refine Ev_aload_n hq_130 (show decode prog_7_method_14_code 65 = .ok (.aload_n 0, 1) by decide +kernel) rfl ?_
        refine Ev_iconst (v := 0) hq_130 (show decode prog_7_method_14_code 66 = .ok (.iconst 0, 1) by decide +kernel) (by decide) ?_
        refine Ev_putI hq_130 (show decode prog_7_method_14_code 67 = .ok (.putfield 119, 3) by decide +kernel) rfl (SGn hS (by decide)) (SGk hS rfl) (by decide) (by decide) rfl (fun hz => by cases hz) ?_
        obtain ⟨I43, eI43⟩ : ∃ I43 : zI, I43 = z_up I42 57 21 0 := ⟨_, rfl⟩
        have k := k I43 eI43
        rw [← eI43]
        refine Ev_aload_n hq_130 (show decode prog_7_method_14_code 70 = .ok (.aload_n 0, 1) by decide +kernel) rfl ?_
        refine Ev_getI hq_130 (show decode prog_7_method_14_code 71 = .ok (.getfield 110, 3) by decide +kernel) rfl (SGn hS (by decide)) (SGk hS rfl) (by decide) rfl ?_
        refine Ev_aload_n hq_130 (show decode prog_7_method_14_code 74 = .ok (.aload_n 0, 1) by decide +kernel) rfl ?_
        refine Ev_getI hq_130 (show decode prog_7_method_14_code 75 = .ok (.getfield 80, 3) by decide +kernel) rfl (SGn hS (by decide)) (SGk hS rfl) (by decide) rfl ?_
        refine Ev_icmp_ne (tgt := 82) hq_130 (show decode prog_7_method_14_code 78 = .ok (.if_icmp .ne 4, 3) by decide +kernel) (by decide) (fun c44 => ?_) (fun c44 => ?_)
        · have k := k.1 c44
          refine Ev_aload_n hq_130 (show decode prog_7_method_14_code 82 = .ok (.aload_n 0, 1) by decide +kernel) rfl ?_
          refine Ev_getR hq_130 (show decode prog_7_method_14_code 83 = .ok (.getfield 19, 3) by decide +kernel) rfl (SGn hS (by decide)) (SGk hS rfl) (by decide) rfl (SGr hS rfl) ?_
          refine Ev_aload_n hq_130 (show decode prog_7_method_14_code 86 = .ok (.aload_n 0, 1) by decide +kernel) rfl ?_
          refine Ev_getI hq_130 (show decode prog_7_method_14_code 87 = .ok (.getfield 110, 3) by decide +kernel) rfl (SGn hS (by decide)) (SGk hS rfl) (by decide) rfl ?_
          obtain ⟨h45, k⟩ := k
          refine Ev_iald hq_130 (show decode prog_7_method_14_code 90 = .ok (.iaload, 1) by decide +kernel) (SGn hS (by decide)) (SGk hS rfl) (SGi hS rfl h45) ?_
          obtain ⟨y46, ey46⟩ : ∃ y46 : Int32, y46 = (I43 61 (I43 57 18).toNatClampNeg) := ⟨_, rfl⟩
          have k := k y46 ey46
          rw [← ey46]
          refine Ev_istore_n (lo2 := [.ref 57, .int y46, zU]) hq_130 (show decode prog_7_method_14_code 91 = .ok (.istore_n 1, 1) by decide +kernel) (z_le rfl) rfl ?_
          refine Ev_iload_n hq_130 (show decode prog_7_method_14_code 92 = .ok (.iload_n 1, 1) by decide +kernel) rfl ?_
          refine Ev_bipush (v := 97) hq_130 (show decode prog_7_method_14_code 93 = .ok (.bipush 97, 2) by decide +kernel) (by decide) ?_
          refine Ev_bipush (v := 122) hq_130 (show decode prog_7_method_14_code 95 = .ok (.bipush 122, 2) by decide +kernel) (by decide) ?_
          refine Ev_stat (as := [.int y46, .int 97, .int 122]) hq_130 (show decode prog_7_method_14_code 97 = .ok (.invokestatic 90, 3) by decide +kernel) rfl (Or.inl rfl) hq_131 rfl (z_le rfl) (c_Z_in y46 97 122) ?_
          refine Ev_if_eq (tgt := 217) hq_130 (show decode prog_7_method_14_code 100 = .ok (.ifCond .eq 117, 3) by decide +kernel) (by decide) (fun c47 => ?_) (fun c47 => ?_)
          · have k := k.1 c47
            refine Ev_iload_n hq_130 (show decode prog_7_method_14_code 217 = .ok (.iload_n 1, 1) by decide +kernel) rfl ?_
            refine Ev_bipush (v := 48) hq_130 (show decode prog_7_method_14_code 218 = .ok (.bipush 48, 2) by decide +kernel) (by decide) ?_
            refine Ev_bipush (v := 57) hq_130 (show decode prog_7_method_14_code 220 = .ok (.bipush 57, 2) by decide +kernel) (by decide) ?_
            refine Ev_stat (as := [.int y46, .int 48, .int 57]) hq_130 (show decode prog_7_method_14_code 222 = .ok (.invokestatic 90, 3) by decide +kernel) rfl (Or.inl rfl) hq_131 rfl (z_le rfl) (c_Z_in y46 48 57) ?_
            refine Ev_if_eq (tgt := 326) hq_130 (show decode prog_7_method_14_code 225 = .ok (.ifCond .eq 101, 3) by decide +kernel) (by decide) (fun c48 => ?_) (fun c48 => ?_)
            · have k := k.1 c48
              refine Ev_iload_n hq_130 (show decode prog_7_method_14_code 326 = .ok (.iload_n 1, 1) by decide +kernel) rfl ?_
              refine Ev_bipush (v := 40) hq_130 (show decode prog_7_method_14_code 327 = .ok (.bipush 40, 2) by decide +kernel) (by decide) ?_
              refine Ev_icmp_eq (tgt := 374) hq_130 (show decode prog_7_method_14_code 329 = .ok (.if_icmp .eq 45, 3) by decide +kernel) (by decide) (fun c49 => ?_) (fun c49 => ?_)
              · have k := k.1 c49
                refine Ev_iconst (v := 1) hq_130 (show decode prog_7_method_14_code 374 = .ok (.iconst 1, 1) by decide +kernel) (by decide) ?_
                refine Ev_goto (tgt := 379) hq_130 (show decode prog_7_method_14_code 375 = .ok (.goto 4, 3) by decide +kernel) (by decide) ?_
                refine Ev_istore_n (lo2 := [.ref 57, .int y46, .int 1]) hq_130 (show decode prog_7_method_14_code 379 = .ok (.istore_n 2, 1) by decide +kernel) (z_le rfl) rfl ?_
                refine Ev_aload_n hq_130 (show decode prog_7_method_14_code 380 = .ok (.aload_n 0, 1) by decide +kernel) rfl ?_
                refine Ev_iload_n hq_130 (show decode prog_7_method_14_code 381 = .ok (.iload_n 2, 1) by decide +kernel) rfl ?_
                refine Ev_if_eq (tgt := 389) hq_130 (show decode prog_7_method_14_code 382 = .ok (.ifCond .eq 7, 3) by decide +kernel) (by decide) (fun hz => absurd hz (by decide)) (fun _ => ?_)
                refine Ev_iload_n hq_130 (show decode prog_7_method_14_code 385 = .ok (.iload_n 1, 1) by decide +kernel) rfl ?_
                refine Ev_goto (tgt := 390) hq_130 (show decode prog_7_method_14_code 386 = .ok (.goto 4, 3) by decide +kernel) (by decide) ?_
                refine Ev_putI hq_130 (show decode prog_7_method_14_code 390 = .ok (.putfield 116, 3) by decide +kernel) rfl (SGn hS (by decide)) (SGk hS rfl) (by decide) (by decide) rfl (fun hz => by cases hz) ?_
                obtain ⟨I50, eI50⟩ : ∃ I50 : zI, I50 = z_up I43 57 20 y46 := ⟨_, rfl⟩
                have k := k I50 eI50
                rw [← eI50]
                refine Ev_aload_n hq_130 (show decode prog_7_method_14_code 393 = .ok (.aload_n 0, 1) by decide +kernel) rfl ?_
                refine Ev_dup hq_130 (show decode prog_7_method_14_code 394 = .ok (.dup, 1) by decide +kernel) rfl ?_
                refine Ev_getI hq_130 (show decode prog_7_method_14_code 395 = .ok (.getfield 110, 3) by decide +kernel) rfl (SGn hS (by decide)) (SGk hS rfl) (by decide) rfl ?_
                refine Ev_iconst (v := 1) hq_130 (show decode prog_7_method_14_code 398 = .ok (.iconst 1, 1) by decide +kernel) (by decide) ?_
                refine Ev_iadd hq_130 (show decode prog_7_method_14_code 399 = .ok (.iadd, 1) by decide +kernel) ?_
                refine Ev_putI hq_130 (show decode prog_7_method_14_code 400 = .ok (.putfield 110, 3) by decide +kernel) rfl (SGn hS (by decide)) (SGk hS rfl) (by decide) (by decide) rfl (fun hz => by cases hz) ?_
                obtain ⟨I51, eI51⟩ : ∃ I51 : zI, I51 = z_up I50 57 18 ((I50 57 18) + 1) := ⟨_, rfl⟩
                have k := k I51 eI51
                rw [← eI51]
                exact Ev_vret hq_130 (show decode prog_7_method_14_code 403 = .ok (.return_, 1) by decide +kernel) k
              · have k := k.2 c49
                refine Ev_iload_n hq_130 (show decode prog_7_method_14_code 332 = .ok (.iload_n 1, 1) by decide +kernel) rfl ?_
                refine Ev_bipush (v := 41) hq_130 (show decode prog_7_method_14_code 333 = .ok (.bipush 41, 2) by decide +kernel) (by decide) ?_
                refine Ev_icmp_eq (tgt := 374) hq_130 (show decode prog_7_method_14_code 335 = .ok (.if_icmp .eq 39, 3) by decide +kernel) (by decide) (fun c52 => ?_) (fun c52 => ?_)
                · have k := k.1 c52
                  refine Ev_iconst (v := 1) hq_130 (show decode prog_7_method_14_code 374 = .ok (.iconst 1, 1) by decide +kernel) (by decide) ?_
                  refine Ev_goto (tgt := 379) hq_130 (show decode prog_7_method_14_code 375 = .ok (.goto 4, 3) by decide +kernel) (by decide) ?_
                  refine Ev_istore_n (lo2 := [.ref 57, .int y46, .int 1]) hq_130 (show decode prog_7_method_14_code 379 = .ok (.istore_n 2, 1) by decide +kernel) (z_le rfl) rfl ?_
                  refine Ev_aload_n hq_130 (show decode prog_7_method_14_code 380 = .ok (.aload_n 0, 1) by decide +kernel) rfl ?_
                  refine Ev_iload_n hq_130 (show decode prog_7_method_14_code 381 = .ok (.iload_n 2, 1) by decide +kernel) rfl ?_
                  refine Ev_if_eq (tgt := 389) hq_130 (show decode prog_7_method_14_code 382 = .ok (.ifCond .eq 7, 3) by decide +kernel) (by decide) (fun hz => absurd hz (by decide)) (fun _ => ?_)
                  refine Ev_iload_n hq_130 (show decode prog_7_method_14_code 385 = .ok (.iload_n 1, 1) by decide +kernel) rfl ?_
                  refine Ev_goto (tgt := 390) hq_130 (show decode prog_7_method_14_code 386 = .ok (.goto 4, 3) by decide +kernel) (by decide) ?_
                  refine Ev_putI hq_130 (show decode prog_7_method_14_code 390 = .ok (.putfield 116, 3) by decide +kernel) rfl (SGn hS (by decide)) (SGk hS rfl) (by decide) (by decide) rfl (fun hz => by cases hz) ?_
                  obtain ⟨I53, eI53⟩ : ∃ I53 : zI, I53 = z_up I43 57 20 y46 := ⟨_, rfl⟩
                  have k := k I53 eI53
                  rw [← eI53]
                  refine Ev_aload_n hq_130 (show decode prog_7_method_14_code 393 = .ok (.aload_n 0, 1) by decide +kernel) rfl ?_
                  refine Ev_dup hq_130 (show decode prog_7_method_14_code 394 = .ok (.dup, 1) by decide +kernel) rfl ?_
                  refine Ev_getI hq_130 (show decode prog_7_method_14_code 395 = .ok (.getfield 110, 3) by decide +kernel) rfl (SGn hS (by decide)) (SGk hS rfl) (by decide) rfl ?_
                  refine Ev_iconst (v := 1) hq_130 (show decode prog_7_method_14_code 398 = .ok (.iconst 1, 1) by decide +kernel) (by decide) ?_
                  refine Ev_iadd hq_130 (show decode prog_7_method_14_code 399 = .ok (.iadd, 1) by decide +kernel) ?_
                  refine Ev_putI hq_130 (show decode prog_7_method_14_code 400 = .ok (.putfield 110, 3) by decide +kernel) rfl (SGn hS (by decide)) (SGk hS rfl) (by decide) (by decide) rfl (fun hz => by cases hz) ?_
                  obtain ⟨I54, eI54⟩ : ∃ I54 : zI, I54 = z_up I53 57 18 ((I53 57 18) + 1) := ⟨_, rfl⟩
                  have k := k I54 eI54
                  rw [← eI54]
                  exact Ev_vret hq_130 (show decode prog_7_method_14_code 403 = .ok (.return_, 1) by decide +kernel) k
                · have k := k.2 c52
                  refine Ev_iload_n hq_130 (show decode prog_7_method_14_code 338 = .ok (.iload_n 1, 1) by decide +kernel) rfl ?_
                  refine Ev_bipush (v := 59) hq_130 (show decode prog_7_method_14_code 339 = .ok (.bipush 59, 2) by decide +kernel) (by decide) ?_
                  refine Ev_icmp_eq (tgt := 374) hq_130 (show decode prog_7_method_14_code 341 = .ok (.if_icmp .eq 33, 3) by decide +kernel) (by decide) (fun c55 => ?_) (fun c55 => ?_)
                  · have k := k.1 c55
                    refine Ev_iconst (v := 1) hq_130 (show decode prog_7_method_14_code 374 = .ok (.iconst 1, 1) by decide +kernel) (by decide) ?_
                    refine Ev_goto (tgt := 379) hq_130 (show decode prog_7_method_14_code 375 = .ok (.goto 4, 3) by decide +kernel) (by decide) ?_
                    refine Ev_istore_n (lo2 := [.ref 57, .int y46, .int 1]) hq_130 (show decode prog_7_method_14_code 379 = .ok (.istore_n 2, 1) by decide +kernel) (z_le rfl) rfl ?_
                    refine Ev_aload_n hq_130 (show decode prog_7_method_14_code 380 = .ok (.aload_n 0, 1) by decide +kernel) rfl ?_
                    refine Ev_iload_n hq_130 (show decode prog_7_method_14_code 381 = .ok (.iload_n 2, 1) by decide +kernel) rfl ?_
                    refine Ev_if_eq (tgt := 389) hq_130 (show decode prog_7_method_14_code 382 = .ok (.ifCond .eq 7, 3) by decide +kernel) (by decide) (fun hz => absurd hz (by decide)) (fun _ => ?_)
                    refine Ev_iload_n hq_130 (show decode prog_7_method_14_code 385 = .ok (.iload_n 1, 1) by decide +kernel) rfl ?_
                    refine Ev_goto (tgt := 390) hq_130 (show decode prog_7_method_14_code 386 = .ok (.goto 4, 3) by decide +kernel) (by decide) ?_
                    refine Ev_putI hq_130 (show decode prog_7_method_14_code 390 = .ok (.putfield 116, 3) by decide +kernel) rfl (SGn hS (by decide)) (SGk hS rfl) (by decide) (by decide) rfl (fun hz => by cases hz) ?_
                    obtain ⟨I56, eI56⟩ : ∃ I56 : zI, I56 = z_up I43 57 20 y46 := ⟨_, rfl⟩
                    have k := k I56 eI56
                    rw [← eI56]
                    refine Ev_aload_n hq_130 (show decode prog_7_method_14_code 393 = .ok (.aload_n 0, 1) by decide +kernel) rfl ?_
                    refine Ev_dup hq_130 (show decode prog_7_method_14_code 394 = .ok (.dup, 1) by decide +kernel) rfl ?_
                    refine Ev_getI hq_130 (show decode prog_7_method_14_code 395 = .ok (.getfield 110, 3) by decide +kernel) rfl (SGn hS (by decide)) (SGk hS rfl) (by decide) rfl ?_
                    refine Ev_iconst (v := 1) hq_130 (show decode prog_7_method_14_code 398 = .ok (.iconst 1, 1) by decide +kernel) (by decide) ?_
                    refine Ev_iadd hq_130 (show decode prog_7_method_14_code 399 = .ok (.iadd, 1) by decide +kernel) ?_
                    refine Ev_putI hq_130 (show decode prog_7_method_14_code 400 = .ok (.putfield 110, 3) by decide +kernel) rfl (SGn hS (by decide)) (SGk hS rfl) (by decide) (by decide) rfl (fun hz => by cases hz) ?_
                    obtain ⟨I57, eI57⟩ : ∃ I57 : zI, I57 = z_up I56 57 18 ((I56 57 18) + 1) := ⟨_, rfl⟩
                    have k := k I57 eI57
                    rw [← eI57]
                    exact Ev_vret hq_130 (show decode prog_7_method_14_code 403 = .ok (.return_, 1) by decide +kernel) k
                  · have k := k.2 c55
                    refine Ev_iload_n hq_130 (show decode prog_7_method_14_code 344 = .ok (.iload_n 1, 1) by decide +kernel) rfl ?_
                    refine Ev_bipush (v := 43) hq_130 (show decode prog_7_method_14_code 345 = .ok (.bipush 43, 2) by decide +kernel) (by decide) ?_
                    refine Ev_icmp_eq (tgt := 374) hq_130 (show decode prog_7_method_14_code 347 = .ok (.if_icmp .eq 27, 3) by decide +kernel) (by decide) (fun c58 => ?_) (fun c58 => ?_)
                    · have k := k.1 c58
                      refine Ev_iconst (v := 1) hq_130 (show decode prog_7_method_14_code 374 = .ok (.iconst 1, 1) by decide +kernel) (by decide) ?_
                      refine Ev_goto (tgt := 379) hq_130 (show decode prog_7_method_14_code 375 = .ok (.goto 4, 3) by decide +kernel) (by decide) ?_
                      refine Ev_istore_n (lo2 := [.ref 57, .int y46, .int 1]) hq_130 (show decode prog_7_method_14_code 379 = .ok (.istore_n 2, 1) by decide +kernel) (z_le rfl) rfl ?_
                      refine Ev_aload_n hq_130 (show decode prog_7_method_14_code 380 = .ok (.aload_n 0, 1) by decide +kernel) rfl ?_
                      refine Ev_iload_n hq_130 (show decode prog_7_method_14_code 381 = .ok (.iload_n 2, 1) by decide +kernel) rfl ?_
                      refine Ev_if_eq (tgt := 389) hq_130 (show decode prog_7_method_14_code 382 = .ok (.ifCond .eq 7, 3) by decide +kernel) (by decide) (fun hz => absurd hz (by decide)) (fun _ => ?_)
                      refine Ev_iload_n hq_130 (show decode prog_7_method_14_code 385 = .ok (.iload_n 1, 1) by decide +kernel) rfl ?_
                      refine Ev_goto (tgt := 390) hq_130 (show decode prog_7_method_14_code 386 = .ok (.goto 4, 3) by decide +kernel) (by decide) ?_
                      refine Ev_putI hq_130 (show decode prog_7_method_14_code 390 = .ok (.putfield 116, 3) by decide +kernel) rfl (SGn hS (by decide)) (SGk hS rfl) (by decide) (by decide) rfl (fun hz => by cases hz) ?_
                      obtain ⟨I59, eI59⟩ : ∃ I59 : zI, I59 = z_up I43 57 20 y46 := ⟨_, rfl⟩
                      have k := k I59 eI59
                      rw [← eI59]
                      refine Ev_aload_n hq_130 (show decode prog_7_method_14_code 393 = .ok (.aload_n 0, 1) by decide +kernel) rfl ?_
                      refine Ev_dup hq_130 (show decode prog_7_method_14_code 394 = .ok (.dup, 1) by decide +kernel) rfl ?_
                      refine Ev_getI hq_130 (show decode prog_7_method_14_code 395 = .ok (.getfield 110, 3) by decide +kernel) rfl (SGn hS (by decide)) (SGk hS rfl) (by decide) rfl ?_
                      refine Ev_iconst (v := 1) hq_130 (show decode prog_7_method_14_code 398 = .ok (.iconst 1, 1) by decide +kernel) (by decide) ?_
                      refine Ev_iadd hq_130 (show decode prog_7_method_14_code 399 = .ok (.iadd, 1) by decide +kernel) ?_
                      refine Ev_putI hq_130 (show decode prog_7_method_14_code 400 = .ok (.putfield 110, 3) by decide +kernel) rfl (SGn hS (by decide)) (SGk hS rfl) (by decide) (by decide) rfl (fun hz => by cases hz) ?_
                      obtain ⟨I60, eI60⟩ : ∃ I60 : zI, I60 = z_up I59 57 18 ((I59 57 18) + 1) := ⟨_, rfl⟩
                      have k := k I60 eI60
                      rw [← eI60]
                      exact Ev_vret hq_130 (show decode prog_7_method_14_code 403 = .ok (.return_, 1) by decide +kernel) k
                    · have k := k.2 c58
                      refine Ev_iload_n hq_130 (show decode prog_7_method_14_code 350 = .ok (.iload_n 1, 1) by decide +kernel) rfl ?_
                      refine Ev_bipush (v := 45) hq_130 (show decode prog_7_method_14_code 351 = .ok (.bipush 45, 2) by decide +kernel) (by decide) ?_
                      refine Ev_icmp_eq (tgt := 374) hq_130 (show decode prog_7_method_14_code 353 = .ok (.if_icmp .eq 21, 3) by decide +kernel) (by decide) (fun c61 => ?_) (fun c61 => ?_)
                      · have k := k.1 c61
                        refine Ev_iconst (v := 1) hq_130 (show decode prog_7_method_14_code 374 = .ok (.iconst 1, 1) by decide +kernel) (by decide) ?_
                        refine Ev_goto (tgt := 379) hq_130 (show decode prog_7_method_14_code 375 = .ok (.goto 4, 3) by decide +kernel) (by decide) ?_
                        refine Ev_istore_n (lo2 := [.ref 57, .int y46, .int 1]) hq_130 (show decode prog_7_method_14_code 379 = .ok (.istore_n 2, 1) by decide +kernel) (z_le rfl) rfl ?_
                        refine Ev_aload_n hq_130 (show decode prog_7_method_14_code 380 = .ok (.aload_n 0, 1) by decide +kernel) rfl ?_
                        refine Ev_iload_n hq_130 (show decode prog_7_method_14_code 381 = .ok (.iload_n 2, 1) by decide +kernel) rfl ?_
                        refine Ev_if_eq (tgt := 389) hq_130 (show decode prog_7_method_14_code 382 = .ok (.ifCond .eq 7, 3) by decide +kernel) (by decide) (fun hz => absurd hz (by decide)) (fun _ => ?_)
                        refine Ev_iload_n hq_130 (show decode prog_7_method_14_code 385 = .ok (.iload_n 1, 1) by decide +kernel) rfl ?_
                        refine Ev_goto (tgt := 390) hq_130 (show decode prog_7_method_14_code 386 = .ok (.goto 4, 3) by decide +kernel) (by decide) ?_
                        refine Ev_putI hq_130 (show decode prog_7_method_14_code 390 = .ok (.putfield 116, 3) by decide +kernel) rfl (SGn hS (by decide)) (SGk hS rfl) (by decide) (by decide) rfl (fun hz => by cases hz) ?_
                        obtain ⟨I62, eI62⟩ : ∃ I62 : zI, I62 = z_up I43 57 20 y46 := ⟨_, rfl⟩
                        have k := k I62 eI62
                        rw [← eI62]
                        refine Ev_aload_n hq_130 (show decode prog_7_method_14_code 393 = .ok (.aload_n 0, 1) by decide +kernel) rfl ?_
                        refine Ev_dup hq_130 (show decode prog_7_method_14_code 394 = .ok (.dup, 1) by decide +kernel) rfl ?_
                        refine Ev_getI hq_130 (show decode prog_7_method_14_code 395 = .ok (.getfield 110, 3) by decide +kernel) rfl (SGn hS (by decide)) (SGk hS rfl) (by decide) rfl ?_
                        refine Ev_iconst (v := 1) hq_130 (show decode prog_7_method_14_code 398 = .ok (.iconst 1, 1) by decide +kernel) (by decide) ?_
                        refine Ev_iadd hq_130 (show decode prog_7_method_14_code 399 = .ok (.iadd, 1) by decide +kernel) ?_
                        refine Ev_putI hq_130 (show decode prog_7_method_14_code 400 = .ok (.putfield 110, 3) by decide +kernel) rfl (SGn hS (by decide)) (SGk hS rfl) (by decide) (by decide) rfl (fun hz => by cases hz) ?_
                        obtain ⟨I63, eI63⟩ : ∃ I63 : zI, I63 = z_up I62 57 18 ((I62 57 18) + 1) := ⟨_, rfl⟩
                        have k := k I63 eI63
                        rw [← eI63]
                        exact Ev_vret hq_130 (show decode prog_7_method_14_code 403 = .ok (.return_, 1) by decide +kernel) k
                      · have k := k.2 c61
                        refine Ev_iload_n hq_130 (show decode prog_7_method_14_code 356 = .ok (.iload_n 1, 1) by decide +kernel) rfl ?_
                        refine Ev_bipush (v := 42) hq_130 (show decode prog_7_method_14_code 357 = .ok (.bipush 42, 2) by decide +kernel) (by decide) ?_
                        refine Ev_icmp_eq (tgt := 374) hq_130 (show decode prog_7_method_14_code 359 = .ok (.if_icmp .eq 15, 3) by decide +kernel) (by decide) (fun c64 => ?_) (fun c64 => ?_)
                        · have k := k.1 c64
                          refine Ev_iconst (v := 1) hq_130 (show decode prog_7_method_14_code 374 = .ok (.iconst 1, 1) by decide +kernel) (by decide) ?_
                          refine Ev_goto (tgt := 379) hq_130 (show decode prog_7_method_14_code 375 = .ok (.goto 4, 3) by decide +kernel) (by decide) ?_
                          refine Ev_istore_n (lo2 := [.ref 57, .int y46, .int 1]) hq_130 (show decode prog_7_method_14_code 379 = .ok (.istore_n 2, 1) by decide +kernel) (z_le rfl) rfl ?_
                          refine Ev_aload_n hq_130 (show decode prog_7_method_14_code 380 = .ok (.aload_n 0, 1) by decide +kernel) rfl ?_
                          refine Ev_iload_n hq_130 (show decode prog_7_method_14_code 381 = .ok (.iload_n 2, 1) by decide +kernel) rfl ?_
                          refine Ev_if_eq (tgt := 389) hq_130 (show decode prog_7_method_14_code 382 = .ok (.ifCond .eq 7, 3) by decide +kernel) (by decide) (fun hz => absurd hz (by decide)) (fun _ => ?_)
                          refine Ev_iload_n hq_130 (show decode prog_7_method_14_code 385 = .ok (.iload_n 1, 1) by decide +kernel) rfl ?_
                          refine Ev_goto (tgt := 390) hq_130 (show decode prog_7_method_14_code 386 = .ok (.goto 4, 3) by decide +kernel) (by decide) ?_
                          refine Ev_putI hq_130 (show decode prog_7_method_14_code 390 = .ok (.putfield 116, 3) by decide +kernel) rfl (SGn hS (by decide)) (SGk hS rfl) (by decide) (by decide) rfl (fun hz => by cases hz) ?_
                          obtain ⟨I65, eI65⟩ : ∃ I65 : zI, I65 = z_up I43 57 20 y46 := ⟨_, rfl⟩
                          have k := k I65 eI65
                          rw [← eI65]
                          refine Ev_aload_n hq_130 (show decode prog_7_method_14_code 393 = .ok (.aload_n 0, 1) by decide +kernel) rfl ?_
                          refine Ev_dup hq_130 (show decode prog_7_method_14_code 394 = .ok (.dup, 1) by decide +kernel) rfl ?_
                          refine Ev_getI hq_130 (show decode prog_7_method_14_code 395 = .ok (.getfield 110, 3) by decide +kernel) rfl (SGn hS (by decide)) (SGk hS rfl) (by decide) rfl ?_
                          refine Ev_iconst (v := 1) hq_130 (show decode prog_7_method_14_code 398 = .ok (.iconst 1, 1) by decide +kernel) (by decide) ?_
                          refine Ev_iadd hq_130 (show decode prog_7_method_14_code 399 = .ok (.iadd, 1) by decide +kernel) ?_
                          refine Ev_putI hq_130 (show decode prog_7_method_14_code 400 = .ok (.putfield 110, 3) by decide +kernel) rfl (SGn hS (by decide)) (SGk hS rfl) (by decide) (by decide) rfl (fun hz => by cases hz) ?_
                          obtain ⟨I66, eI66⟩ : ∃ I66 : zI, I66 = z_up I65 57 18 ((I65 57 18) + 1) := ⟨_, rfl⟩
                          have k := k I66 eI66
                          rw [← eI66]
                          exact Ev_vret hq_130 (show decode prog_7_method_14_code 403 = .ok (.return_, 1) by decide +kernel) k
                        · have k := k.2 c64
                          refine Ev_iload_n hq_130 (show decode prog_7_method_14_code 362 = .ok (.iload_n 1, 1) by decide +kernel) rfl ?_
                          refine Ev_bipush (v := 60) hq_130 (show decode prog_7_method_14_code 363 = .ok (.bipush 60, 2) by decide +kernel) (by decide) ?_
                          refine Ev_icmp_eq (tgt := 374) hq_130 (show decode prog_7_method_14_code 365 = .ok (.if_icmp .eq 9, 3) by decide +kernel) (by decide) (fun c67 => ?_) (fun c67 => ?_)
                          · have k := k.1 c67
                            refine Ev_iconst (v := 1) hq_130 (show decode prog_7_method_14_code 374 = .ok (.iconst 1, 1) by decide +kernel) (by decide) ?_
                            refine Ev_goto (tgt := 379) hq_130 (show decode prog_7_method_14_code 375 = .ok (.goto 4, 3) by decide +kernel) (by decide) ?_
                            refine Ev_istore_n (lo2 := [.ref 57, .int y46, .int 1]) hq_130 (show decode prog_7_method_14_code 379 = .ok (.istore_n 2, 1) by decide +kernel) (z_le rfl) rfl ?_
                            refine Ev_aload_n hq_130 (show decode prog_7_method_14_code 380 = .ok (.aload_n 0, 1) by decide +kernel) rfl ?_
                            refine Ev_iload_n hq_130 (show decode prog_7_method_14_code 381 = .ok (.iload_n 2, 1) by decide +kernel) rfl ?_
                            refine Ev_if_eq (tgt := 389) hq_130 (show decode prog_7_method_14_code 382 = .ok (.ifCond .eq 7, 3) by decide +kernel) (by decide) (fun hz => absurd hz (by decide)) (fun _ => ?_)
                            refine Ev_iload_n hq_130 (show decode prog_7_method_14_code 385 = .ok (.iload_n 1, 1) by decide +kernel) rfl ?_
                            refine Ev_goto (tgt := 390) hq_130 (show decode prog_7_method_14_code 386 = .ok (.goto 4, 3) by decide +kernel) (by decide) ?_
                            refine Ev_putI hq_130 (show decode prog_7_method_14_code 390 = .ok (.putfield 116, 3) by decide +kernel) rfl (SGn hS (by decide)) (SGk hS rfl) (by decide) (by decide) rfl (fun hz => by cases hz) ?_
                            obtain ⟨I68, eI68⟩ : ∃ I68 : zI, I68 = z_up I43 57 20 y46 := ⟨_, rfl⟩
                            have k := k I68 eI68
                            rw [← eI68]
                            refine Ev_aload_n hq_130 (show decode prog_7_method_14_code 393 = .ok (.aload_n 0, 1) by decide +kernel) rfl ?_
                            refine Ev_dup hq_130 (show decode prog_7_method_14_code 394 = .ok (.dup, 1) by decide +kernel) rfl ?_
                            refine Ev_getI hq_130 (show decode prog_7_method_14_code 395 = .ok (.getfield 110, 3) by decide +kernel) rfl (SGn hS (by decide)) (SGk hS rfl) (by decide) rfl ?_
                            refine Ev_iconst (v := 1) hq_130 (show decode prog_7_method_14_code 398 = .ok (.iconst 1, 1) by decide +kernel) (by decide) ?_
                            refine Ev_iadd hq_130 (show decode prog_7_method_14_code 399 = .ok (.iadd, 1) by decide +kernel) ?_
                            refine Ev_putI hq_130 (show decode prog_7_method_14_code 400 = .ok (.putfield 110, 3) by decide +kernel) rfl (SGn hS (by decide)) (SGk hS rfl) (by decide) (by decide) rfl (fun hz => by cases hz) ?_
                            obtain ⟨I69, eI69⟩ : ∃ I69 : zI, I69 = z_up I68 57 18 ((I68 57 18) + 1) := ⟨_, rfl⟩
                            have k := k I69 eI69
                            rw [← eI69]
                            exact Ev_vret hq_130 (show decode prog_7_method_14_code 403 = .ok (.return_, 1) by decide +kernel) k
                          · have k := k.2 c67
                            refine Ev_iload_n hq_130 (show decode prog_7_method_14_code 368 = .ok (.iload_n 1, 1) by decide +kernel) rfl ?_
                            refine Ev_bipush (v := 61) hq_130 (show decode prog_7_method_14_code 369 = .ok (.bipush 61, 2) by decide +kernel) (by decide) ?_
                            refine Ev_icmp_ne (tgt := 378) hq_130 (show decode prog_7_method_14_code 371 = .ok (.if_icmp .ne 7, 3) by decide +kernel) (by decide) (fun c70 => ?_) (fun c70 => ?_)
                            · have k := k.1 c70
                              refine Ev_iconst (v := 0) hq_130 (show decode prog_7_method_14_code 378 = .ok (.iconst 0, 1) by decide +kernel) (by decide) ?_
                              refine Ev_istore_n (lo2 := [.ref 57, .int y46, .int 0]) hq_130 (show decode prog_7_method_14_code 379 = .ok (.istore_n 2, 1) by decide +kernel) (z_le rfl) rfl ?_
                              refine Ev_aload_n hq_130 (show decode prog_7_method_14_code 380 = .ok (.aload_n 0, 1) by decide +kernel) rfl ?_
                              refine Ev_iload_n hq_130 (show decode prog_7_method_14_code 381 = .ok (.iload_n 2, 1) by decide +kernel) rfl ?_
                              refine Ev_if_eq (tgt := 389) hq_130 (show decode prog_7_method_14_code 382 = .ok (.ifCond .eq 7, 3) by decide +kernel) (by decide) (fun _ => ?_) (fun hz => absurd (by decide) hz)
                              refine Ev_iconst (v := (-1)) hq_130 (show decode prog_7_method_14_code 389 = .ok (.iconst (-1), 1) by decide +kernel) (by decide) ?_
                              refine Ev_putI hq_130 (show decode prog_7_method_14_code 390 = .ok (.putfield 116, 3) by decide +kernel) rfl (SGn hS (by decide)) (SGk hS rfl) (by decide) (by decide) rfl (fun hz => by cases hz) ?_
                              obtain ⟨I71, eI71⟩ : ∃ I71 : zI, I71 = z_up I43 57 20 (-1) := ⟨_, rfl⟩
                              have k := k I71 eI71
                              rw [← eI71]
                              refine Ev_aload_n hq_130 (show decode prog_7_method_14_code 393 = .ok (.aload_n 0, 1) by decide +kernel) rfl ?_
                              refine Ev_dup hq_130 (show decode prog_7_method_14_code 394 = .ok (.dup, 1) by decide +kernel) rfl ?_
                              refine Ev_getI hq_130 (show decode prog_7_method_14_code 395 = .ok (.getfield 110, 3) by decide +kernel) rfl (SGn hS (by decide)) (SGk hS rfl) (by decide) rfl ?_
                              refine Ev_iconst (v := 1) hq_130 (show decode prog_7_method_14_code 398 = .ok (.iconst 1, 1) by decide +kernel) (by decide) ?_
                              refine Ev_iadd hq_130 (show decode prog_7_method_14_code 399 = .ok (.iadd, 1) by decide +kernel) ?_
                              refine Ev_putI hq_130 (show decode prog_7_method_14_code 400 = .ok (.putfield 110, 3) by decide +kernel) rfl (SGn hS (by decide)) (SGk hS rfl) (by decide) (by decide) rfl (fun hz => by cases hz) ?_
                              obtain ⟨I72, eI72⟩ : ∃ I72 : zI, I72 = z_up I71 57 18 ((I71 57 18) + 1) := ⟨_, rfl⟩
                              have k := k I72 eI72
                              rw [← eI72]
                              exact Ev_vret hq_130 (show decode prog_7_method_14_code 403 = .ok (.return_, 1) by decide +kernel) k
                            · have k := k.2 (Classical.not_not.mp c70)
                              refine Ev_iconst (v := 1) hq_130 (show decode prog_7_method_14_code 374 = .ok (.iconst 1, 1) by decide +kernel) (by decide) ?_
                              refine Ev_goto (tgt := 379) hq_130 (show decode prog_7_method_14_code 375 = .ok (.goto 4, 3) by decide +kernel) (by decide) ?_
                              refine Ev_istore_n (lo2 := [.ref 57, .int y46, .int 1]) hq_130 (show decode prog_7_method_14_code 379 = .ok (.istore_n 2, 1) by decide +kernel) (z_le rfl) rfl ?_
                              refine Ev_aload_n hq_130 (show decode prog_7_method_14_code 380 = .ok (.aload_n 0, 1) by decide +kernel) rfl ?_
                              refine Ev_iload_n hq_130 (show decode prog_7_method_14_code 381 = .ok (.iload_n 2, 1) by decide +kernel) rfl ?_
                              refine Ev_if_eq (tgt := 389) hq_130 (show decode prog_7_method_14_code 382 = .ok (.ifCond .eq 7, 3) by decide +kernel) (by decide) (fun hz => absurd hz (by decide)) (fun _ => ?_)
                              refine Ev_iload_n hq_130 (show decode prog_7_method_14_code 385 = .ok (.iload_n 1, 1) by decide +kernel) rfl ?_
                              refine Ev_goto (tgt := 390) hq_130 (show decode prog_7_method_14_code 386 = .ok (.goto 4, 3) by decide +kernel) (by decide) ?_
                              refine Ev_putI hq_130 (show decode prog_7_method_14_code 390 = .ok (.putfield 116, 3) by decide +kernel) rfl (SGn hS (by decide)) (SGk hS rfl) (by decide) (by decide) rfl (fun hz => by cases hz) ?_
                              obtain ⟨I73, eI73⟩ : ∃ I73 : zI, I73 = z_up I43 57 20 y46 := ⟨_, rfl⟩
                              have k := k I73 eI73
                              rw [← eI73]
                              refine Ev_aload_n hq_130 (show decode prog_7_method_14_code 393 = .ok (.aload_n 0, 1) by decide +kernel) rfl ?_
                              refine Ev_dup hq_130 (show decode prog_7_method_14_code 394 = .ok (.dup, 1) by decide +kernel) rfl ?_
                              refine Ev_getI hq_130 (show decode prog_7_method_14_code 395 = .ok (.getfield 110, 3) by decide +kernel) rfl (SGn hS (by decide)) (SGk hS rfl) (by decide) rfl ?_
                              refine Ev_iconst (v := 1) hq_130 (show decode prog_7_method_14_code 398 = .ok (.iconst 1, 1) by decide +kernel) (by decide) ?_
                              refine Ev_iadd hq_130 (show decode prog_7_method_14_code 399 = .ok (.iadd, 1) by decide +kernel) ?_
                              refine Ev_putI hq_130 (show decode prog_7_method_14_code 400 = .ok (.putfield 110, 3) by decide +kernel) rfl (SGn hS (by decide)) (SGk hS rfl) (by decide) (by decide) rfl (fun hz => by cases hz) ?_
                              obtain ⟨I74, eI74⟩ : ∃ I74 : zI, I74 = z_up I73 57 18 ((I73 57 18) + 1) := ⟨_, rfl⟩
                              have k := k I74 eI74
                              rw [← eI74]
                              exact Ev_vret hq_130 (show decode prog_7_method_14_code 403 = .ok (.return_, 1) by decide +kernel) k
            · have k := k.2 c48
              refine Ev_iconst (v := 0) hq_130 (show decode prog_7_method_14_code 228 = .ok (.iconst 0, 1) by decide +kernel) (by decide) ?_
              refine Ev_istore_n (lo2 := [.ref 57, .int y46, .int 0]) hq_130 (show decode prog_7_method_14_code 229 = .ok (.istore_n 2, 1) by decide +kernel) (z_le rfl) rfl ?_
              exact k
          · have k := k.2 c47
            exact k
        · have k := k.2 (Classical.not_not.mp c44)
          exact Ev_vret hq_130 (show decode prog_7_method_14_code 81 = .ok (.return_, 1) by decide +kernel) k
      · have k := k.2 (Classical.not_not.mp c40)
        refine Ev_aload_n hq_130 (show decode prog_7_method_14_code 39 = .ok (.aload_n 0, 1) by decide +kernel) rfl ?_
        refine Ev_dup hq_130 (show decode prog_7_method_14_code 40 = .ok (.dup, 1) by decide +kernel) rfl ?_
        refine Ev_getI hq_130 (show decode prog_7_method_14_code 41 = .ok (.getfield 110, 3) by decide +kernel) rfl (SGn hS (by decide)) (SGk hS rfl) (by decide) rfl ?_
        refine Ev_iconst (v := 1) hq_130 (show decode prog_7_method_14_code 44 = .ok (.iconst 1, 1) by decide +kernel) (by decide) ?_
        refine Ev_iadd hq_130 (show decode prog_7_method_14_code 45 = .ok (.iadd, 1) by decide +kernel) ?_
        refine Ev_putI hq_130 (show decode prog_7_method_14_code 46 = .ok (.putfield 110, 3) by decide +kernel) rfl (SGn hS (by decide)) (SGk hS rfl) (by decide) (by decide) rfl (fun hz => by cases hz) ?_
        obtain ⟨I75, eI75⟩ : ∃ I75 : zI, I75 = z_up I 57 18 ((I 57 18) + 1) := ⟨_, rfl⟩
        have k := k I75 eI75
        rw [← eI75]
        refine Ev_goto (tgt := 0) hq_130 (show decode prog_7_method_14_code 49 = .ok (.goto (-49), 3) by decide +kernel) (by decide) ?_
        exact k
set_option maxRecDepth 20000 in
theorem wp_Z_next_0 {X : Nat × (Nat → Int32)} {d : Nat} {G : zG} {I : zI} {res : Option Value × zG × zI}  (hS : SG G) 
    (k : ((I 57 5) ≤ (I 57 18) → (∀ I2 : zI, I2 = z_up I 57 19 (I 57 18) → (∀ I3 : zI, I3 = z_up I2 57 20 0 → (∀ I4 : zI, I4 = z_up I3 57 21 0 → (¬ (I4 57 18) = (I4 57 5) → z_inr (I4 57 18) 160 ∧ (∀ y7 : Int32, y7 = (I4 61 (I4 57 18).toNatClampNeg) → ((f_Z_in y7 97 122) = 0 → ((f_Z_in y7 48 57) = 0 → (y7 = 40 → (∀ I11 : zI, I11 = z_up I4 57 20 y7 → (∀ I12 : zI, I12 = z_up I11 57 18 ((I11 57 18) + 1) → res = (none, G, I12)))) ∧ (¬ y7 = 40 → (y7 = 41 → (∀ I14 : zI, I14 = z_up I4 57 20 y7 → (∀ I15 : zI, I15 = z_up I14 57 18 ((I14 57 18) + 1) → res = (none, G, I15)))) ∧ (¬ y7 = 41 → (y7 = 59 → (∀ I17 : zI, I17 = z_up I4 57 20 y7 → (∀ I18 : zI, I18 = z_up I17 57 18 ((I17 57 18) + 1) → res = (none, G, I18)))) ∧ (¬ y7 = 59 → (y7 = 43 → (∀ I20 : zI, I20 = z_up I4 57 20 y7 → (∀ I21 : zI, I21 = z_up I20 57 18 ((I20 57 18) + 1) → res = (none, G, I21)))) ∧ (¬ y7 = 43 → (y7 = 45 → (∀ I23 : zI, I23 = z_up I4 57 20 y7 → (∀ I24 : zI, I24 = z_up I23 57 18 ((I23 57 18) + 1) → res = (none, G, I24)))) ∧ (¬ y7 = 45 → (y7 = 42 → (∀ I26 : zI, I26 = z_up I4 57 20 y7 → (∀ I27 : zI, I27 = z_up I26 57 18 ((I26 57 18) + 1) → res = (none, G, I27)))) ∧ (¬ y7 = 42 → (y7 = 60 → (∀ I29 : zI, I29 = z_up I4 57 20 y7 → (∀ I30 : zI, I30 = z_up I29 57 18 ((I29 57 18) + 1) → res = (none, G, I30)))) ∧ (¬ y7 = 60 → (¬ y7 = 61 → (∀ I32 : zI, I32 = z_up I4 57 20 (-1) → (∀ I33 : zI, I33 = z_up I32 57 18 ((I32 57 18) + 1) → res = (none, G, I33)))) ∧ (y7 = 61 → (∀ I34 : zI, I34 = z_up I4 57 20 y7 → (∀ I35 : zI, I35 = z_up I34 57 18 ((I34 57 18) + 1) → res = (none, G, I35)))))))))))) ∧ (¬ (f_Z_in y7 48 57) = 0 → Ev X (d + 1) 130 230 [.ref 57, .int y7, .int 0] [] G I4 res)) ∧ (¬ (f_Z_in y7 97 122) = 0 → Ev X (d + 1) 130 103 [.ref 57, .int y7, zU] [] G I4 res))) ∧ ((I4 57 18) = (I4 57 5) → res = (none, G, I4)))))) ∧ (¬ (I 57 5) ≤ (I 57 18) → z_inr (I 57 18) 160 ∧ (((I 61 (I 57 18).toNatClampNeg) = 32 → (∀ I38 : zI, I38 = z_up I 57 18 ((I 57 18) + 1) → Ev X (d + 1) 130 0 [.ref 57, zU, zU] [] G I38 res)) ∧ (¬ (I 61 (I 57 18).toNatClampNeg) = 32 → z_inr (I 57 18) 160 ∧ ((¬ (I 61 (I 57 18).toNatClampNeg) = 10 → (∀ I41 : zI, I41 = z_up I 57 19 (I 57 18) → (∀ I42 : zI, I42 = z_up I41 57 20 0 → (∀ I43 : zI, I43 = z_up I42 57 21 0 → (¬ (I43 57 18) = (I43 57 5) → z_inr (I43 57 18) 160 ∧ (∀ y46 : Int32, y46 = (I43 61 (I43 57 18).toNatClampNeg) → ((f_Z_in y46 97 122) = 0 → ((f_Z_in y46 48 57) = 0 → (y46 = 40 → (∀ I50 : zI, I50 = z_up I43 57 20 y46 → (∀ I51 : zI, I51 = z_up I50 57 18 ((I50 57 18) + 1) → res = (none, G, I51)))) ∧ (¬ y46 = 40 → (y46 = 41 → (∀ I53 : zI, I53 = z_up I43 57 20 y46 → (∀ I54 : zI, I54 = z_up I53 57 18 ((I53 57 18) + 1) → res = (none, G, I54)))) ∧ (¬ y46 = 41 → (y46 = 59 → (∀ I56 : zI, I56 = z_up I43 57 20 y46 → (∀ I57 : zI, I57 = z_up I56 57 18 ((I56 57 18) + 1) → res = (none, G, I57)))) ∧ (¬ y46 = 59 → (y46 = 43 → (∀ I59 : zI, I59 = z_up I43 57 20 y46 → (∀ I60 : zI, I60 = z_up I59 57 18 ((I59 57 18) + 1) → res = (none, G, I60)))) ∧ (¬ y46 = 43 → (y46 = 45 → (∀ I62 : zI, I62 = z_up I43 57 20 y46 → (∀ I63 : zI, I63 = z_up I62 57 18 ((I62 57 18) + 1) → res = (none, G, I63)))) ∧ (¬ y46 = 45 → (y46 = 42 → (∀ I65 : zI, I65 = z_up I43 57 20 y46 → (∀ I66 : zI, I66 = z_up I65 57 18 ((I65 57 18) + 1) → res = (none, G, I66)))) ∧ (¬ y46 = 42 → (y46 = 60 → (∀ I68 : zI, I68 = z_up I43 57 20 y46 → (∀ I69 : zI, I69 = z_up I68 57 18 ((I68 57 18) + 1) → res = (none, G, I69)))) ∧ (¬ y46 = 60 → (¬ y46 = 61 → (∀ I71 : zI, I71 = z_up I43 57 20 (-1) → (∀ I72 : zI, I72 = z_up I71 57 18 ((I71 57 18) + 1) → res = (none, G, I72)))) ∧ (y46 = 61 → (∀ I73 : zI, I73 = z_up I43 57 20 y46 → (∀ I74 : zI, I74 = z_up I73 57 18 ((I73 57 18) + 1) → res = (none, G, I74)))))))))))) ∧ (¬ (f_Z_in y46 48 57) = 0 → Ev X (d + 1) 130 230 [.ref 57, .int y46, .int 0] [] G I43 res)) ∧ (¬ (f_Z_in y46 97 122) = 0 → Ev X (d + 1) 130 103 [.ref 57, .int y46, zU] [] G I43 res))) ∧ ((I43 57 18) = (I43 57 5) → res = (none, G, I43)))))) ∧ ((I 61 (I 57 18).toNatClampNeg) = 10 → (∀ I75 : zI, I75 = z_up I 57 18 ((I 57 18) + 1) → Ev X (d + 1) 130 0 [.ref 57, zU, zU] [] G I75 res))))))) :
    Ev X (d + 1) 130 0 [.ref 57, zU, zU] [] G I res := by
  refine Ev_aload_n hq_130 (show decode prog_7_method_14_code 0 = .ok (.aload_n 0, 1) by decide +kernel) rfl ?_
  refine Ev_getI hq_130 (show decode prog_7_method_14_code 1 = .ok (.getfield 110, 3) by decide +kernel) rfl (SGn hS (by decide)) (SGk hS rfl) (by decide) rfl ?_
  refine Ev_aload_n hq_130 (show decode prog_7_method_14_code 4 = .ok (.aload_n 0, 1) by decide +kernel) rfl ?_
  refine Ev_getI hq_130 (show decode prog_7_method_14_code 5 = .ok (.getfield 80, 3) by decide +kernel) rfl (SGn hS (by decide)) (SGk hS rfl) (by decide) rfl ?_
  refine Ev_icmp_ge (tgt := 52) hq_130 (show decode prog_7_method_14_code 8 = .ok (.if_icmp .ge 44, 3) by decide +kernel) (by decide) (fun c1 => ?_) (fun c1 => ?_)
  · have k := k.1 c1
    refine Ev_aload_n hq_130 (show decode prog_7_method_14_code 52 = .ok (.aload_n 0, 1) by decide +kernel) rfl ?_
    refine Ev_aload_n hq_130 (show decode prog_7_method_14_code 53 = .ok (.aload_n 0, 1) by decide +kernel) rfl ?_
    refine Ev_getI hq_130 (show decode prog_7_method_14_code 54 = .ok (.getfield 110, 3) by decide +kernel) rfl (SGn hS (by decide)) (SGk hS rfl) (by decide) rfl ?_
    refine Ev_putI hq_130 (show decode prog_7_method_14_code 57 = .ok (.putfield 113, 3) by decide +kernel) rfl (SGn hS (by decide)) (SGk hS rfl) (by decide) (by decide) rfl (fun hz => by cases hz) ?_
    obtain ⟨I2, eI2⟩ : ∃ I2 : zI, I2 = z_up I 57 19 (I 57 18) := ⟨_, rfl⟩
    have k := k I2 eI2
    rw [← eI2]
    refine Ev_aload_n hq_130 (show decode prog_7_method_14_code 60 = .ok (.aload_n 0, 1) by decide +kernel) rfl ?_
    refine Ev_iconst (v := 0) hq_130 (show decode prog_7_method_14_code 61 = .ok (.iconst 0, 1) by decide +kernel) (by decide) ?_
    refine Ev_putI hq_130 (show decode prog_7_method_14_code 62 = .ok (.putfield 116, 3) by decide +kernel) rfl (SGn hS (by decide)) (SGk hS rfl) (by decide) (by decide) rfl (fun hz => by cases hz) ?_
    obtain ⟨I3, eI3⟩ : ∃ I3 : zI, I3 = z_up I2 57 20 0 := ⟨_, rfl⟩
    have k := k I3 eI3
    rw [← eI3]
    refine Ev_aload_n hq_130 (show decode prog_7_method_14_code 65 = .ok (.aload_n 0, 1) by decide +kernel) rfl ?_
    refine Ev_iconst (v := 0) hq_130 (show decode prog_7_method_14_code 66 = .ok (.iconst 0, 1) by decide +kernel) (by decide) ?_
    refine Ev_putI hq_130 (show decode prog_7_method_14_code 67 = .ok (.putfield 119, 3) by decide +kernel) rfl (SGn hS (by decide)) (SGk hS rfl) (by decide) (by decide) rfl (fun hz => by cases hz) ?_
    obtain ⟨I4, eI4⟩ : ∃ I4 : zI, I4 = z_up I3 57 21 0 := ⟨_, rfl⟩
    have k := k I4 eI4
    rw [← eI4]
    refine Ev_aload_n hq_130 (show decode prog_7_method_14_code 70 = .ok (.aload_n 0, 1) by decide +kernel) rfl ?_
    refine Ev_getI hq_130 (show decode prog_7_method_14_code 71 = .ok (.getfield 110, 3) by decide +kernel) rfl (SGn hS (by decide)) (SGk hS rfl) (by decide) rfl ?_
    refine Ev_aload_n hq_130 (show decode prog_7_method_14_code 74 = .ok (.aload_n 0, 1) by decide +kernel) rfl ?_
    refine Ev_getI hq_130 (show decode prog_7_method_14_code 75 = .ok (.getfield 80, 3) by decide +kernel) rfl (SGn hS (by decide)) (SGk hS rfl) (by decide) rfl ?_
    refine Ev_icmp_ne (tgt := 82) hq_130 (show decode prog_7_method_14_code 78 = .ok (.if_icmp .ne 4, 3) by decide +kernel) (by decide) (fun c5 => ?_) (fun c5 => ?_)
    · have k := k.1 c5
      refine Ev_aload_n hq_130 (show decode prog_7_method_14_code 82 = .ok (.aload_n 0, 1) by decide +kernel) rfl ?_
      refine Ev_getR hq_130 (show decode prog_7_method_14_code 83 = .ok (.getfield 19, 3) by decide +kernel) rfl (SGn hS (by decide)) (SGk hS rfl) (by decide) rfl (SGr hS rfl) ?_
      refine Ev_aload_n hq_130 (show decode prog_7_method_14_code 86 = .ok (.aload_n 0, 1) by decide +kernel) rfl ?_
      refine Ev_getI hq_130 (show decode prog_7_method_14_code 87 = .ok (.getfield 110, 3) by decide +kernel) rfl (SGn hS (by decide)) (SGk hS rfl) (by decide) rfl ?_
      obtain ⟨h6, k⟩ := k
      refine Ev_iald hq_130 (show decode prog_7_method_14_code 90 = .ok (.iaload, 1) by decide +kernel) (SGn hS (by decide)) (SGk hS rfl) (SGi hS rfl h6) ?_
      obtain ⟨y7, ey7⟩ : ∃ y7 : Int32, y7 = (I4 61 (I4 57 18).toNatClampNeg) := ⟨_, rfl⟩
      have k := k y7 ey7
      rw [← ey7]
      refine Ev_istore_n (lo2 := [.ref 57, .int y7, zU]) hq_130 (show decode prog_7_method_14_code 91 = .ok (.istore_n 1, 1) by decide +kernel) (z_le rfl) rfl ?_
      refine Ev_iload_n hq_130 (show decode prog_7_method_14_code 92 = .ok (.iload_n 1, 1) by decide +kernel) rfl ?_
      refine Ev_bipush (v := 97) hq_130 (show decode prog_7_method_14_code 93 = .ok (.bipush 97, 2) by decide +kernel) (by decide) ?_
      refine Ev_bipush (v := 122) hq_130 (show decode prog_7_method_14_code 95 = .ok (.bipush 122, 2) by decide +kernel) (by decide) ?_
      refine Ev_stat (as := [.int y7, .int 97, .int 122]) hq_130 (show decode prog_7_method_14_code 97 = .ok (.invokestatic 90, 3) by decide +kernel) rfl (Or.inl rfl) hq_131 rfl (z_le rfl) (c_Z_in y7 97 122) ?_
      refine Ev_if_eq (tgt := 217) hq_130 (show decode prog_7_method_14_code 100 = .ok (.ifCond .eq 117, 3) by decide +kernel) (by decide) (fun c8 => ?_) (fun c8 => ?_)
      · have k := k.1 c8
        refine Ev_iload_n hq_130 (show decode prog_7_method_14_code 217 = .ok (.iload_n 1, 1) by decide +kernel) rfl ?_
        refine Ev_bipush (v := 48) hq_130 (show decode prog_7_method_14_code 218 = .ok (.bipush 48, 2) by decide +kernel) (by decide) ?_
        refine Ev_bipush (v := 57) hq_130 (show decode prog_7_method_14_code 220 = .ok (.bipush 57, 2) by decide +kernel) (by decide) ?_
        refine Ev_stat (as := [.int y7, .int 48, .int 57]) hq_130 (show decode prog_7_method_14_code 222 = .ok (.invokestatic 90, 3) by decide +kernel) rfl (Or.inl rfl) hq_131 rfl (z_le rfl) (c_Z_in y7 48 57) ?_
        refine Ev_if_eq (tgt := 326) hq_130 (show decode prog_7_method_14_code 225 = .ok (.ifCond .eq 101, 3) by decide +kernel) (by decide) (fun c9 => ?_) (fun c9 => ?_)
        · have k := k.1 c9
          refine Ev_iload_n hq_130 (show decode prog_7_method_14_code 326 = .ok (.iload_n 1, 1) by decide +kernel) rfl ?_
          refine Ev_bipush (v := 40) hq_130 (show decode prog_7_method_14_code 327 = .ok (.bipush 40, 2) by decide +kernel) (by decide) ?_
          refine Ev_icmp_eq (tgt := 374) hq_130 (show decode prog_7_method_14_code 329 = .ok (.if_icmp .eq 45, 3) by decide +kernel) (by decide) (fun c10 => ?_) (fun c10 => ?_)
          · have k := k.1 c10
            refine Ev_iconst (v := 1) hq_130 (show decode prog_7_method_14_code 374 = .ok (.iconst 1, 1) by decide +kernel) (by decide) ?_
            refine Ev_goto (tgt := 379) hq_130 (show decode prog_7_method_14_code 375 = .ok (.goto 4, 3) by decide +kernel) (by decide) ?_
            refine Ev_istore_n (lo2 := [.ref 57, .int y7, .int 1]) hq_130 (show decode prog_7_method_14_code 379 = .ok (.istore_n 2, 1) by decide +kernel) (z_le rfl) rfl ?_
            refine Ev_aload_n hq_130 (show decode prog_7_method_14_code 380 = .ok (.aload_n 0, 1) by decide +kernel) rfl ?_
            refine Ev_iload_n hq_130 (show decode prog_7_method_14_code 381 = .ok (.iload_n 2, 1) by decide +kernel) rfl ?_
            refine Ev_if_eq (tgt := 389) hq_130 (show decode prog_7_method_14_code 382 = .ok (.ifCond .eq 7, 3) by decide +kernel) (by decide) (fun hz => absurd hz (by decide)) (fun _ => ?_)
            refine Ev_iload_n hq_130 (show decode prog_7_method_14_code 385 = .ok (.iload_n 1, 1) by decide +kernel) rfl ?_
            refine Ev_goto (tgt := 390) hq_130 (show decode prog_7_method_14_code 386 = .ok (.goto 4, 3) by decide +kernel) (by decide) ?_
            refine Ev_putI hq_130 (show decode prog_7_method_14_code 390 = .ok (.putfield 116, 3) by decide +kernel) rfl (SGn hS (by decide)) (SGk hS rfl) (by decide) (by decide) rfl (fun hz => by cases hz) ?_
            obtain ⟨I11, eI11⟩ : ∃ I11 : zI, I11 = z_up I4 57 20 y7 := ⟨_, rfl⟩
            have k := k I11 eI11
            rw [← eI11]
            refine Ev_aload_n hq_130 (show decode prog_7_method_14_code 393 = .ok (.aload_n 0, 1) by decide +kernel) rfl ?_
            refine Ev_dup hq_130 (show decode prog_7_method_14_code 394 = .ok (.dup, 1) by decide +kernel) rfl ?_
            refine Ev_getI hq_130 (show decode prog_7_method_14_code 395 = .ok (.getfield 110, 3) by decide +kernel) rfl (SGn hS (by decide)) (SGk hS rfl) (by decide) rfl ?_
            refine Ev_iconst (v := 1) hq_130 (show decode prog_7_method_14_code 398 = .ok (.iconst 1, 1) by decide +kernel) (by decide) ?_
            refine Ev_iadd hq_130 (show decode prog_7_method_14_code 399 = .ok (.iadd, 1) by decide +kernel) ?_
            refine Ev_putI hq_130 (show decode prog_7_method_14_code 400 = .ok (.putfield 110, 3) by decide +kernel) rfl (SGn hS (by decide)) (SGk hS rfl) (by decide) (by decide) rfl (fun hz => by cases hz) ?_
            obtain ⟨I12, eI12⟩ : ∃ I12 : zI, I12 = z_up I11 57 18 ((I11 57 18) + 1) := ⟨_, rfl⟩
            have k := k I12 eI12
            rw [← eI12]
            exact Ev_vret hq_130 (show decode prog_7_method_14_code 403 = .ok (.return_, 1) by decide +kernel) k
          · have k := k.2 c10
            refine Ev_iload_n hq_130 (show decode prog_7_method_14_code 332 = .ok (.iload_n 1, 1) by decide +kernel) rfl ?_
            refine Ev_bipush (v := 41) hq_130 (show decode prog_7_method_14_code 333 = .ok (.bipush 41, 2) by decide +kernel) (by decide) ?_
            refine Ev_icmp_eq (tgt := 374) hq_130 (show decode prog_7_method_14_code 335 = .ok (.if_icmp .eq 39, 3) by decide +kernel) (by decide) (fun c13 => ?_) (fun c13 => ?_)
            · have k := k.1 c13
              refine Ev_iconst (v := 1) hq_130 (show decode prog_7_method_14_code 374 = .ok (.iconst 1, 1) by decide +kernel) (by decide) ?_
              refine Ev_goto (tgt := 379) hq_130 (show decode prog_7_method_14_code 375 = .ok (.goto 4, 3) by decide +kernel) (by decide) ?_
              refine Ev_istore_n (lo2 := [.ref 57, .int y7, .int 1]) hq_130 (show decode prog_7_method_14_code 379 = .ok (.istore_n 2, 1) by decide +kernel) (z_le rfl) rfl ?_
              refine Ev_aload_n hq_130 (show decode prog_7_method_14_code 380 = .ok (.aload_n 0, 1) by decide +kernel) rfl ?_
              refine Ev_iload_n hq_130 (show decode prog_7_method_14_code 381 = .ok (.iload_n 2, 1) by decide +kernel) rfl ?_
              refine Ev_if_eq (tgt := 389) hq_130 (show decode prog_7_method_14_code 382 = .ok (.ifCond .eq 7, 3) by decide +kernel) (by decide) (fun hz => absurd hz (by decide)) (fun _ => ?_)
              refine Ev_iload_n hq_130 (show decode prog_7_method_14_code 385 = .ok (.iload_n 1, 1) by decide +kernel) rfl ?_
              refine Ev_goto (tgt := 390) hq_130 (show decode prog_7_method_14_code 386 = .ok (.goto 4, 3) by decide +kernel) (by decide) ?_
              refine Ev_putI hq_130 (show decode prog_7_method_14_code 390 = .ok (.putfield 116, 3) by decide +kernel) rfl (SGn hS (by decide)) (SGk hS rfl) (by decide) (by decide) rfl (fun hz => by cases hz) ?_
              obtain ⟨I14, eI14⟩ : ∃ I14 : zI, I14 = z_up I4 57 20 y7 := ⟨_, rfl⟩
              have k := k I14 eI14
              rw [← eI14]
              refine Ev_aload_n hq_130 (show decode prog_7_method_14_code 393 = .ok (.aload_n 0, 1) by decide +kernel) rfl ?_
              refine Ev_dup hq_130 (show decode prog_7_method_14_code 394 = .ok (.dup, 1) by decide +kernel) rfl ?_
              refine Ev_getI hq_130 (show decode prog_7_method_14_code 395 = .ok (.getfield 110, 3) by decide +kernel) rfl (SGn hS (by decide)) (SGk hS rfl) (by decide) rfl ?_
              refine Ev_iconst (v := 1) hq_130 (show decode prog_7_method_14_code 398 = .ok (.iconst 1, 1) by decide +kernel) (by decide) ?_
              refine Ev_iadd hq_130 (show decode prog_7_method_14_code 399 = .ok (.iadd, 1) by decide +kernel) ?_
              refine Ev_putI hq_130 (show decode prog_7_method_14_code 400 = .ok (.putfield 110, 3) by decide +kernel) rfl (SGn hS (by decide)) (SGk hS rfl) (by decide) (by decide) rfl (fun hz => by cases hz) ?_
              obtain ⟨I15, eI15⟩ : ∃ I15 : zI, I15 = z_up I14 57 18 ((I14 57 18) + 1) := ⟨_, rfl⟩
              have k := k I15 eI15
              rw [← eI15]
              exact Ev_vret hq_130 (show decode prog_7_method_14_code 403 = .ok (.return_, 1) by decide +kernel) k
            · have k := k.2 c13
              refine Ev_iload_n hq_130 (show decode prog_7_method_14_code 338 = .ok (.iload_n 1, 1) by decide +kernel) rfl ?_
              refine Ev_bipush (v := 59) hq_130 (show decode prog_7_method_14_code 339 = .ok (.bipush 59, 2) by decide +kernel) (by decide) ?_
              refine Ev_icmp_eq (tgt := 374) hq_130 (show decode prog_7_method_14_code 341 = .ok (.if_icmp .eq 33, 3) by decide +kernel) (by decide) (fun c16 => ?_) (fun c16 => ?_)
              · have k := k.1 c16
                refine Ev_iconst (v := 1) hq_130 (show decode prog_7_method_14_code 374 = .ok (.iconst 1, 1) by decide +kernel) (by decide) ?_
                refine Ev_goto (tgt := 379) hq_130 (show decode prog_7_method_14_code 375 = .ok (.goto 4, 3) by decide +kernel) (by decide) ?_
                refine Ev_istore_n (lo2 := [.ref 57, .int y7, .int 1]) hq_130 (show decode prog_7_method_14_code 379 = .ok (.istore_n 2, 1) by decide +kernel) (z_le rfl) rfl ?_
                refine Ev_aload_n hq_130 (show decode prog_7_method_14_code 380 = .ok (.aload_n 0, 1) by decide +kernel) rfl ?_
                refine Ev_iload_n hq_130 (show decode prog_7_method_14_code 381 = .ok (.iload_n 2, 1) by decide +kernel) rfl ?_
                refine Ev_if_eq (tgt := 389) hq_130 (show decode prog_7_method_14_code 382 = .ok (.ifCond .eq 7, 3) by decide +kernel) (by decide) (fun hz => absurd hz (by decide)) (fun _ => ?_)
                refine Ev_iload_n hq_130 (show decode prog_7_method_14_code 385 = .ok (.iload_n 1, 1) by decide +kernel) rfl ?_
                refine Ev_goto (tgt := 390) hq_130 (show decode prog_7_method_14_code 386 = .ok (.goto 4, 3) by decide +kernel) (by decide) ?_
                refine Ev_putI hq_130 (show decode prog_7_method_14_code 390 = .ok (.putfield 116, 3) by decide +kernel) rfl (SGn hS (by decide)) (SGk hS rfl) (by decide) (by decide) rfl (fun hz => by cases hz) ?_
                obtain ⟨I17, eI17⟩ : ∃ I17 : zI, I17 = z_up I4 57 20 y7 := ⟨_, rfl⟩
                have k := k I17 eI17
                rw [← eI17]
                refine Ev_aload_n hq_130 (show decode prog_7_method_14_code 393 = .ok (.aload_n 0, 1) by decide +kernel) rfl ?_
                refine Ev_dup hq_130 (show decode prog_7_method_14_code 394 = .ok (.dup, 1) by decide +kernel) rfl ?_
                refine Ev_getI hq_130 (show decode prog_7_method_14_code 395 = .ok (.getfield 110, 3) by decide +kernel) rfl (SGn hS (by decide)) (SGk hS rfl) (by decide) rfl ?_
                refine Ev_iconst (v := 1) hq_130 (show decode prog_7_method_14_code 398 = .ok (.iconst 1, 1) by decide +kernel) (by decide) ?_
                refine Ev_iadd hq_130 (show decode prog_7_method_14_code 399 = .ok (.iadd, 1) by decide +kernel) ?_
                refine Ev_putI hq_130 (show decode prog_7_method_14_code 400 = .ok (.putfield 110, 3) by decide +kernel) rfl (SGn hS (by decide)) (SGk hS rfl) (by decide) (by decide) rfl (fun hz => by cases hz) ?_
                obtain ⟨I18, eI18⟩ : ∃ I18 : zI, I18 = z_up I17 57 18 ((I17 57 18) + 1) := ⟨_, rfl⟩
                have k := k I18 eI18
                rw [← eI18]
                exact Ev_vret hq_130 (show decode prog_7_method_14_code 403 = .ok (.return_, 1) by decide +kernel) k
              · have k := k.2 c16
                refine Ev_iload_n hq_130 (show decode prog_7_method_14_code 344 = .ok (.iload_n 1, 1) by decide +kernel) rfl ?_
                refine Ev_bipush (v := 43) hq_130 (show decode prog_7_method_14_code 345 = .ok (.bipush 43, 2) by decide +kernel) (by decide) ?_
                refine Ev_icmp_eq (tgt := 374) hq_130 (show decode prog_7_method_14_code 347 = .ok (.if_icmp .eq 27, 3) by decide +kernel) (by decide) (fun c19 => ?_) (fun c19 => ?_)
                · have k := k.1 c19
                  refine Ev_iconst (v := 1) hq_130 (show decode prog_7_method_14_code 374 = .ok (.iconst 1, 1) by decide +kernel) (by decide) ?_
                  refine Ev_goto (tgt := 379) hq_130 (show decode prog_7_method_14_code 375 = .ok (.goto 4, 3) by decide +kernel) (by decide) ?_
                  refine Ev_istore_n (lo2 := [.ref 57, .int y7, .int 1]) hq_130 (show decode prog_7_method_14_code 379 = .ok (.istore_n 2, 1) by decide +kernel) (z_le rfl) rfl ?_
                  refine Ev_aload_n hq_130 (show decode prog_7_method_14_code 380 = .ok (.aload_n 0, 1) by decide +kernel) rfl ?_
                  refine Ev_iload_n hq_130 (show decode prog_7_method_14_code 381 = .ok (.iload_n 2, 1) by decide +kernel) rfl ?_
                  refine Ev_if_eq (tgt := 389) hq_130 (show decode prog_7_method_14_code 382 = .ok (.ifCond .eq 7, 3) by decide +kernel) (by decide) (fun hz => absurd hz (by decide)) (fun _ => ?_)
                  refine Ev_iload_n hq_130 (show decode prog_7_method_14_code 385 = .ok (.iload_n 1, 1) by decide +kernel) rfl ?_
                  refine Ev_goto (tgt := 390) hq_130 (show decode prog_7_method_14_code 386 = .ok (.goto 4, 3) by decide +kernel) (by decide) ?_
                  refine Ev_putI hq_130 (show decode prog_7_method_14_code 390 = .ok (.putfield 116, 3) by decide +kernel) rfl (SGn hS (by decide)) (SGk hS rfl) (by decide) (by decide) rfl (fun hz => by cases hz) ?_
                  obtain ⟨I20, eI20⟩ : ∃ I20 : zI, I20 = z_up I4 57 20 y7 := ⟨_, rfl⟩
                  have k := k I20 eI20
                  rw [← eI20]
                  refine Ev_aload_n hq_130 (show decode prog_7_method_14_code 393 = .ok (.aload_n 0, 1) by decide +kernel) rfl ?_
                  refine Ev_dup hq_130 (show decode prog_7_method_14_code 394 = .ok (.dup, 1) by decide +kernel) rfl ?_
                  refine Ev_getI hq_130 (show decode prog_7_method_14_code 395 = .ok (.getfield 110, 3) by decide +kernel) rfl (SGn hS (by decide)) (SGk hS rfl) (by decide) rfl ?_
                  refine Ev_iconst (v := 1) hq_130 (show decode prog_7_method_14_code 398 = .ok (.iconst 1, 1) by decide +kernel) (by decide) ?_
                  refine Ev_iadd hq_130 (show decode prog_7_method_14_code 399 = .ok (.iadd, 1) by decide +kernel) ?_
                  refine Ev_putI hq_130 (show decode prog_7_method_14_code 400 = .ok (.putfield 110, 3) by decide +kernel) rfl (SGn hS (by decide)) (SGk hS rfl) (by decide) (by decide) rfl (fun hz => by cases hz) ?_
                  obtain ⟨I21, eI21⟩ : ∃ I21 : zI, I21 = z_up I20 57 18 ((I20 57 18) + 1) := ⟨_, rfl⟩
                  have k := k I21 eI21
                  rw [← eI21]
                  exact Ev_vret hq_130 (show decode prog_7_method_14_code 403 = .ok (.return_, 1) by decide +kernel) k
                · have k := k.2 c19
                  refine Ev_iload_n hq_130 (show decode prog_7_method_14_code 350 = .ok (.iload_n 1, 1) by decide +kernel) rfl ?_
                  refine Ev_bipush (v := 45) hq_130 (show decode prog_7_method_14_code 351 = .ok (.bipush 45, 2) by decide +kernel) (by decide) ?_
                  refine Ev_icmp_eq (tgt := 374) hq_130 (show decode prog_7_method_14_code 353 = .ok (.if_icmp .eq 21, 3) by decide +kernel) (by decide) (fun c22 => ?_) (fun c22 => ?_)
                  · have k := k.1 c22
                    refine Ev_iconst (v := 1) hq_130 (show decode prog_7_method_14_code 374 = .ok (.iconst 1, 1) by decide +kernel) (by decide) ?_
                    refine Ev_goto (tgt := 379) hq_130 (show decode prog_7_method_14_code 375 = .ok (.goto 4, 3) by decide +kernel) (by decide) ?_
                    refine Ev_istore_n (lo2 := [.ref 57, .int y7, .int 1]) hq_130 (show decode prog_7_method_14_code 379 = .ok (.istore_n 2, 1) by decide +kernel) (z_le rfl) rfl ?_
                    refine Ev_aload_n hq_130 (show decode prog_7_method_14_code 380 = .ok (.aload_n 0, 1) by decide +kernel) rfl ?_
                    refine Ev_iload_n hq_130 (show decode prog_7_method_14_code 381 = .ok (.iload_n 2, 1) by decide +kernel) rfl ?_
                    refine Ev_if_eq (tgt := 389) hq_130 (show decode prog_7_method_14_code 382 = .ok (.ifCond .eq 7, 3) by decide +kernel) (by decide) (fun hz => absurd hz (by decide)) (fun _ => ?_)
                    refine Ev_iload_n hq_130 (show decode prog_7_method_14_code 385 = .ok (.iload_n 1, 1) by decide +kernel) rfl ?_
                    refine Ev_goto (tgt := 390) hq_130 (show decode prog_7_method_14_code 386 = .ok (.goto 4, 3) by decide +kernel) (by decide) ?_
                    refine Ev_putI hq_130 (show decode prog_7_method_14_code 390 = .ok (.putfield 116, 3) by decide +kernel) rfl (SGn hS (by decide)) (SGk hS rfl) (by decide) (by decide) rfl (fun hz => by cases hz) ?_
                    obtain ⟨I23, eI23⟩ : ∃ I23 : zI, I23 = z_up I4 57 20 y7 := ⟨_, rfl⟩
                    have k := k I23 eI23
                    rw [← eI23]
                    refine Ev_aload_n hq_130 (show decode prog_7_method_14_code 393 = .ok (.aload_n 0, 1) by decide +kernel) rfl ?_
                    refine Ev_dup hq_130 (show decode prog_7_method_14_code 394 = .ok (.dup, 1) by decide +kernel) rfl ?_
                    refine Ev_getI hq_130 (show decode prog_7_method_14_code 395 = .ok (.getfield 110, 3) by decide +kernel) rfl (SGn hS (by decide)) (SGk hS rfl) (by decide) rfl ?_
                    refine Ev_iconst (v := 1) hq_130 (show decode prog_7_method_14_code 398 = .ok (.iconst 1, 1) by decide +kernel) (by decide) ?_
                    refine Ev_iadd hq_130 (show decode prog_7_method_14_code 399 = .ok (.iadd, 1) by decide +kernel) ?_
                    refine Ev_putI hq_130 (show decode prog_7_method_14_code 400 = .ok (.putfield 110, 3) by decide +kernel) rfl (SGn hS (by decide)) (SGk hS rfl) (by decide) (by decide) rfl (fun hz => by cases hz) ?_
                    obtain ⟨I24, eI24⟩ : ∃ I24 : zI, I24 = z_up I23 57 18 ((I23 57 18) + 1) := ⟨_, rfl⟩
                    have k := k I24 eI24
                    rw [← eI24]
                    exact Ev_vret hq_130 (show decode prog_7_method_14_code 403 = .ok (.return_, 1) by decide +kernel) k
                  · have k := k.2 c22
                    refine Ev_iload_n hq_130 (show decode prog_7_method_14_code 356 = .ok (.iload_n 1, 1) by decide +kernel) rfl ?_
                    refine Ev_bipush (v := 42) hq_130 (show decode prog_7_method_14_code 357 = .ok (.bipush 42, 2) by decide +kernel) (by decide) ?_
                    refine Ev_icmp_eq (tgt := 374) hq_130 (show decode prog_7_method_14_code 359 = .ok (.if_icmp .eq 15, 3) by decide +kernel) (by decide) (fun c25 => ?_) (fun c25 => ?_)
                    · have k := k.1 c25
                      refine Ev_iconst (v := 1) hq_130 (show decode prog_7_method_14_code 374 = .ok (.iconst 1, 1) by decide +kernel) (by decide) ?_
                      refine Ev_goto (tgt := 379) hq_130 (show decode prog_7_method_14_code 375 = .ok (.goto 4, 3) by decide +kernel) (by decide) ?_
                      refine Ev_istore_n (lo2 := [.ref 57, .int y7, .int 1]) hq_130 (show decode prog_7_method_14_code 379 = .ok (.istore_n 2, 1) by decide +kernel) (z_le rfl) rfl ?_
                      refine Ev_aload_n hq_130 (show decode prog_7_method_14_code 380 = .ok (.aload_n 0, 1) by decide +kernel) rfl ?_
                      refine Ev_iload_n hq_130 (show decode prog_7_method_14_code 381 = .ok (.iload_n 2, 1) by decide +kernel) rfl ?_
                      refine Ev_if_eq (tgt := 389) hq_130 (show decode prog_7_method_14_code 382 = .ok (.ifCond .eq 7, 3) by decide +kernel) (by decide) (fun hz => absurd hz (by decide)) (fun _ => ?_)
                      refine Ev_iload_n hq_130 (show decode prog_7_method_14_code 385 = .ok (.iload_n 1, 1) by decide +kernel) rfl ?_
                      refine Ev_goto (tgt := 390) hq_130 (show decode prog_7_method_14_code 386 = .ok (.goto 4, 3) by decide +kernel) (by decide) ?_
                      refine Ev_putI hq_130 (show decode prog_7_method_14_code 390 = .ok (.putfield 116, 3) by decide +kernel) rfl (SGn hS (by decide)) (SGk hS rfl) (by decide) (by decide) rfl (fun hz => by cases hz) ?_
                      obtain ⟨I26, eI26⟩ : ∃ I26 : zI, I26 = z_up I4 57 20 y7 := ⟨_, rfl⟩
                      have k := k I26 eI26
                      rw [← eI26]
                      refine Ev_aload_n hq_130 (show decode prog_7_method_14_code 393 = .ok (.aload_n 0, 1) by decide +kernel) rfl ?_
                      refine Ev_dup hq_130 (show decode prog_7_method_14_code 394 = .ok (.dup, 1) by decide +kernel) rfl ?_
                      refine Ev_getI hq_130 (show decode prog_7_method_14_code 395 = .ok (.getfield 110, 3) by decide +kernel) rfl (SGn hS (by decide)) (SGk hS rfl) (by decide) rfl ?_
                      refine Ev_iconst (v := 1) hq_130 (show decode prog_7_method_14_code 398 = .ok (.iconst 1, 1) by decide +kernel) (by decide) ?_
                      refine Ev_iadd hq_130 (show decode prog_7_method_14_code 399 = .ok (.iadd, 1) by decide +kernel) ?_
                      refine Ev_putI hq_130 (show decode prog_7_method_14_code 400 = .ok (.putfield 110, 3) by decide +kernel) rfl (SGn hS (by decide)) (SGk hS rfl) (by decide) (by decide) rfl (fun hz => by cases hz) ?_
                      obtain ⟨I27, eI27⟩ : ∃ I27 : zI, I27 = z_up I26 57 18 ((I26 57 18) + 1) := ⟨_, rfl⟩
                      have k := k I27 eI27
                      rw [← eI27]
                      exact Ev_vret hq_130 (show decode prog_7_method_14_code 403 = .ok (.return_, 1) by decide +kernel) k
                    · have k := k.2 c25
                      refine Ev_iload_n hq_130 (show decode prog_7_method_14_code 362 = .ok (.iload_n 1, 1) by decide +kernel) rfl ?_
                      refine Ev_bipush (v := 60) hq_130 (show decode prog_7_method_14_code 363 = .ok (.bipush 60, 2) by decide +kernel) (by decide) ?_
                      refine Ev_icmp_eq (tgt := 374) hq_130 (show decode prog_7_method_14_code 365 = .ok (.if_icmp .eq 9, 3) by decide +kernel) (by decide) (fun c28 => ?_) (fun c28 => ?_)
                      · have k := k.1 c28
                        refine Ev_iconst (v := 1) hq_130 (show decode prog_7_method_14_code 374 = .ok (.iconst 1, 1) by decide +kernel) (by decide) ?_
                        refine Ev_goto (tgt := 379) hq_130 (show decode prog_7_method_14_code 375 = .ok (.goto 4, 3) by decide +kernel) (by decide) ?_
                        refine Ev_istore_n (lo2 := [.ref 57, .int y7, .int 1]) hq_130 (show decode prog_7_method_14_code 379 = .ok (.istore_n 2, 1) by decide +kernel) (z_le rfl) rfl ?_
                        refine Ev_aload_n hq_130 (show decode prog_7_method_14_code 380 = .ok (.aload_n 0, 1) by decide +kernel) rfl ?_
                        refine Ev_iload_n hq_130 (show decode prog_7_method_14_code 381 = .ok (.iload_n 2, 1) by decide +kernel) rfl ?_
                        refine Ev_if_eq (tgt := 389) hq_130 (show decode prog_7_method_14_code 382 = .ok (.ifCond .eq 7, 3) by decide +kernel) (by decide) (fun hz => absurd hz (by decide)) (fun _ => ?_)
                        refine Ev_iload_n hq_130 (show decode prog_7_method_14_code 385 = .ok (.iload_n 1, 1) by decide +kernel) rfl ?_
                        refine Ev_goto (tgt := 390) hq_130 (show decode prog_7_method_14_code 386 = .ok (.goto 4, 3) by decide +kernel) (by decide) ?_
                        refine Ev_putI hq_130 (show decode prog_7_method_14_code 390 = .ok (.putfield 116, 3) by decide +kernel) rfl (SGn hS (by decide)) (SGk hS rfl) (by decide) (by decide) rfl (fun hz => by cases hz) ?_
                        obtain ⟨I29, eI29⟩ : ∃ I29 : zI, I29 = z_up I4 57 20 y7 := ⟨_, rfl⟩
                        have k := k I29 eI29
                        rw [← eI29]
                        refine Ev_aload_n hq_130 (show decode prog_7_method_14_code 393 = .ok (.aload_n 0, 1) by decide +kernel) rfl ?_
                        refine Ev_dup hq_130 (show decode prog_7_method_14_code 394 = .ok (.dup, 1) by decide +kernel) rfl ?_
                        refine Ev_getI hq_130 (show decode prog_7_method_14_code 395 = .ok (.getfield 110, 3) by decide +kernel) rfl (SGn hS (by decide)) (SGk hS rfl) (by decide) rfl ?_
                        refine Ev_iconst (v := 1) hq_130 (show decode prog_7_method_14_code 398 = .ok (.iconst 1, 1) by decide +kernel) (by decide) ?_
                        refine Ev_iadd hq_130 (show decode prog_7_method_14_code 399 = .ok (.iadd, 1) by decide +kernel) ?_
                        refine Ev_putI hq_130 (show decode prog_7_method_14_code 400 = .ok (.putfield 110, 3) by decide +kernel) rfl (SGn hS (by decide)) (SGk hS rfl) (by decide) (by decide) rfl (fun hz => by cases hz) ?_
                        obtain ⟨I30, eI30⟩ : ∃ I30 : zI, I30 = z_up I29 57 18 ((I29 57 18) + 1) := ⟨_, rfl⟩
                        have k := k I30 eI30
                        rw [← eI30]
                        exact Ev_vret hq_130 (show decode prog_7_method_14_code 403 = .ok (.return_, 1) by decide +kernel) k
                      · have k := k.2 c28
                        refine Ev_iload_n hq_130 (show decode prog_7_method_14_code 368 = .ok (.iload_n 1, 1) by decide +kernel) rfl ?_
                        refine Ev_bipush (v := 61) hq_130 (show decode prog_7_method_14_code 369 = .ok (.bipush 61, 2) by decide +kernel) (by decide) ?_
                        refine Ev_icmp_ne (tgt := 378) hq_130 (show decode prog_7_method_14_code 371 = .ok (.if_icmp .ne 7, 3) by decide +kernel) (by decide) (fun c31 => ?_) (fun c31 => ?_)
                        · have k := k.1 c31
                          refine Ev_iconst (v := 0) hq_130 (show decode prog_7_method_14_code 378 = .ok (.iconst 0, 1) by decide +kernel) (by decide) ?_
                          refine Ev_istore_n (lo2 := [.ref 57, .int y7, .int 0]) hq_130 (show decode prog_7_method_14_code 379 = .ok (.istore_n 2, 1) by decide +kernel) (z_le rfl) rfl ?_
                          refine Ev_aload_n hq_130 (show decode prog_7_method_14_code 380 = .ok (.aload_n 0, 1) by decide +kernel) rfl ?_
                          refine Ev_iload_n hq_130 (show decode prog_7_method_14_code 381 = .ok (.iload_n 2, 1) by decide +kernel) rfl ?_
                          refine Ev_if_eq (tgt := 389) hq_130 (show decode prog_7_method_14_code 382 = .ok (.ifCond .eq 7, 3) by decide +kernel) (by decide) (fun _ => ?_) (fun hz => absurd (by decide) hz)
                          refine Ev_iconst (v := (-1)) hq_130 (show decode prog_7_method_14_code 389 = .ok (.iconst (-1), 1) by decide +kernel) (by decide) ?_
                          refine Ev_putI hq_130 (show decode prog_7_method_14_code 390 = .ok (.putfield 116, 3) by decide +kernel) rfl (SGn hS (by decide)) (SGk hS rfl) (by decide) (by decide) rfl (fun hz => by cases hz) ?_
                          obtain ⟨I32, eI32⟩ : ∃ I32 : zI, I32 = z_up I4 57 20 (-1) := ⟨_, rfl⟩
                          have k := k I32 eI32
                          rw [← eI32]
                          refine Ev_aload_n hq_130 (show decode prog_7_method_14_code 393 = .ok (.aload_n 0, 1) by decide +kernel) rfl ?_
                          refine Ev_dup hq_130 (show decode prog_7_method_14_code 394 = .ok (.dup, 1) by decide +kernel) rfl ?_
                          refine Ev_getI hq_130 (show decode prog_7_method_14_code 395 = .ok (.getfield 110, 3) by decide +kernel) rfl (SGn hS (by decide)) (SGk hS rfl) (by decide) rfl ?_
                          refine Ev_iconst (v := 1) hq_130 (show decode prog_7_method_14_code 398 = .ok (.iconst 1, 1) by decide +kernel) (by decide) ?_
                          refine Ev_iadd hq_130 (show decode prog_7_method_14_code 399 = .ok (.iadd, 1) by decide +kernel) ?_
                          refine Ev_putI hq_130 (show decode prog_7_method_14_code 400 = .ok (.putfield 110, 3) by decide +kernel) rfl (SGn hS (by decide)) (SGk hS rfl) (by decide) (by decide) rfl (fun hz => by cases hz) ?_
                          obtain ⟨I33, eI33⟩ : ∃ I33 : zI, I33 = z_up I32 57 18 ((I32 57 18) + 1) := ⟨_, rfl⟩
                          have k := k I33 eI33
                          rw [← eI33]
                          exact Ev_vret hq_130 (show decode prog_7_method_14_code 403 = .ok (.return_, 1) by decide +kernel) k
                        · have k := k.2 (Classical.not_not.mp c31)
                          refine Ev_iconst (v := 1) hq_130 (show decode prog_7_method_14_code 374 = .ok (.iconst 1, 1) by decide +kernel) (by decide) ?_
                          refine Ev_goto (tgt := 379) hq_130 (show decode prog_7_method_14_code 375 = .ok (.goto 4, 3) by decide +kernel) (by decide) ?_
                          refine Ev_istore_n (lo2 := [.ref 57, .int y7, .int 1]) hq_130 (show decode prog_7_method_14_code 379 = .ok (.istore_n 2, 1) by decide +kernel) (z_le rfl) rfl ?_
                          refine Ev_aload_n hq_130 (show decode prog_7_method_14_code 380 = .ok (.aload_n 0, 1) by decide +kernel) rfl ?_
                          refine Ev_iload_n hq_130 (show decode prog_7_method_14_code 381 = .ok (.iload_n 2, 1) by decide +kernel) rfl ?_
                          refine Ev_if_eq (tgt := 389) hq_130 (show decode prog_7_method_14_code 382 = .ok (.ifCond .eq 7, 3) by decide +kernel) (by decide) (fun hz => absurd hz (by decide)) (fun _ => ?_)
                          refine Ev_iload_n hq_130 (show decode prog_7_method_14_code 385 = .ok (.iload_n 1, 1) by decide +kernel) rfl ?_
                          refine Ev_goto (tgt := 390) hq_130 (show decode prog_7_method_14_code 386 = .ok (.goto 4, 3) by decide +kernel) (by decide) ?_
                          refine Ev_putI hq_130 (show decode prog_7_method_14_code 390 = .ok (.putfield 116, 3) by decide +kernel) rfl (SGn hS (by decide)) (SGk hS rfl) (by decide) (by decide) rfl (fun hz => by cases hz) ?_
                          obtain ⟨I34, eI34⟩ : ∃ I34 : zI, I34 = z_up I4 57 20 y7 := ⟨_, rfl⟩
                          have k := k I34 eI34
                          rw [← eI34]
                          refine Ev_aload_n hq_130 (show decode prog_7_method_14_code 393 = .ok (.aload_n 0, 1) by decide +kernel) rfl ?_
                          refine Ev_dup hq_130 (show decode prog_7_method_14_code 394 = .ok (.dup, 1) by decide +kernel) rfl ?_
                          refine Ev_getI hq_130 (show decode prog_7_method_14_code 395 = .ok (.getfield 110, 3) by decide +kernel) rfl (SGn hS (by decide)) (SGk hS rfl) (by decide) rfl ?_
                          refine Ev_iconst (v := 1) hq_130 (show decode prog_7_method_14_code 398 = .ok (.iconst 1, 1) by decide +kernel) (by decide) ?_
                          refine Ev_iadd hq_130 (show decode prog_7_method_14_code 399 = .ok (.iadd, 1) by decide +kernel) ?_
                          refine Ev_putI hq_130 (show decode prog_7_method_14_code 400 = .ok (.putfield 110, 3) by decide +kernel) rfl (SGn hS (by decide)) (SGk hS rfl) (by decide) (by decide) rfl (fun hz => by cases hz) ?_
                          obtain ⟨I35, eI35⟩ : ∃ I35 : zI, I35 = z_up I34 57 18 ((I34 57 18) + 1) := ⟨_, rfl⟩
                          have k := k I35 eI35
                          rw [← eI35]
                          exact Ev_vret hq_130 (show decode prog_7_method_14_code 403 = .ok (.return_, 1) by decide +kernel) k
        · have k := k.2 c9
          refine Ev_iconst (v := 0) hq_130 (show decode prog_7_method_14_code 228 = .ok (.iconst 0, 1) by decide +kernel) (by decide) ?_
          refine Ev_istore_n (lo2 := [.ref 57, .int y7, .int 0]) hq_130 (show decode prog_7_method_14_code 229 = .ok (.istore_n 2, 1) by decide +kernel) (z_le rfl) rfl ?_
          exact k
      · have k := k.2 c8
        exact k
    · have k := k.2 (Classical.not_not.mp c5)
      exact Ev_vret hq_130 (show decode prog_7_method_14_code 81 = .ok (.return_, 1) by decide +kernel) k
  · have k := k.2 c1
    refine Ev_aload_n hq_130 (show decode prog_7_method_14_code 11 = .ok (.aload_n 0, 1) by decide +kernel) rfl ?_
    refine Ev_getR hq_130 (show decode prog_7_method_14_code 12 = .ok (.getfield 19, 3) by decide +kernel) rfl (SGn hS (by decide)) (SGk hS rfl) (by decide) rfl (SGr hS rfl) ?_
    refine Ev_aload_n hq_130 (show decode prog_7_method_14_code 15 = .ok (.aload_n 0, 1) by decide +kernel) rfl ?_
    refine Ev_getI hq_130 (show decode prog_7_method_14_code 16 = .ok (.getfield 110, 3) by decide +kernel) rfl (SGn hS (by decide)) (SGk hS rfl) (by decide) rfl ?_
    obtain ⟨h36, k⟩ := k
    refine Ev_iald hq_130 (show decode prog_7_method_14_code 19 = .ok (.iaload, 1) by decide +kernel) (SGn hS (by decide)) (SGk hS rfl) (SGi hS rfl h36) ?_
    refine Ev_bipush (v := 32) hq_130 (show decode prog_7_method_14_code 20 = .ok (.bipush 32, 2) by decide +kernel) (by decide) ?_
    refine Ev_icmp_eq (tgt := 39) hq_130 (show decode prog_7_method_14_code 22 = .ok (.if_icmp .eq 17, 3) by decide +kernel) (by decide) (fun c37 => ?_) (fun c37 => ?_)
    · have k := k.1 c37
      refine Ev_aload_n hq_130 (show decode prog_7_method_14_code 39 = .ok (.aload_n 0, 1) by decide +kernel) rfl ?_
      refine Ev_dup hq_130 (show decode prog_7_method_14_code 40 = .ok (.dup, 1) by decide +kernel) rfl ?_
      refine Ev_getI hq_130 (show decode prog_7_method_14_code 41 = .ok (.getfield 110, 3) by decide +kernel) rfl (SGn hS (by decide)) (SGk hS rfl) (by decide) rfl ?_
      refine Ev_iconst (v := 1) hq_130 (show decode prog_7_method_14_code 44 = .ok (.iconst 1, 1) by decide +kernel) (by decide) ?_
      refine Ev_iadd hq_130 (show decode prog_7_method_14_code 45 = .ok (.iadd, 1) by decide +kernel) ?_
      refine Ev_putI hq_130 (show decode prog_7_method_14_code 46 = .ok (.putfield 110, 3) by decide +kernel) rfl (SGn hS (by decide)) (SGk hS rfl) (by decide) (by decide) rfl (fun hz => by cases hz) ?_
      obtain ⟨I38, eI38⟩ : ∃ I38 : zI, I38 = z_up I 57 18 ((I 57 18) + 1) := ⟨_, rfl⟩
      have k := k I38 eI38
      rw [← eI38]
      refine Ev_goto (tgt := 0) hq_130 (show decode prog_7_method_14_code 49 = .ok (.goto (-49), 3) by decide +kernel) (by decide) ?_
      exact k
    · have k := k.2 c37
      refine Ev_aload_n hq_130 (show decode prog_7_method_14_code 25 = .ok (.aload_n 0, 1) by decide +kernel) rfl ?_
      refine Ev_getR hq_130 (show decode prog_7_method_14_code 26 = .ok (.getfield 19, 3) by decide +kernel) rfl (SGn hS (by decide)) (SGk hS rfl) (by decide) rfl (SGr hS rfl) ?_
      refine Ev_aload_n hq_130 (show decode prog_7_method_14_code 29 = .ok (.aload_n 0, 1) by decide +kernel) rfl ?_
      refine Ev_getI hq_130 (show decode prog_7_method_14_code 30 = .ok (.getfield 110, 3) by decide +kernel) rfl (SGn hS (by decide)) (SGk hS rfl) (by decide) rfl ?_
      obtain ⟨h39, k⟩ := k
      refine Ev_iald hq_130 (show decode prog_7_method_14_code 33 = .ok (.iaload, 1) by decide +kernel) (SGn hS (by decide)) (SGk hS rfl) (SGi hS rfl h39) ?_
      refine Ev_bipush (v := 10) hq_130 (show decode prog_7_method_14_code 34 = .ok (.bipush 10, 2) by decide +kernel) (by decide) ?_
      refine Ev_icmp_ne (tgt := 52) hq_130 (show decode prog_7_method_14_code 36 = .ok (.if_icmp .ne 16, 3) by decide +kernel) (by decide) (fun c40 => ?_) (fun c40 => ?_)
      · have k := k.1 c40
        refine Ev_aload_n hq_130 (show decode prog_7_method_14_code 52 = .ok (.aload_n 0, 1) by decide +kernel) rfl ?_
        refine Ev_aload_n hq_130 (show decode prog_7_method_14_code 53 = .ok (.aload_n 0, 1) by decide +kernel) rfl ?_
        refine Ev_getI hq_130 (show decode prog_7_method_14_code 54 = .ok (.getfield 110, 3) by decide +kernel) rfl (SGn hS (by decide)) (SGk hS rfl) (by decide) rfl ?_
        refine Ev_putI hq_130 (show decode prog_7_method_14_code 57 = .ok (.putfield 113, 3) by decide +kernel) rfl (SGn hS (by decide)) (SGk hS rfl) (by decide) (by decide) rfl (fun hz => by cases hz) ?_
        obtain ⟨I41, eI41⟩ : ∃ I41 : zI, I41 = z_up I 57 19 (I 57 18) := ⟨_, rfl⟩
        have k := k I41 eI41
        rw [← eI41]
        refine Ev_aload_n hq_130 (show decode prog_7_method_14_code 60 = .ok (.aload_n 0, 1) by decide +kernel) rfl ?_
        refine Ev_iconst (v := 0) hq_130 (show decode prog_7_method_14_code 61 = .ok (.iconst 0, 1) by decide +kernel) (by decide) ?_
        refine Ev_putI hq_130 (show decode prog_7_method_14_code 62 = .ok (.putfield 116, 3) by decide +kernel) rfl (SGn hS (by decide)) (SGk hS rfl) (by decide) (by decide) rfl (fun hz => by cases hz) ?_
        obtain ⟨I42, eI42⟩ : ∃ I42 : zI, I42 = z_up I41 57 20 0 := ⟨_, rfl⟩
        have k := k I42 eI42
        rw [← eI42]
        refine Ev_aload_n hq_130 (show decode prog_7_method_14_code 65 = .ok (.aload_n 0, 1) by decide +kernel) rfl ?_
        refine Ev_iconst (v := 0) hq_130 (show decode prog_7_method_14_code 66 = .ok (.iconst 0, 1) by decide +kernel) (by decide) ?_
        refine Ev_putI hq_130 (show decode prog_7_method_14_code 67 = .ok (.putfield 119, 3) by decide +kernel) rfl (SGn hS (by decide)) (SGk hS rfl) (by decide) (by decide) rfl (fun hz => by cases hz) ?_
        obtain ⟨I43, eI43⟩ : ∃ I43 : zI, I43 = z_up I42 57 21 0 := ⟨_, rfl⟩
        have k := k I43 eI43
        rw [← eI43]
        refine Ev_aload_n hq_130 (show decode prog_7_method_14_code 70 = .ok (.aload_n 0, 1) by decide +kernel) rfl ?_
        refine Ev_getI hq_130 (show decode prog_7_method_14_code 71 = .ok (.getfield 110, 3) by decide +kernel) rfl (SGn hS (by decide)) (SGk hS rfl) (by decide) rfl ?_
        refine Ev_aload_n hq_130 (show decode prog_7_method_14_code 74 = .ok (.aload_n 0, 1) by decide +kernel) rfl ?_
        refine Ev_getI hq_130 (show decode prog_7_method_14_code 75 = .ok (.getfield 80, 3) by decide +kernel) rfl (SGn hS (by decide)) (SGk hS rfl) (by decide) rfl ?_
        refine Ev_icmp_ne (tgt := 82) hq_130 (show decode prog_7_method_14_code 78 = .ok (.if_icmp .ne 4, 3) by decide +kernel) (by decide) (fun c44 => ?_) (fun c44 => ?_)
        · have k := k.1 c44
          refine Ev_aload_n hq_130 (show decode prog_7_method_14_code 82 = .ok (.aload_n 0, 1) by decide +kernel) rfl ?_
          refine Ev_getR hq_130 (show decode prog_7_method_14_code 83 = .ok (.getfield 19, 3) by decide +kernel) rfl (SGn hS (by decide)) (SGk hS rfl) (by decide) rfl (SGr hS rfl) ?_
          refine Ev_aload_n hq_130 (show decode prog_7_method_14_code 86 = .ok (.aload_n 0, 1) by decide +kernel) rfl ?_
          refine Ev_getI hq_130 (show decode prog_7_method_14_code 87 = .ok (.getfield 110, 3) by decide +kernel) rfl (SGn hS (by decide)) (SGk hS rfl) (by decide) rfl ?_
          obtain ⟨h45, k⟩ := k
          refine Ev_iald hq_130 (show decode prog_7_method_14_code 90 = .ok (.iaload, 1) by decide +kernel) (SGn hS (by decide)) (SGk hS rfl) (SGi hS rfl h45) ?_
          obtain ⟨y46, ey46⟩ : ∃ y46 : Int32, y46 = (I43 61 (I43 57 18).toNatClampNeg) := ⟨_, rfl⟩
          have k := k y46 ey46
          rw [← ey46]
          refine Ev_istore_n (lo2 := [.ref 57, .int y46, zU]) hq_130 (show decode prog_7_method_14_code 91 = .ok (.istore_n 1, 1) by decide +kernel) (z_le rfl) rfl ?_
          refine Ev_iload_n hq_130 (show decode prog_7_method_14_code 92 = .ok (.iload_n 1, 1) by decide +kernel) rfl ?_
          refine Ev_bipush (v := 97) hq_130 (show decode prog_7_method_14_code 93 = .ok (.bipush 97, 2) by decide +kernel) (by decide) ?_
          refine Ev_bipush (v := 122) hq_130 (show decode prog_7_method_14_code 95 = .ok (.bipush 122, 2) by decide +kernel) (by decide) ?_
          refine Ev_stat (as := [.int y46, .int 97, .int 122]) hq_130 (show decode prog_7_method_14_code 97 = .ok (.invokestatic 90, 3) by decide +kernel) rfl (Or.inl rfl) hq_131 rfl (z_le rfl) (c_Z_in y46 97 122) ?_
          refine Ev_if_eq (tgt := 217) hq_130 (show decode prog_7_method_14_code 100 = .ok (.ifCond .eq 117, 3) by decide +kernel) (by decide) (fun c47 => ?_) (fun c47 => ?_)
          · have k := k.1 c47
            refine Ev_iload_n hq_130 (show decode prog_7_method_14_code 217 = .ok (.iload_n 1, 1) by decide +kernel) rfl ?_
            refine Ev_bipush (v := 48) hq_130 (show decode prog_7_method_14_code 218 = .ok (.bipush 48, 2) by decide +kernel) (by decide) ?_
            refine Ev_bipush (v := 57) hq_130 (show decode prog_7_method_14_code 220 = .ok (.bipush 57, 2) by decide +kernel) (by decide) ?_
            refine Ev_stat (as := [.int y46, .int 48, .int 57]) hq_130 (show decode prog_7_method_14_code 222 = .ok (.invokestatic 90, 3) by decide +kernel) rfl (Or.inl rfl) hq_131 rfl (z_le rfl) (c_Z_in y46 48 57) ?_
            refine Ev_if_eq (tgt := 326) hq_130 (show decode prog_7_method_14_code 225 = .ok (.ifCond .eq 101, 3) by decide +kernel) (by decide) (fun c48 => ?_) (fun c48 => ?_)
            · have k := k.1 c48
              refine Ev_iload_n hq_130 (show decode prog_7_method_14_code 326 = .ok (.iload_n 1, 1) by decide +kernel) rfl ?_
              refine Ev_bipush (v := 40) hq_130 (show decode prog_7_method_14_code 327 = .ok (.bipush 40, 2) by decide +kernel) (by decide) ?_
              refine Ev_icmp_eq (tgt := 374) hq_130 (show decode prog_7_method_14_code 329 = .ok (.if_icmp .eq 45, 3) by decide +kernel) (by decide) (fun c49 => ?_) (fun c49 => ?_)
              · have k := k.1 c49
                refine Ev_iconst (v := 1) hq_130 (show decode prog_7_method_14_code 374 = .ok (.iconst 1, 1) by decide +kernel) (by decide) ?_
                refine Ev_goto (tgt := 379) hq_130 (show decode prog_7_method_14_code 375 = .ok (.goto 4, 3) by decide +kernel) (by decide) ?_
                refine Ev_istore_n (lo2 := [.ref 57, .int y46, .int 1]) hq_130 (show decode prog_7_method_14_code 379 = .ok (.istore_n 2, 1) by decide +kernel) (z_le rfl) rfl ?_
                refine Ev_aload_n hq_130 (show decode prog_7_method_14_code 380 = .ok (.aload_n 0, 1) by decide +kernel) rfl ?_
                refine Ev_iload_n hq_130 (show decode prog_7_method_14_code 381 = .ok (.iload_n 2, 1) by decide +kernel) rfl ?_
                refine Ev_if_eq (tgt := 389) hq_130 (show decode prog_7_method_14_code 382 = .ok (.ifCond .eq 7, 3) by decide +kernel) (by decide) (fun hz => absurd hz (by decide)) (fun _ => ?_)
                refine Ev_iload_n hq_130 (show decode prog_7_method_14_code 385 = .ok (.iload_n 1, 1) by decide +kernel) rfl ?_
                refine Ev_goto (tgt := 390) hq_130 (show decode prog_7_method_14_code 386 = .ok (.goto 4, 3) by decide +kernel) (by decide) ?_
                refine Ev_putI hq_130 (show decode prog_7_method_14_code 390 = .ok (.putfield 116, 3) by decide +kernel) rfl (SGn hS (by decide)) (SGk hS rfl) (by decide) (by decide) rfl (fun hz => by cases hz) ?_
                obtain ⟨I50, eI50⟩ : ∃ I50 : zI, I50 = z_up I43 57 20 y46 := ⟨_, rfl⟩
                have k := k I50 eI50
                rw [← eI50]
                refine Ev_aload_n hq_130 (show decode prog_7_method_14_code 393 = .ok (.aload_n 0, 1) by decide +kernel) rfl ?_
                refine Ev_dup hq_130 (show decode prog_7_method_14_code 394 = .ok (.dup, 1) by decide +kernel) rfl ?_
                refine Ev_getI hq_130 (show decode prog_7_method_14_code 395 = .ok (.getfield 110, 3) by decide +kernel) rfl (SGn hS (by decide)) (SGk hS rfl) (by decide) rfl ?_
                refine Ev_iconst (v := 1) hq_130 (show decode prog_7_method_14_code 398 = .ok (.iconst 1, 1) by decide +kernel) (by decide) ?_
                refine Ev_iadd hq_130 (show decode prog_7_method_14_code 399 = .ok (.iadd, 1) by decide +kernel) ?_
                refine Ev_putI hq_130 (show decode prog_7_method_14_code 400 = .ok (.putfield 110, 3) by decide +kernel) rfl (SGn hS (by decide)) (SGk hS rfl) (by decide) (by decide) rfl (fun hz => by cases hz) ?_
                obtain ⟨I51, eI51⟩ : ∃ I51 : zI, I51 = z_up I50 57 18 ((I50 57 18) + 1) := ⟨_, rfl⟩
                have k := k I51 eI51
                rw [← eI51]
                exact Ev_vret hq_130 (show decode prog_7_method_14_code 403 = .ok (.return_, 1) by decide +kernel) k
              · have k := k.2 c49
                refine Ev_iload_n hq_130 (show decode prog_7_method_14_code 332 = .ok (.iload_n 1, 1) by decide +kernel) rfl ?_
                refine Ev_bipush (v := 41) hq_130 (show decode prog_7_method_14_code 333 = .ok (.bipush 41, 2) by decide +kernel) (by decide) ?_
                refine Ev_icmp_eq (tgt := 374) hq_130 (show decode prog_7_method_14_code 335 = .ok (.if_icmp .eq 39, 3) by decide +kernel) (by decide) (fun c52 => ?_) (fun c52 => ?_)
                · have k := k.1 c52
                  refine Ev_iconst (v := 1) hq_130 (show decode prog_7_method_14_code 374 = .ok (.iconst 1, 1) by decide +kernel) (by decide) ?_
                  refine Ev_goto (tgt := 379) hq_130 (show decode prog_7_method_14_code 375 = .ok (.goto 4, 3) by decide +kernel) (by decide) ?_
                  refine Ev_istore_n (lo2 := [.ref 57, .int y46, .int 1]) hq_130 (show decode prog_7_method_14_code 379 = .ok (.istore_n 2, 1) by decide +kernel) (z_le rfl) rfl ?_
                  refine Ev_aload_n hq_130 (show decode prog_7_method_14_code 380 = .ok (.aload_n 0, 1) by decide +kernel) rfl ?_
                  refine Ev_iload_n hq_130 (show decode prog_7_method_14_code 381 = .ok (.iload_n 2, 1) by decide +kernel) rfl ?_
                  refine Ev_if_eq (tgt := 389) hq_130 (show decode prog_7_method_14_code 382 = .ok (.ifCond .eq 7, 3) by decide +kernel) (by decide) (fun hz => absurd hz (by decide)) (fun _ => ?_)
                  refine Ev_iload_n hq_130 (show decode prog_7_method_14_code 385 = .ok (.iload_n 1, 1) by decide +kernel) rfl ?_
                  refine Ev_goto (tgt := 390) hq_130 (show decode prog_7_method_14_code 386 = .ok (.goto 4, 3) by decide +kernel) (by decide) ?_
                  refine Ev_putI hq_130 (show decode prog_7_method_14_code 390 = .ok (.putfield 116, 3) by decide +kernel) rfl (SGn hS (by decide)) (SGk hS rfl) (by decide) (by decide) rfl (fun hz => by cases hz) ?_
                  obtain ⟨I53, eI53⟩ : ∃ I53 : zI, I53 = z_up I43 57 20 y46 := ⟨_, rfl⟩
                  have k := k I53 eI53
                  rw [← eI53]
                  refine Ev_aload_n hq_130 (show decode prog_7_method_14_code 393 = .ok (.aload_n 0, 1) by decide +kernel) rfl ?_
                  refine Ev_dup hq_130 (show decode prog_7_method_14_code 394 = .ok (.dup, 1) by decide +kernel) rfl ?_
                  refine Ev_getI hq_130 (show decode prog_7_method_14_code 395 = .ok (.getfield 110, 3) by decide +kernel) rfl (SGn hS (by decide)) (SGk hS rfl) (by decide) rfl ?_
                  refine Ev_iconst (v := 1) hq_130 (show decode prog_7_method_14_code 398 = .ok (.iconst 1, 1) by decide +kernel) (by decide) ?_
                  refine Ev_iadd hq_130 (show decode prog_7_method_14_code 399 = .ok (.iadd, 1) by decide +kernel) ?_
                  refine Ev_putI hq_130 (show decode prog_7_method_14_code 400 = .ok (.putfield 110, 3) by decide +kernel) rfl (SGn hS (by decide)) (SGk hS rfl) (by decide) (by decide) rfl (fun hz => by cases hz) ?_
                  obtain ⟨I54, eI54⟩ : ∃ I54 : zI, I54 = z_up I53 57 18 ((I53 57 18) + 1) := ⟨_, rfl⟩
                  have k := k I54 eI54
                  rw [← eI54]
                  exact Ev_vret hq_130 (show decode prog_7_method_14_code 403 = .ok (.return_, 1) by decide +kernel) k
                · have k := k.2 c52
                  refine Ev_iload_n hq_130 (show decode prog_7_method_14_code 338 = .ok (.iload_n 1, 1) by decide +kernel) rfl ?_
                  refine Ev_bipush (v := 59) hq_130 (show decode prog_7_method_14_code 339 = .ok (.bipush 59, 2) by decide +kernel) (by decide) ?_
                  refine Ev_icmp_eq (tgt := 374) hq_130 (show decode prog_7_method_14_code 341 = .ok (.if_icmp .eq 33, 3) by decide +kernel) (by decide) (fun c55 => ?_) (fun c55 => ?_)
                  · have k := k.1 c55
                    refine Ev_iconst (v := 1) hq_130 (show decode prog_7_method_14_code 374 = .ok (.iconst 1, 1) by decide +kernel) (by decide) ?_
                    refine Ev_goto (tgt := 379) hq_130 (show decode prog_7_method_14_code 375 = .ok (.goto 4, 3) by decide +kernel) (by decide) ?_
                    refine Ev_istore_n (lo2 := [.ref 57, .int y46, .int 1]) hq_130 (show decode prog_7_method_14_code 379 = .ok (.istore_n 2, 1) by decide +kernel) (z_le rfl) rfl ?_
                    refine Ev_aload_n hq_130 (show decode prog_7_method_14_code 380 = .ok (.aload_n 0, 1) by decide +kernel) rfl ?_
                    refine Ev_iload_n hq_130 (show decode prog_7_method_14_code 381 = .ok (.iload_n 2, 1) by decide +kernel) rfl ?_
                    refine Ev_if_eq (tgt := 389) hq_130 (show decode prog_7_method_14_code 382 = .ok (.ifCond .eq 7, 3) by decide +kernel) (by decide) (fun hz => absurd hz (by decide)) (fun _ => ?_)
                    refine Ev_iload_n hq_130 (show decode prog_7_method_14_code 385 = .ok (.iload_n 1, 1) by decide +kernel) rfl ?_
                    refine Ev_goto (tgt := 390) hq_130 (show decode prog_7_method_14_code 386 = .ok (.goto 4, 3) by decide +kernel) (by decide) ?_
                    refine Ev_putI hq_130 (show decode prog_7_method_14_code 390 = .ok (.putfield 116, 3) by decide +kernel) rfl (SGn hS (by decide)) (SGk hS rfl) (by decide) (by decide) rfl (fun hz => by cases hz) ?_
                    obtain ⟨I56, eI56⟩ : ∃ I56 : zI, I56 = z_up I43 57 20 y46 := ⟨_, rfl⟩
                    have k := k I56 eI56
                    rw [← eI56]
                    refine Ev_aload_n hq_130 (show decode prog_7_method_14_code 393 = .ok (.aload_n 0, 1) by decide +kernel) rfl ?_
                    refine Ev_dup hq_130 (show decode prog_7_method_14_code 394 = .ok (.dup, 1) by decide +kernel) rfl ?_
                    refine Ev_getI hq_130 (show decode prog_7_method_14_code 395 = .ok (.getfield 110, 3) by decide +kernel) rfl (SGn hS (by decide)) (SGk hS rfl) (by decide) rfl ?_
                    refine Ev_iconst (v := 1) hq_130 (show decode prog_7_method_14_code 398 = .ok (.iconst 1, 1) by decide +kernel) (by decide) ?_
                    refine Ev_iadd hq_130 (show decode prog_7_method_14_code 399 = .ok (.iadd, 1) by decide +kernel) ?_
                    refine Ev_putI hq_130 (show decode prog_7_method_14_code 400 = .ok (.putfield 110, 3) by decide +kernel) rfl (SGn hS (by decide)) (SGk hS rfl) (by decide) (by decide) rfl (fun hz => by cases hz) ?_
                    obtain ⟨I57, eI57⟩ : ∃ I57 : zI, I57 = z_up I56 57 18 ((I56 57 18) + 1) := ⟨_, rfl⟩
                    have k := k I57 eI57
                    rw [← eI57]
                    exact Ev_vret hq_130 (show decode prog_7_method_14_code 403 = .ok (.return_, 1) by decide +kernel) k
                  · have k := k.2 c55
                    refine Ev_iload_n hq_130 (show decode prog_7_method_14_code 344 = .ok (.iload_n 1, 1) by decide +kernel) rfl ?_
                    refine Ev_bipush (v := 43) hq_130 (show decode prog_7_method_14_code 345 = .ok (.bipush 43, 2) by decide +kernel) (by decide) ?_
                    refine Ev_icmp_eq (tgt := 374) hq_130 (show decode prog_7_method_14_code 347 = .ok (.if_icmp .eq 27, 3) by decide +kernel) (by decide) (fun c58 => ?_) (fun c58 => ?_)
                    · have k := k.1 c58
                      refine Ev_iconst (v := 1) hq_130 (show decode prog_7_method_14_code 374 = .ok (.iconst 1, 1) by decide +kernel) (by decide) ?_
                      refine Ev_goto (tgt := 379) hq_130 (show decode prog_7_method_14_code 375 = .ok (.goto 4, 3) by decide +kernel) (by decide) ?_
                      refine Ev_istore_n (lo2 := [.ref 57, .int y46, .int 1]) hq_130 (show decode prog_7_method_14_code 379 = .ok (.istore_n 2, 1) by decide +kernel) (z_le rfl) rfl ?_
                      refine Ev_aload_n hq_130 (show decode prog_7_method_14_code 380 = .ok (.aload_n 0, 1) by decide +kernel) rfl ?_
                      refine Ev_iload_n hq_130 (show decode prog_7_method_14_code 381 = .ok (.iload_n 2, 1) by decide +kernel) rfl ?_
                      refine Ev_if_eq (tgt := 389) hq_130 (show decode prog_7_method_14_code 382 = .ok (.ifCond .eq 7, 3) by decide +kernel) (by decide) (fun hz => absurd hz (by decide)) (fun _ => ?_)
                      refine Ev_iload_n hq_130 (show decode prog_7_method_14_code 385 = .ok (.iload_n 1, 1) by decide +kernel) rfl ?_
                      refine Ev_goto (tgt := 390) hq_130 (show decode prog_7_method_14_code 386 = .ok (.goto 4, 3) by decide +kernel) (by decide) ?_
                      refine Ev_putI hq_130 (show decode prog_7_method_14_code 390 = .ok (.putfield 116, 3) by decide +kernel) rfl (SGn hS (by decide)) (SGk hS rfl) (by decide) (by decide) rfl (fun hz => by cases hz) ?_
                      obtain ⟨I59, eI59⟩ : ∃ I59 : zI, I59 = z_up I43 57 20 y46 := ⟨_, rfl⟩
                      have k := k I59 eI59
                      rw [← eI59]
                      refine Ev_aload_n hq_130 (show decode prog_7_method_14_code 393 = .ok (.aload_n 0, 1) by decide +kernel) rfl ?_
                      refine Ev_dup hq_130 (show decode prog_7_method_14_code 394 = .ok (.dup, 1) by decide +kernel) rfl ?_
                      refine Ev_getI hq_130 (show decode prog_7_method_14_code 395 = .ok (.getfield 110, 3) by decide +kernel) rfl (SGn hS (by decide)) (SGk hS rfl) (by decide) rfl ?_
                      refine Ev_iconst (v := 1) hq_130 (show decode prog_7_method_14_code 398 = .ok (.iconst 1, 1) by decide +kernel) (by decide) ?_
                      refine Ev_iadd hq_130 (show decode prog_7_method_14_code 399 = .ok (.iadd, 1) by decide +kernel) ?_
                      refine Ev_putI hq_130 (show decode prog_7_method_14_code 400 = .ok (.putfield 110, 3) by decide +kernel) rfl (SGn hS (by decide)) (SGk hS rfl) (by decide) (by decide) rfl (fun hz => by cases hz) ?_
                      obtain ⟨I60, eI60⟩ : ∃ I60 : zI, I60 = z_up I59 57 18 ((I59 57 18) + 1) := ⟨_, rfl⟩
                      have k := k I60 eI60
                      rw [← eI60]
                      exact Ev_vret hq_130 (show decode prog_7_method_14_code 403 = .ok (.return_, 1) by decide +kernel) k
                    · have k := k.2 c58
                      refine Ev_iload_n hq_130 (show decode prog_7_method_14_code 350 = .ok (.iload_n 1, 1) by decide +kernel) rfl ?_
                      refine Ev_bipush (v := 45) hq_130 (show decode prog_7_method_14_code 351 = .ok (.bipush 45, 2) by decide +kernel) (by decide) ?_
                      refine Ev_icmp_eq (tgt := 374) hq_130 (show decode prog_7_method_14_code 353 = .ok (.if_icmp .eq 21, 3) by decide +kernel) (by decide) (fun c61 => ?_) (fun c61 => ?_)
                      · have k := k.1 c61
                        refine Ev_iconst (v := 1) hq_130 (show decode prog_7_method_14_code 374 = .ok (.iconst 1, 1) by decide +kernel) (by decide) ?_
                        refine Ev_goto (tgt := 379) hq_130 (show decode prog_7_method_14_code 375 = .ok (.goto 4, 3) by decide +kernel) (by decide) ?_
                        refine Ev_istore_n (lo2 := [.ref 57, .int y46, .int 1]) hq_130 (show decode prog_7_method_14_code 379 = .ok (.istore_n 2, 1) by decide +kernel) (z_le rfl) rfl ?_
                        refine Ev_aload_n hq_130 (show decode prog_7_method_14_code 380 = .ok (.aload_n 0, 1) by decide +kernel) rfl ?_
                        refine Ev_iload_n hq_130 (show decode prog_7_method_14_code 381 = .ok (.iload_n 2, 1) by decide +kernel) rfl ?_
                        refine Ev_if_eq (tgt := 389) hq_130 (show decode prog_7_method_14_code 382 = .ok (.ifCond .eq 7, 3) by decide +kernel) (by decide) (fun hz => absurd hz (by decide)) (fun _ => ?_)
                        refine Ev_iload_n hq_130 (show decode prog_7_method_14_code 385 = .ok (.iload_n 1, 1) by decide +kernel) rfl ?_
                        refine Ev_goto (tgt := 390) hq_130 (show decode prog_7_method_14_code 386 = .ok (.goto 4, 3) by decide +kernel) (by decide) ?_
                        refine Ev_putI hq_130 (show decode prog_7_method_14_code 390 = .ok (.putfield 116, 3) by decide +kernel) rfl (SGn hS (by decide)) (SGk hS rfl) (by decide) (by decide) rfl (fun hz => by cases hz) ?_
                        obtain ⟨I62, eI62⟩ : ∃ I62 : zI, I62 = z_up I43 57 20 y46 := ⟨_, rfl⟩
                        have k := k I62 eI62
                        rw [← eI62]
                        refine Ev_aload_n hq_130 (show decode prog_7_method_14_code 393 = .ok (.aload_n 0, 1) by decide +kernel) rfl ?_
                        refine Ev_dup hq_130 (show decode prog_7_method_14_code 394 = .ok (.dup, 1) by decide +kernel) rfl ?_
                        refine Ev_getI hq_130 (show decode prog_7_method_14_code 395 = .ok (.getfield 110, 3) by decide +kernel) rfl (SGn hS (by decide)) (SGk hS rfl) (by decide) rfl ?_
                        refine Ev_iconst (v := 1) hq_130 (show decode prog_7_method_14_code 398 = .ok (.iconst 1, 1) by decide +kernel) (by decide) ?_
                        refine Ev_iadd hq_130 (show decode prog_7_method_14_code 399 = .ok (.iadd, 1) by decide +kernel) ?_
                        refine Ev_putI hq_130 (show decode prog_7_method_14_code 400 = .ok (.putfield 110, 3) by decide +kernel) rfl (SGn hS (by decide)) (SGk hS rfl) (by decide) (by decide) rfl (fun hz => by cases hz) ?_
                        obtain ⟨I63, eI63⟩ : ∃ I63 : zI, I63 = z_up I62 57 18 ((I62 57 18) + 1) := ⟨_, rfl⟩
                        have k := k I63 eI63
                        rw [← eI63]
                        exact Ev_vret hq_130 (show decode prog_7_method_14_code 403 = .ok (.return_, 1) by decide +kernel) k
                      · have k := k.2 c61
                        refine Ev_iload_n hq_130 (show decode prog_7_method_14_code 356 = .ok (.iload_n 1, 1) by decide +kernel) rfl ?_
                        refine Ev_bipush (v := 42) hq_130 (show decode prog_7_method_14_code 357 = .ok (.bipush 42, 2) by decide +kernel) (by decide) ?_
                        refine Ev_icmp_eq (tgt := 374) hq_130 (show decode prog_7_method_14_code 359 = .ok (.if_icmp .eq 15, 3) by decide +kernel) (by decide) (fun c64 => ?_) (fun c64 => ?_)
                        · have k := k.1 c64
                          refine Ev_iconst (v := 1) hq_130 (show decode prog_7_method_14_code 374 = .ok (.iconst 1, 1) by decide +kernel) (by decide) ?_
                          refine Ev_goto (tgt := 379) hq_130 (show decode prog_7_method_14_code 375 = .ok (.goto 4, 3) by decide +kernel) (by decide) ?_
                          refine Ev_istore_n (lo2 := [.ref 57, .int y46, .int 1]) hq_130 (show decode prog_7_method_14_code 379 = .ok (.istore_n 2, 1) by decide +kernel) (z_le rfl) rfl ?_
                          refine Ev_aload_n hq_130 (show decode prog_7_method_14_code 380 = .ok (.aload_n 0, 1) by decide +kernel) rfl ?_
                          refine Ev_iload_n hq_130 (show decode prog_7_method_14_code 381 = .ok (.iload_n 2, 1) by decide +kernel) rfl ?_
                          refine Ev_if_eq (tgt := 389) hq_130 (show decode prog_7_method_14_code 382 = .ok (.ifCond .eq 7, 3) by decide +kernel) (by decide) (fun hz => absurd hz (by decide)) (fun _ => ?_)
                          refine Ev_iload_n hq_130 (show decode prog_7_method_14_code 385 = .ok (.iload_n 1, 1) by decide +kernel) rfl ?_
                          refine Ev_goto (tgt := 390) hq_130 (show decode prog_7_method_14_code 386 = .ok (.goto 4, 3) by decide +kernel) (by decide) ?_
                          refine Ev_putI hq_130 (show decode prog_7_method_14_code 390 = .ok (.putfield 116, 3) by decide +kernel) rfl (SGn hS (by decide)) (SGk hS rfl) (by decide) (by decide) rfl (fun hz => by cases hz) ?_
                          obtain ⟨I65, eI65⟩ : ∃ I65 : zI, I65 = z_up I43 57 20 y46 := ⟨_, rfl⟩
                          have k := k I65 eI65
                          rw [← eI65]
                          refine Ev_aload_n hq_130 (show decode prog_7_method_14_code 393 = .ok (.aload_n 0, 1) by decide +kernel) rfl ?_
                          refine Ev_dup hq_130 (show decode prog_7_method_14_code 394 = .ok (.dup, 1) by decide +kernel) rfl ?_
                          refine Ev_getI hq_130 (show decode prog_7_method_14_code 395 = .ok (.getfield 110, 3) by decide +kernel) rfl (SGn hS (by decide)) (SGk hS rfl) (by decide) rfl ?_
                          refine Ev_iconst (v := 1) hq_130 (show decode prog_7_method_14_code 398 = .ok (.iconst 1, 1) by decide +kernel) (by decide) ?_
                          refine Ev_iadd hq_130 (show decode prog_7_method_14_code 399 = .ok (.iadd, 1) by decide +kernel) ?_
                          refine Ev_putI hq_130 (show decode prog_7_method_14_code 400 = .ok (.putfield 110, 3) by decide +kernel) rfl (SGn hS (by decide)) (SGk hS rfl) (by decide) (by decide) rfl (fun hz => by cases hz) ?_
                          obtain ⟨I66, eI66⟩ : ∃ I66 : zI, I66 = z_up I65 57 18 ((I65 57 18) + 1) := ⟨_, rfl⟩
                          have k := k I66 eI66
                          rw [← eI66]
                          exact Ev_vret hq_130 (show decode prog_7_method_14_code 403 = .ok (.return_, 1) by decide +kernel) k
                        · have k := k.2 c64
                          refine Ev_iload_n hq_130 (show decode prog_7_method_14_code 362 = .ok (.iload_n 1, 1) by decide +kernel) rfl ?_
                          refine Ev_bipush (v := 60) hq_130 (show decode prog_7_method_14_code 363 = .ok (.bipush 60, 2) by decide +kernel) (by decide) ?_
                          refine Ev_icmp_eq (tgt := 374) hq_130 (show decode prog_7_method_14_code 365 = .ok (.if_icmp .eq 9, 3) by decide +kernel) (by decide) (fun c67 => ?_) (fun c67 => ?_)
                          · have k := k.1 c67
                            refine Ev_iconst (v := 1) hq_130 (show decode prog_7_method_14_code 374 = .ok (.iconst 1, 1) by decide +kernel) (by decide) ?_
                            refine Ev_goto (tgt := 379) hq_130 (show decode prog_7_method_14_code 375 = .ok (.goto 4, 3) by decide +kernel) (by decide) ?_
                            refine Ev_istore_n (lo2 := [.ref 57, .int y46, .int 1]) hq_130 (show decode prog_7_method_14_code 379 = .ok (.istore_n 2, 1) by decide +kernel) (z_le rfl) rfl ?_
                            refine Ev_aload_n hq_130 (show decode prog_7_method_14_code 380 = .ok (.aload_n 0, 1) by decide +kernel) rfl ?_
                            refine Ev_iload_n hq_130 (show decode prog_7_method_14_code 381 = .ok (.iload_n 2, 1) by decide +kernel) rfl ?_
                            refine Ev_if_eq (tgt := 389) hq_130 (show decode prog_7_method_14_code 382 = .ok (.ifCond .eq 7, 3) by decide +kernel) (by decide) (fun hz => absurd hz (by decide)) (fun _ => ?_)
                            refine Ev_iload_n hq_130 (show decode prog_7_method_14_code 385 = .ok (.iload_n 1, 1) by decide +kernel) rfl ?_
                            refine Ev_goto (tgt := 390) hq_130 (show decode prog_7_method_14_code 386 = .ok (.goto 4, 3) by decide +kernel) (by decide) ?_
                            refine Ev_putI hq_130 (show decode prog_7_method_14_code 390 = .ok (.putfield 116, 3) by decide +kernel) rfl (SGn hS (by decide)) (SGk hS rfl) (by decide) (by decide) rfl (fun hz => by cases hz) ?_
                            obtain ⟨I68, eI68⟩ : ∃ I68 : zI, I68 = z_up I43 57 20 y46 := ⟨_, rfl⟩
                            have k := k I68 eI68
                            rw [← eI68]
                            refine Ev_aload_n hq_130 (show decode prog_7_method_14_code 393 = .ok (.aload_n 0, 1) by decide +kernel) rfl ?_
                            refine Ev_dup hq_130 (show decode prog_7_method_14_code 394 = .ok (.dup, 1) by decide +kernel) rfl ?_
                            refine Ev_getI hq_130 (show decode prog_7_method_14_code 395 = .ok (.getfield 110, 3) by decide +kernel) rfl (SGn hS (by decide)) (SGk hS rfl) (by decide) rfl ?_
                            refine Ev_iconst (v := 1) hq_130 (show decode prog_7_method_14_code 398 = .ok (.iconst 1, 1) by decide +kernel) (by decide) ?_
                            refine Ev_iadd hq_130 (show decode prog_7_method_14_code 399 = .ok (.iadd, 1) by decide +kernel) ?_
                            refine Ev_putI hq_130 (show decode prog_7_method_14_code 400 = .ok (.putfield 110, 3) by decide +kernel) rfl (SGn hS (by decide)) (SGk hS rfl) (by decide) (by decide) rfl (fun hz => by cases hz) ?_
                            obtain ⟨I69, eI69⟩ : ∃ I69 : zI, I69 = z_up I68 57 18 ((I68 57 18) + 1) := ⟨_, rfl⟩
                            have k := k I69 eI69
                            rw [← eI69]
                            exact Ev_vret hq_130 (show decode prog_7_method_14_code 403 = .ok (.return_, 1) by decide +kernel) k
                          · have k := k.2 c67
                            refine Ev_iload_n hq_130 (show decode prog_7_method_14_code 368 = .ok (.iload_n 1, 1) by decide +kernel) rfl ?_
                            refine Ev_bipush (v := 61) hq_130 (show decode prog_7_method_14_code 369 = .ok (.bipush 61, 2) by decide +kernel) (by decide) ?_
                            refine Ev_icmp_ne (tgt := 378) hq_130 (show decode prog_7_method_14_code 371 = .ok (.if_icmp .ne 7, 3) by decide +kernel) (by decide) (fun c70 => ?_) (fun c70 => ?_)
                            · have k := k.1 c70
                              refine Ev_iconst (v := 0) hq_130 (show decode prog_7_method_14_code 378 = .ok (.iconst 0, 1) by decide +kernel) (by decide) ?_
                              refine Ev_istore_n (lo2 := [.ref 57, .int y46, .int 0]) hq_130 (show decode prog_7_method_14_code 379 = .ok (.istore_n 2, 1) by decide +kernel) (z_le rfl) rfl ?_
                              refine Ev_aload_n hq_130 (show decode prog_7_method_14_code 380 = .ok (.aload_n 0, 1) by decide +kernel) rfl ?_
                              refine Ev_iload_n hq_130 (show decode prog_7_method_14_code 381 = .ok (.iload_n 2, 1) by decide +kernel) rfl ?_
                              refine Ev_if_eq (tgt := 389) hq_130 (show decode prog_7_method_14_code 382 = .ok (.ifCond .eq 7, 3) by decide +kernel) (by decide) (fun _ => ?_) (fun hz => absurd (by decide) hz)
                              refine Ev_iconst (v := (-1)) hq_130 (show decode prog_7_method_14_code 389 = .ok (.iconst (-1), 1) by decide +kernel) (by decide) ?_
                              refine Ev_putI hq_130 (show decode prog_7_method_14_code 390 = .ok (.putfield 116, 3) by decide +kernel) rfl (SGn hS (by decide)) (SGk hS rfl) (by decide) (by decide) rfl (fun hz => by cases hz) ?_
                              obtain ⟨I71, eI71⟩ : ∃ I71 : zI, I71 = z_up I43 57 20 (-1) := ⟨_, rfl⟩
                              have k := k I71 eI71
                              rw [← eI71]
                              refine Ev_aload_n hq_130 (show decode prog_7_method_14_code 393 = .ok (.aload_n 0, 1) by decide +kernel) rfl ?_
                              refine Ev_dup hq_130 (show decode prog_7_method_14_code 394 = .ok (.dup, 1) by decide +kernel) rfl ?_
                              refine Ev_getI hq_130 (show decode prog_7_method_14_code 395 = .ok (.getfield 110, 3) by decide +kernel) rfl (SGn hS (by decide)) (SGk hS rfl) (by decide) rfl ?_
                              refine Ev_iconst (v := 1) hq_130 (show decode prog_7_method_14_code 398 = .ok (.iconst 1, 1) by decide +kernel) (by decide) ?_
                              refine Ev_iadd hq_130 (show decode prog_7_method_14_code 399 = .ok (.iadd, 1) by decide +kernel) ?_
                              refine Ev_putI hq_130 (show decode prog_7_method_14_code 400 = .ok (.putfield 110, 3) by decide +kernel) rfl (SGn hS (by decide)) (SGk hS rfl) (by decide) (by decide) rfl (fun hz => by cases hz) ?_
                              obtain ⟨I72, eI72⟩ : ∃ I72 : zI, I72 = z_up I71 57 18 ((I71 57 18) + 1) := ⟨_, rfl⟩
                              have k := k I72 eI72
                              rw [← eI72]
                              exact Ev_vret hq_130 (show decode prog_7_method_14_code 403 = .ok (.return_, 1) by decide +kernel) k
                            · have k := k.2 (Classical.not_not.mp c70)
                              refine Ev_iconst (v := 1) hq_130 (show decode prog_7_method_14_code 374 = .ok (.iconst 1, 1) by decide +kernel) (by decide) ?_
                              refine Ev_goto (tgt := 379) hq_130 (show decode prog_7_method_14_code 375 = .ok (.goto 4, 3) by decide +kernel) (by decide) ?_
                              refine Ev_istore_n (lo2 := [.ref 57, .int y46, .int 1]) hq_130 (show decode prog_7_method_14_code 379 = .ok (.istore_n 2, 1) by decide +kernel) (z_le rfl) rfl ?_
                              refine Ev_aload_n hq_130 (show decode prog_7_method_14_code 380 = .ok (.aload_n 0, 1) by decide +kernel) rfl ?_
                              refine Ev_iload_n hq_130 (show decode prog_7_method_14_code 381 = .ok (.iload_n 2, 1) by decide +kernel) rfl ?_
                              refine Ev_if_eq (tgt := 389) hq_130 (show decode prog_7_method_14_code 382 = .ok (.ifCond .eq 7, 3) by decide +kernel) (by decide) (fun hz => absurd hz (by decide)) (fun _ => ?_)
                              refine Ev_iload_n hq_130 (show decode prog_7_method_14_code 385 = .ok (.iload_n 1, 1) by decide +kernel) rfl ?_
                              refine Ev_goto (tgt := 390) hq_130 (show decode prog_7_method_14_code 386 = .ok (.goto 4, 3) by decide +kernel) (by decide) ?_
                              refine Ev_putI hq_130 (show decode prog_7_method_14_code 390 = .ok (.putfield 116, 3) by decide +kernel) rfl (SGn hS (by decide)) (SGk hS rfl) (by decide) (by decide) rfl (fun hz => by cases hz) ?_
                              obtain ⟨I73, eI73⟩ : ∃ I73 : zI, I73 = z_up I43 57 20 y46 := ⟨_, rfl⟩
                              have k := k I73 eI73
                              rw [← eI73]
                              refine Ev_aload_n hq_130 (show decode prog_7_method_14_code 393 = .ok (.aload_n 0, 1) by decide +kernel) rfl ?_
                              refine Ev_dup hq_130 (show decode prog_7_method_14_code 394 = .ok (.dup, 1) by decide +kernel) rfl ?_
                              refine Ev_getI hq_130 (show decode prog_7_method_14_code 395 = .ok (.getfield 110, 3) by decide +kernel) rfl (SGn hS (by decide)) (SGk hS rfl) (by decide) rfl ?_
                              refine Ev_iconst (v := 1) hq_130 (show decode prog_7_method_14_code 398 = .ok (.iconst 1, 1) by decide +kernel) (by decide) ?_
                              refine Ev_iadd hq_130 (show decode prog_7_method_14_code 399 = .ok (.iadd, 1) by decide +kernel) ?_
                              refine Ev_putI hq_130 (show decode prog_7_method_14_code 400 = .ok (.putfield 110, 3) by decide +kernel) rfl (SGn hS (by decide)) (SGk hS rfl) (by decide) (by decide) rfl (fun hz => by cases hz) ?_
                              obtain ⟨I74, eI74⟩ : ∃ I74 : zI, I74 = z_up I73 57 18 ((I73 57 18) + 1) := ⟨_, rfl⟩
                              have k := k I74 eI74
                              rw [← eI74]
                              exact Ev_vret hq_130 (show decode prog_7_method_14_code 403 = .ok (.return_, 1) by decide +kernel) k
            · have k := k.2 c48
              refine Ev_iconst (v := 0) hq_130 (show decode prog_7_method_14_code 228 = .ok (.iconst 0, 1) by decide +kernel) (by decide) ?_
              refine Ev_istore_n (lo2 := [.ref 57, .int y46, .int 0]) hq_130 (show decode prog_7_method_14_code 229 = .ok (.istore_n 2, 1) by decide +kernel) (z_le rfl) rfl ?_
              exact k
          · have k := k.2 c47
            exact k
        · have k := k.2 (Classical.not_not.mp c44)
          exact Ev_vret hq_130 (show decode prog_7_method_14_code 81 = .ok (.return_, 1) by decide +kernel) k
      · have k := k.2 (Classical.not_not.mp c40)
        refine Ev_aload_n hq_130 (show decode prog_7_method_14_code 39 = .ok (.aload_n 0, 1) by decide +kernel) rfl ?_
        refine Ev_dup hq_130 (show decode prog_7_method_14_code 40 = .ok (.dup, 1) by decide +kernel) rfl ?_
        refine Ev_getI hq_130 (show decode prog_7_method_14_code 41 = .ok (.getfield 110, 3) by decide +kernel) rfl (SGn hS (by decide)) (SGk hS rfl) (by decide) rfl ?_
        refine Ev_iconst (v := 1) hq_130 (show decode prog_7_method_14_code 44 = .ok (.iconst 1, 1) by decide +kernel) (by decide) ?_
        refine Ev_iadd hq_130 (show decode prog_7_method_14_code 45 = .ok (.iadd, 1) by decide +kernel) ?_
        refine Ev_putI hq_130 (show decode prog_7_method_14_code 46 = .ok (.putfield 110, 3) by decide +kernel) rfl (SGn hS (by decide)) (SGk hS rfl) (by decide) (by decide) rfl (fun hz => by cases hz) ?_
        obtain ⟨I75, eI75⟩ : ∃ I75 : zI, I75 = z_up I 57 18 ((I 57 18) + 1) := ⟨_, rfl⟩
        have k := k I75 eI75
        rw [← eI75]
        refine Ev_goto (tgt := 0) hq_130 (show decode prog_7_method_14_code 49 = .ok (.goto (-49), 3) by decide +kernel) (by decide) ?_
        exact k
set_option maxRecDepth 20000 in
theorem wp_Z_next_103 {X : Nat × (Nat → Int32)} {d : Nat} {G : zG} {I : zI} {res : Option Value × zG × zI} (x1 : Int32) (hS : SG G) 
    (k : ((I 57 5) ≤ (I 57 18) → ∃ (r4 : Int32) (I2 : zI), Cv X d 132 [.ref 57, .int (I 57 19), .int (I 57 18)] G I (some (.int r4), G, I2) ∧ ((3 ≤ r4 → (9 ≤ r4 → (¬ r4 = 12 → (∀ I8 : zI, I8 = z_up I2 57 20 ((4 + r4) - 9) → (3 ≤ r4 → (∀ I10 : zI, I10 = z_up I8 57 21 (r4 - 3) → res = (none, G, I10))) ∧ (¬ 3 ≤ r4 → (∀ I11 : zI, I11 = z_up I8 57 21 r4 → res = (none, G, I11))))) ∧ (r4 = 12 → (∀ I12 : zI, I12 = z_up I2 57 20 (-1) → (3 ≤ r4 → (∀ I14 : zI, I14 = z_up I12 57 21 (r4 - 3) → res = (none, G, I14))) ∧ (¬ 3 ≤ r4 → (∀ I15 : zI, I15 = z_up I12 57 21 r4 → res = (none, G, I15)))))) ∧ (¬ 9 ≤ r4 → (∀ I16 : zI, I16 = z_up I2 57 20 2 → (3 ≤ r4 → (∀ I18 : zI, I18 = z_up I16 57 21 (r4 - 3) → res = (none, G, I18))) ∧ (¬ 3 ≤ r4 → (∀ I19 : zI, I19 = z_up I16 57 21 r4 → res = (none, G, I19)))))) ∧ (¬ 3 ≤ r4 → (∀ I20 : zI, I20 = z_up I2 57 20 3 → (3 ≤ r4 → (∀ I22 : zI, I22 = z_up I20 57 21 (r4 - 3) → res = (none, G, I22))) ∧ (¬ 3 ≤ r4 → (∀ I23 : zI, I23 = z_up I20 57 21 r4 → res = (none, G, I23))))))) ∧ (¬ (I 57 5) ≤ (I 57 18) → z_inr (I 57 18) 160 ∧ (((f_Z_in (I 61 (I 57 18).toNatClampNeg) 97 122) = 0 → ∃ (r28 : Int32) (I26 : zI), Cv X d 132 [.ref 57, .int (I 57 19), .int (I 57 18)] G I (some (.int r28), G, I26) ∧ ((3 ≤ r28 → (9 ≤ r28 → (¬ r28 = 12 → (∀ I32 : zI, I32 = z_up I26 57 20 ((4 + r28) - 9) → (3 ≤ r28 → (∀ I34 : zI, I34 = z_up I32 57 21 (r28 - 3) → res = (none, G, I34))) ∧ (¬ 3 ≤ r28 → (∀ I35 : zI, I35 = z_up I32 57 21 r28 → res = (none, G, I35))))) ∧ (r28 = 12 → (∀ I36 : zI, I36 = z_up I26 57 20 (-1) → (3 ≤ r28 → (∀ I38 : zI, I38 = z_up I36 57 21 (r28 - 3) → res = (none, G, I38))) ∧ (¬ 3 ≤ r28 → (∀ I39 : zI, I39 = z_up I36 57 21 r28 → res = (none, G, I39)))))) ∧ (¬ 9 ≤ r28 → (∀ I40 : zI, I40 = z_up I26 57 20 2 → (3 ≤ r28 → (∀ I42 : zI, I42 = z_up I40 57 21 (r28 - 3) → res = (none, G, I42))) ∧ (¬ 3 ≤ r28 → (∀ I43 : zI, I43 = z_up I40 57 21 r28 → res = (none, G, I43)))))) ∧ (¬ 3 ≤ r28 → (∀ I44 : zI, I44 = z_up I26 57 20 3 → (3 ≤ r28 → (∀ I46 : zI, I46 = z_up I44 57 21 (r28 - 3) → res = (none, G, I46))) ∧ (¬ 3 ≤ r28 → (∀ I47 : zI, I47 = z_up I44 57 21 r28 → res = (none, G, I47))))))) ∧ (¬ (f_Z_in (I 61 (I 57 18).toNatClampNeg) 97 122) = 0 → (∀ I48 : zI, I48 = z_up I 57 18 ((I 57 18) + 1) → Ev X (d + 1) 130 103 [.ref 57, .int x1, zU] [] G I48 res))))) :
    Ev X (d + 1) 130 103 [.ref 57, .int x1, zU] [] G I res := by
  refine Ev_aload_n hq_130 (show decode prog_7_method_14_code 103 = .ok (.aload_n 0, 1) by decide +kernel) rfl ?_
  refine Ev_getI hq_130 (show decode prog_7_method_14_code 104 = .ok (.getfield 110, 3) by decide +kernel) rfl (SGn hS (by decide)) (SGk hS rfl) (by decide) rfl ?_
  refine Ev_aload_n hq_130 (show decode prog_7_method_14_code 107 = .ok (.aload_n 0, 1) by decide +kernel) rfl ?_
  refine Ev_getI hq_130 (show decode prog_7_method_14_code 108 = .ok (.getfield 80, 3) by decide +kernel) rfl (SGn hS (by decide)) (SGk hS rfl) (by decide) rfl ?_
  refine Ev_icmp_ge (tgt := 146) hq_130 (show decode prog_7_method_14_code 111 = .ok (.if_icmp .ge 35, 3) by decide +kernel) (by decide) (fun c1 => ?_) (fun c1 => ?_)
  · have k := k.1 c1
    refine Ev_aload_n hq_130 (show decode prog_7_method_14_code 146 = .ok (.aload_n 0, 1) by decide +kernel) rfl ?_
    refine Ev_aload_n hq_130 (show decode prog_7_method_14_code 147 = .ok (.aload_n 0, 1) by decide +kernel) rfl ?_
    refine Ev_getI hq_130 (show decode prog_7_method_14_code 148 = .ok (.getfield 113, 3) by decide +kernel) rfl (SGn hS (by decide)) (SGk hS rfl) (by decide) rfl ?_
    refine Ev_aload_n hq_130 (show decode prog_7_method_14_code 151 = .ok (.aload_n 0, 1) by decide +kernel) rfl ?_
    refine Ev_getI hq_130 (show decode prog_7_method_14_code 152 = .ok (.getfield 110, 3) by decide +kernel) rfl (SGn hS (by decide)) (SGk hS rfl) (by decide) rfl ?_
    obtain ⟨r4, I2, h3, k⟩ := k
    refine Ev_virt (as := [.int (I 57 19), .int (I 57 18)]) hq_130 (show decode prog_7_method_14_code 155 = .ok (.invokevirtual 122, 3) by decide +kernel) rfl hq_132 rfl (z_le rfl) ⟨(SGn hS (by decide)), (SGk hS rfl), by decide⟩ h3 ?_
    refine Ev_istore_n (lo2 := [.ref 57, .int x1, .int r4]) hq_130 (show decode prog_7_method_14_code 158 = .ok (.istore_n 2, 1) by decide +kernel) (z_le rfl) rfl ?_
    refine Ev_aload_n hq_130 (show decode prog_7_method_14_code 159 = .ok (.aload_n 0, 1) by decide +kernel) rfl ?_
    refine Ev_iload_n hq_130 (show decode prog_7_method_14_code 160 = .ok (.iload_n 2, 1) by decide +kernel) rfl ?_
    refine Ev_iconst (v := 3) hq_130 (show decode prog_7_method_14_code 161 = .ok (.iconst 3, 1) by decide +kernel) (by decide) ?_
    refine Ev_icmp_ge (tgt := 169) hq_130 (show decode prog_7_method_14_code 162 = .ok (.if_icmp .ge 7, 3) by decide +kernel) (by decide) (fun c5 => ?_) (fun c5 => ?_)
    · have k := k.1 c5
      refine Ev_iload_n hq_130 (show decode prog_7_method_14_code 169 = .ok (.iload_n 2, 1) by decide +kernel) rfl ?_
      refine Ev_bipush (v := 9) hq_130 (show decode prog_7_method_14_code 170 = .ok (.bipush 9, 2) by decide +kernel) (by decide) ?_
      refine Ev_icmp_ge (tgt := 179) hq_130 (show decode prog_7_method_14_code 172 = .ok (.if_icmp .ge 7, 3) by decide +kernel) (by decide) (fun c6 => ?_) (fun c6 => ?_)
      · have k := k.1 c6
        refine Ev_iload_n hq_130 (show decode prog_7_method_14_code 179 = .ok (.iload_n 2, 1) by decide +kernel) rfl ?_
        refine Ev_bipush (v := 12) hq_130 (show decode prog_7_method_14_code 180 = .ok (.bipush 12, 2) by decide +kernel) (by decide) ?_
        refine Ev_icmp_ne (tgt := 189) hq_130 (show decode prog_7_method_14_code 182 = .ok (.if_icmp .ne 7, 3) by decide +kernel) (by decide) (fun c7 => ?_) (fun c7 => ?_)
        · have k := k.1 c7
          refine Ev_iconst (v := 4) hq_130 (show decode prog_7_method_14_code 189 = .ok (.iconst 4, 1) by decide +kernel) (by decide) ?_
          refine Ev_iload_n hq_130 (show decode prog_7_method_14_code 190 = .ok (.iload_n 2, 1) by decide +kernel) rfl ?_
          refine Ev_iadd hq_130 (show decode prog_7_method_14_code 191 = .ok (.iadd, 1) by decide +kernel) ?_
          refine Ev_bipush (v := 9) hq_130 (show decode prog_7_method_14_code 192 = .ok (.bipush 9, 2) by decide +kernel) (by decide) ?_
          refine Ev_isub hq_130 (show decode prog_7_method_14_code 194 = .ok (.isub, 1) by decide +kernel) ?_
          refine Ev_putI hq_130 (show decode prog_7_method_14_code 195 = .ok (.putfield 116, 3) by decide +kernel) rfl (SGn hS (by decide)) (SGk hS rfl) (by decide) (by decide) rfl (fun hz => by cases hz) ?_
          obtain ⟨I8, eI8⟩ : ∃ I8 : zI, I8 = z_up I2 57 20 ((4 + r4) - 9) := ⟨_, rfl⟩
          have k := k I8 eI8
          rw [← eI8]
          refine Ev_aload_n hq_130 (show decode prog_7_method_14_code 198 = .ok (.aload_n 0, 1) by decide +kernel) rfl ?_
          refine Ev_iload_n hq_130 (show decode prog_7_method_14_code 199 = .ok (.iload_n 2, 1) by decide +kernel) rfl ?_
          refine Ev_iconst (v := 3) hq_130 (show decode prog_7_method_14_code 200 = .ok (.iconst 3, 1) by decide +kernel) (by decide) ?_
          refine Ev_icmp_ge (tgt := 208) hq_130 (show decode prog_7_method_14_code 201 = .ok (.if_icmp .ge 7, 3) by decide +kernel) (by decide) (fun c9 => ?_) (fun c9 => ?_)
          · have k := k.1 c9
            refine Ev_iload_n hq_130 (show decode prog_7_method_14_code 208 = .ok (.iload_n 2, 1) by decide +kernel) rfl ?_
            refine Ev_iconst (v := 3) hq_130 (show decode prog_7_method_14_code 209 = .ok (.iconst 3, 1) by decide +kernel) (by decide) ?_
            refine Ev_isub hq_130 (show decode prog_7_method_14_code 210 = .ok (.isub, 1) by decide +kernel) ?_
            refine Ev_putI hq_130 (show decode prog_7_method_14_code 211 = .ok (.putfield 119, 3) by decide +kernel) rfl (SGn hS (by decide)) (SGk hS rfl) (by decide) (by decide) rfl (fun hz => by cases hz) ?_
            obtain ⟨I10, eI10⟩ : ∃ I10 : zI, I10 = z_up I8 57 21 (r4 - 3) := ⟨_, rfl⟩
            have k := k I10 eI10
            rw [← eI10]
            refine Ev_goto (tgt := 403) hq_130 (show decode prog_7_method_14_code 214 = .ok (.goto 189, 3) by decide +kernel) (by decide) ?_
            exact Ev_vret hq_130 (show decode prog_7_method_14_code 403 = .ok (.return_, 1) by decide +kernel) k
          · have k := k.2 c9
            refine Ev_iload_n hq_130 (show decode prog_7_method_14_code 204 = .ok (.iload_n 2, 1) by decide +kernel) rfl ?_
            refine Ev_goto (tgt := 211) hq_130 (show decode prog_7_method_14_code 205 = .ok (.goto 6, 3) by decide +kernel) (by decide) ?_
            refine Ev_putI hq_130 (show decode prog_7_method_14_code 211 = .ok (.putfield 119, 3) by decide +kernel) rfl (SGn hS (by decide)) (SGk hS rfl) (by decide) (by decide) rfl (fun hz => by cases hz) ?_
            obtain ⟨I11, eI11⟩ : ∃ I11 : zI, I11 = z_up I8 57 21 r4 := ⟨_, rfl⟩
            have k := k I11 eI11
            rw [← eI11]
            refine Ev_goto (tgt := 403) hq_130 (show decode prog_7_method_14_code 214 = .ok (.goto 189, 3) by decide +kernel) (by decide) ?_
            exact Ev_vret hq_130 (show decode prog_7_method_14_code 403 = .ok (.return_, 1) by decide +kernel) k
        · have k := k.2 (Classical.not_not.mp c7)
          refine Ev_iconst (v := (-1)) hq_130 (show decode prog_7_method_14_code 185 = .ok (.iconst (-1), 1) by decide +kernel) (by decide) ?_
          refine Ev_goto (tgt := 195) hq_130 (show decode prog_7_method_14_code 186 = .ok (.goto 9, 3) by decide +kernel) (by decide) ?_
          refine Ev_putI hq_130 (show decode prog_7_method_14_code 195 = .ok (.putfield 116, 3) by decide +kernel) rfl (SGn hS (by decide)) (SGk hS rfl) (by decide) (by decide) rfl (fun hz => by cases hz) ?_
          obtain ⟨I12, eI12⟩ : ∃ I12 : zI, I12 = z_up I2 57 20 (-1) := ⟨_, rfl⟩
          have k := k I12 eI12
          rw [← eI12]
          refine Ev_aload_n hq_130 (show decode prog_7_method_14_code 198 = .ok (.aload_n 0, 1) by decide +kernel) rfl ?_
          refine Ev_iload_n hq_130 (show decode prog_7_method_14_code 199 = .ok (.iload_n 2, 1) by decide +kernel) rfl ?_
          refine Ev_iconst (v := 3) hq_130 (show decode prog_7_method_14_code 200 = .ok (.iconst 3, 1) by decide +kernel) (by decide) ?_
          refine Ev_icmp_ge (tgt := 208) hq_130 (show decode prog_7_method_14_code 201 = .ok (.if_icmp .ge 7, 3) by decide +kernel) (by decide) (fun c13 => ?_) (fun c13 => ?_)
          · have k := k.1 c13
            refine Ev_iload_n hq_130 (show decode prog_7_method_14_code 208 = .ok (.iload_n 2, 1) by decide +kernel) rfl ?_
            refine Ev_iconst (v := 3) hq_130 (show decode prog_7_method_14_code 209 = .ok (.iconst 3, 1) by decide +kernel) (by decide) ?_
            refine Ev_isub hq_130 (show decode prog_7_method_14_code 210 = .ok (.isub, 1) by decide +kernel) ?_
            refine Ev_putI hq_130 (show decode prog_7_method_14_code 211 = .ok (.putfield 119, 3) by decide +kernel) rfl (SGn hS (by decide)) (SGk hS rfl) (by decide) (by decide) rfl (fun hz => by cases hz) ?_
            obtain ⟨I14, eI14⟩ : ∃ I14 : zI, I14 = z_up I12 57 21 (r4 - 3) := ⟨_, rfl⟩
            have k := k I14 eI14
            rw [← eI14]
            refine Ev_goto (tgt := 403) hq_130 (show decode prog_7_method_14_code 214 = .ok (.goto 189, 3) by decide +kernel) (by decide) ?_
            exact Ev_vret hq_130 (show decode prog_7_method_14_code 403 = .ok (.return_, 1) by decide +kernel) k
          · have k := k.2 c13
            refine Ev_iload_n hq_130 (show decode prog_7_method_14_code 204 = .ok (.iload_n 2, 1) by decide +kernel) rfl ?_
            refine Ev_goto (tgt := 211) hq_130 (show decode prog_7_method_14_code 205 = .ok (.goto 6, 3) by decide +kernel) (by decide) ?_
            refine Ev_putI hq_130 (show decode prog_7_method_14_code 211 = .ok (.putfield 119, 3) by decide +kernel) rfl (SGn hS (by decide)) (SGk hS rfl) (by decide) (by decide) rfl (fun hz => by cases hz) ?_
            obtain ⟨I15, eI15⟩ : ∃ I15 : zI, I15 = z_up I12 57 21 r4 := ⟨_, rfl⟩
            have k := k I15 eI15
            rw [← eI15]
            refine Ev_goto (tgt := 403) hq_130 (show decode prog_7_method_14_code 214 = .ok (.goto 189, 3) by decide +kernel) (by decide) ?_
            exact Ev_vret hq_130 (show decode prog_7_method_14_code 403 = .ok (.return_, 1) by decide +kernel) k
      · have k := k.2 c6
        refine Ev_iconst (v := 2) hq_130 (show decode prog_7_method_14_code 175 = .ok (.iconst 2, 1) by decide +kernel) (by decide) ?_
        refine Ev_goto (tgt := 195) hq_130 (show decode prog_7_method_14_code 176 = .ok (.goto 19, 3) by decide +kernel) (by decide) ?_
        refine Ev_putI hq_130 (show decode prog_7_method_14_code 195 = .ok (.putfield 116, 3) by decide +kernel) rfl (SGn hS (by decide)) (SGk hS rfl) (by decide) (by decide) rfl (fun hz => by cases hz) ?_
        obtain ⟨I16, eI16⟩ : ∃ I16 : zI, I16 = z_up I2 57 20 2 := ⟨_, rfl⟩
        have k := k I16 eI16
        rw [← eI16]
        refine Ev_aload_n hq_130 (show decode prog_7_method_14_code 198 = .ok (.aload_n 0, 1) by decide +kernel) rfl ?_
        refine Ev_iload_n hq_130 (show decode prog_7_method_14_code 199 = .ok (.iload_n 2, 1) by decide +kernel) rfl ?_
        refine Ev_iconst (v := 3) hq_130 (show decode prog_7_method_14_code 200 = .ok (.iconst 3, 1) by decide +kernel) (by decide) ?_
        refine Ev_icmp_ge (tgt := 208) hq_130 (show decode prog_7_method_14_code 201 = .ok (.if_icmp .ge 7, 3) by decide +kernel) (by decide) (fun c17 => ?_) (fun c17 => ?_)
        · have k := k.1 c17
          refine Ev_iload_n hq_130 (show decode prog_7_method_14_code 208 = .ok (.iload_n 2, 1) by decide +kernel) rfl ?_
          refine Ev_iconst (v := 3) hq_130 (show decode prog_7_method_14_code 209 = .ok (.iconst 3, 1) by decide +kernel) (by decide) ?_
          refine Ev_isub hq_130 (show decode prog_7_method_14_code 210 = .ok (.isub, 1) by decide +kernel) ?_
          refine Ev_putI hq_130 (show decode prog_7_method_14_code 211 = .ok (.putfield 119, 3) by decide +kernel) rfl (SGn hS (by decide)) (SGk hS rfl) (by decide) (by decide) rfl (fun hz => by cases hz) ?_
          obtain ⟨I18, eI18⟩ : ∃ I18 : zI, I18 = z_up I16 57 21 (r4 - 3) := ⟨_, rfl⟩
          have k := k I18 eI18
          rw [← eI18]
          refine Ev_goto (tgt := 403) hq_130 (show decode prog_7_method_14_code 214 = .ok (.goto 189, 3) by decide +kernel) (by decide) ?_
          exact Ev_vret hq_130 (show decode prog_7_method_14_code 403 = .ok (.return_, 1) by decide +kernel) k
        · have k := k.2 c17
          refine Ev_iload_n hq_130 (show decode prog_7_method_14_code 204 = .ok (.iload_n 2, 1) by decide +kernel) rfl ?_
          refine Ev_goto (tgt := 211) hq_130 (show decode prog_7_method_14_code 205 = .ok (.goto 6, 3) by decide +kernel) (by decide) ?_
          refine Ev_putI hq_130 (show decode prog_7_method_14_code 211 = .ok (.putfield 119, 3) by decide +kernel) rfl (SGn hS (by decide)) (SGk hS rfl) (by decide) (by decide) rfl (fun hz => by cases hz) ?_
          obtain ⟨I19, eI19⟩ : ∃ I19 : zI, I19 = z_up I16 57 21 r4 := ⟨_, rfl⟩
          have k := k I19 eI19
          rw [← eI19]
          refine Ev_goto (tgt := 403) hq_130 (show decode prog_7_method_14_code 214 = .ok (.goto 189, 3) by decide +kernel) (by decide) ?_
          exact Ev_vret hq_130 (show decode prog_7_method_14_code 403 = .ok (.return_, 1) by decide +kernel) k
    · have k := k.2 c5
      refine Ev_iconst (v := 3) hq_130 (show decode prog_7_method_14_code 165 = .ok (.iconst 3, 1) by decide +kernel) (by decide) ?_
      refine Ev_goto (tgt := 195) hq_130 (show decode prog_7_method_14_code 166 = .ok (.goto 29, 3) by decide +kernel) (by decide) ?_
      refine Ev_putI hq_130 (show decode prog_7_method_14_code 195 = .ok (.putfield 116, 3) by decide +kernel) rfl (SGn hS (by decide)) (SGk hS rfl) (by decide) (by decide) rfl (fun hz => by cases hz) ?_
      obtain ⟨I20, eI20⟩ : ∃ I20 : zI, I20 = z_up I2 57 20 3 := ⟨_, rfl⟩
      have k := k I20 eI20
      rw [← eI20]
      refine Ev_aload_n hq_130 (show decode prog_7_method_14_code 198 = .ok (.aload_n 0, 1) by decide +kernel) rfl ?_
      refine Ev_iload_n hq_130 (show decode prog_7_method_14_code 199 = .ok (.iload_n 2, 1) by decide +kernel) rfl ?_
      refine Ev_iconst (v := 3) hq_130 (show decode prog_7_method_14_code 200 = .ok (.iconst 3, 1) by decide +kernel) (by decide) ?_
      refine Ev_icmp_ge (tgt := 208) hq_130 (show decode prog_7_method_14_code 201 = .ok (.if_icmp .ge 7, 3) by decide +kernel) (by decide) (fun c21 => ?_) (fun c21 => ?_)
      · have k := k.1 c21
        refine Ev_iload_n hq_130 (show decode prog_7_method_14_code 208 = .ok (.iload_n 2, 1) by decide +kernel) rfl ?_
        refine Ev_iconst (v := 3) hq_130 (show decode prog_7_method_14_code 209 = .ok (.iconst 3, 1) by decide +kernel) (by decide) ?_
        refine Ev_isub hq_130 (show decode prog_7_method_14_code 210 = .ok (.isub, 1) by decide +kernel) ?_
        refine Ev_putI hq_130 (show decode prog_7_method_14_code 211 = .ok (.putfield 119, 3) by decide +kernel) rfl (SGn hS (by decide)) (SGk hS rfl) (by decide) (by decide) rfl (fun hz => by cases hz) ?_
        obtain ⟨I22, eI22⟩ : ∃ I22 : zI, I22 = z_up I20 57 21 (r4 - 3) := ⟨_, rfl⟩
        have k := k I22 eI22
        rw [← eI22]
        refine Ev_goto (tgt := 403) hq_130 (show decode prog_7_method_14_code 214 = .ok (.goto 189, 3) by decide +kernel) (by decide) ?_
        exact Ev_vret hq_130 (show decode prog_7_method_14_code 403 = .ok (.return_, 1) by decide +kernel) k
      · have k := k.2 c21
        refine Ev_iload_n hq_130 (show decode prog_7_method_14_code 204 = .ok (.iload_n 2, 1) by decide +kernel) rfl ?_
        refine Ev_goto (tgt := 211) hq_130 (show decode prog_7_method_14_code 205 = .ok (.goto 6, 3) by decide +kernel) (by decide) ?_
        refine Ev_putI hq_130 (show decode prog_7_method_14_code 211 = .ok (.putfield 119, 3) by decide +kernel) rfl (SGn hS (by decide)) (SGk hS rfl) (by decide) (by decide) rfl (fun hz => by cases hz) ?_
        obtain ⟨I23, eI23⟩ : ∃ I23 : zI, I23 = z_up I20 57 21 r4 := ⟨_, rfl⟩
        have k := k I23 eI23
        rw [← eI23]
        refine Ev_goto (tgt := 403) hq_130 (show decode prog_7_method_14_code 214 = .ok (.goto 189, 3) by decide +kernel) (by decide) ?_
        exact Ev_vret hq_130 (show decode prog_7_method_14_code 403 = .ok (.return_, 1) by decide +kernel) k
  · have k := k.2 c1
    refine Ev_aload_n hq_130 (show decode prog_7_method_14_code 114 = .ok (.aload_n 0, 1) by decide +kernel) rfl ?_
    refine Ev_getR hq_130 (show decode prog_7_method_14_code 115 = .ok (.getfield 19, 3) by decide +kernel) rfl (SGn hS (by decide)) (SGk hS rfl) (by decide) rfl (SGr hS rfl) ?_
    refine Ev_aload_n hq_130 (show decode prog_7_method_14_code 118 = .ok (.aload_n 0, 1) by decide +kernel) rfl ?_
    refine Ev_getI hq_130 (show decode prog_7_method_14_code 119 = .ok (.getfield 110, 3) by decide +kernel) rfl (SGn hS (by decide)) (SGk hS rfl) (by decide) rfl ?_
    obtain ⟨h24, k⟩ := k
    refine Ev_iald hq_130 (show decode prog_7_method_14_code 122 = .ok (.iaload, 1) by decide +kernel) (SGn hS (by decide)) (SGk hS rfl) (SGi hS rfl h24) ?_
    refine Ev_bipush (v := 97) hq_130 (show decode prog_7_method_14_code 123 = .ok (.bipush 97, 2) by decide +kernel) (by decide) ?_
    refine Ev_bipush (v := 122) hq_130 (show decode prog_7_method_14_code 125 = .ok (.bipush 122, 2) by decide +kernel) (by decide) ?_
    refine Ev_stat (as := [.int (I 61 (I 57 18).toNatClampNeg), .int 97, .int 122]) hq_130 (show decode prog_7_method_14_code 127 = .ok (.invokestatic 90, 3) by decide +kernel) rfl (Or.inl rfl) hq_131 rfl (z_le rfl) (c_Z_in (I 61 (I 57 18).toNatClampNeg) 97 122) ?_
    refine Ev_if_eq (tgt := 146) hq_130 (show decode prog_7_method_14_code 130 = .ok (.ifCond .eq 16, 3) by decide +kernel) (by decide) (fun c25 => ?_) (fun c25 => ?_)
    · have k := k.1 c25
      refine Ev_aload_n hq_130 (show decode prog_7_method_14_code 146 = .ok (.aload_n 0, 1) by decide +kernel) rfl ?_
      refine Ev_aload_n hq_130 (show decode prog_7_method_14_code 147 = .ok (.aload_n 0, 1) by decide +kernel) rfl ?_
      refine Ev_getI hq_130 (show decode prog_7_method_14_code 148 = .ok (.getfield 113, 3) by decide +kernel) rfl (SGn hS (by decide)) (SGk hS rfl) (by decide) rfl ?_
      refine Ev_aload_n hq_130 (show decode prog_7_method_14_code 151 = .ok (.aload_n 0, 1) by decide +kernel) rfl ?_
      refine Ev_getI hq_130 (show decode prog_7_method_14_code 152 = .ok (.getfield 110, 3) by decide +kernel) rfl (SGn hS (by decide)) (SGk hS rfl) (by decide) rfl ?_
      obtain ⟨r28, I26, h27, k⟩ := k
      refine Ev_virt (as := [.int (I 57 19), .int (I 57 18)]) hq_130 (show decode prog_7_method_14_code 155 = .ok (.invokevirtual 122, 3) by decide +kernel) rfl hq_132 rfl (z_le rfl) ⟨(SGn hS (by decide)), (SGk hS rfl), by decide⟩ h27 ?_
      refine Ev_istore_n (lo2 := [.ref 57, .int x1, .int r28]) hq_130 (show decode prog_7_method_14_code 158 = .ok (.istore_n 2, 1) by decide +kernel) (z_le rfl) rfl ?_
      refine Ev_aload_n hq_130 (show decode prog_7_method_14_code 159 = .ok (.aload_n 0, 1) by decide +kernel) rfl ?_
      refine Ev_iload_n hq_130 (show decode prog_7_method_14_code 160 = .ok (.iload_n 2, 1) by decide +kernel) rfl ?_
      refine Ev_iconst (v := 3) hq_130 (show decode prog_7_method_14_code 161 = .ok (.iconst 3, 1) by decide +kernel) (by decide) ?_
      refine Ev_icmp_ge (tgt := 169) hq_130 (show decode prog_7_method_14_code 162 = .ok (.if_icmp .ge 7, 3) by decide +kernel) (by decide) (fun c29 => ?_) (fun c29 => ?_)
      · have k := k.1 c29
        refine Ev_iload_n hq_130 (show decode prog_7_method_14_code 169 = .ok (.iload_n 2, 1) by decide +kernel) rfl ?_
        refine Ev_bipush (v := 9) hq_130 (show decode prog_7_method_14_code 170 = .ok (.bipush 9, 2) by decide +kernel) (by decide) ?_
        refine Ev_icmp_ge (tgt := 179) hq_130 (show decode prog_7_method_14_code 172 = .ok (.if_icmp .ge 7, 3) by decide +kernel) (by decide) (fun c30 => ?_) (fun c30 => ?_)
        · have k := k.1 c30
          refine Ev_iload_n hq_130 (show decode prog_7_method_14_code 179 = .ok (.iload_n 2, 1) by decide +kernel) rfl ?_
          refine Ev_bipush (v := 12) hq_130 (show decode prog_7_method_14_code 180 = .ok (.bipush 12, 2) by decide +kernel) (by decide) ?_
          refine Ev_icmp_ne (tgt := 189) hq_130 (show decode prog_7_method_14_code 182 = .ok (.if_icmp .ne 7, 3) by decide +kernel) (by decide) (fun c31 => ?_) (fun c31 => ?_)
          · have k := k.1 c31
            refine Ev_iconst (v := 4) hq_130 (show decode prog_7_method_14_code 189 = .ok (.iconst 4, 1) by decide +kernel) (by decide) ?_
            refine Ev_iload_n hq_130 (show decode prog_7_method_14_code 190 = .ok (.iload_n 2, 1) by decide +kernel) rfl ?_
            refine Ev_iadd hq_130 (show decode prog_7_method_14_code 191 = .ok (.iadd, 1) by decide +kernel) ?_
            refine Ev_bipush (v := 9) hq_130 (show decode prog_7_method_14_code 192 = .ok (.bipush 9, 2) by decide +kernel) (by decide) ?_
            refine Ev_isub hq_130 (show decode prog_7_method_14_code 194 = .ok (.isub, 1) by decide +kernel) ?_
            refine Ev_putI hq_130 (show decode prog_7_method_14_code 195 = .ok (.putfield 116, 3) by decide +kernel) rfl (SGn hS (by decide)) (SGk hS rfl) (by decide) (by decide) rfl (fun hz => by cases hz) ?_
            obtain ⟨I32, eI32⟩ : ∃ I32 : zI, I32 = z_up I26 57 20 ((4 + r28) - 9) := ⟨_, rfl⟩
            have k := k I32 eI32
            rw [← eI32]
            refine Ev_aload_n hq_130 (show decode prog_7_method_14_code 198 = .ok (.aload_n 0, 1) by decide +kernel) rfl ?_
            refine Ev_iload_n hq_130 (show decode prog_7_method_14_code 199 = .ok (.iload_n 2, 1) by decide +kernel) rfl ?_
            refine Ev_iconst (v := 3) hq_130 (show decode prog_7_method_14_code 200 = .ok (.iconst 3, 1) by decide +kernel) (by decide) ?_
            refine Ev_icmp_ge (tgt := 208) hq_130 (show decode prog_7_method_14_code 201 = .ok (.if_icmp .ge 7, 3) by decide +kernel) (by decide) (fun c33 => ?_) (fun c33 => ?_)
            · have k := k.1 c33
              refine Ev_iload_n hq_130 (show decode prog_7_method_14_code 208 = .ok (.iload_n 2, 1) by decide +kernel) rfl ?_
              refine Ev_iconst (v := 3) hq_130 (show decode prog_7_method_14_code 209 = .ok (.iconst 3, 1) by decide +kernel) (by decide) ?_
              refine Ev_isub hq_130 (show decode prog_7_method_14_code 210 = .ok (.isub, 1) by decide +kernel) ?_
              refine Ev_putI hq_130 (show decode prog_7_method_14_code 211 = .ok (.putfield 119, 3) by decide +kernel) rfl (SGn hS (by decide)) (SGk hS rfl) (by decide) (by decide) rfl (fun hz => by cases hz) ?_
              obtain ⟨I34, eI34⟩ : ∃ I34 : zI, I34 = z_up I32 57 21 (r28 - 3) := ⟨_, rfl⟩
              have k := k I34 eI34
              rw [← eI34]
              refine Ev_goto (tgt := 403) hq_130 (show decode prog_7_method_14_code 214 = .ok (.goto 189, 3) by decide +kernel) (by decide) ?_
              exact Ev_vret hq_130 (show decode prog_7_method_14_code 403 = .ok (.return_, 1) by decide +kernel) k
            · have k := k.2 c33
              refine Ev_iload_n hq_130 (show decode prog_7_method_14_code 204 = .ok (.iload_n 2, 1) by decide +kernel) rfl ?_
              refine Ev_goto (tgt := 211) hq_130 (show decode prog_7_method_14_code 205 = .ok (.goto 6, 3) by decide +kernel) (by decide) ?_
              refine Ev_putI hq_130 (show decode prog_7_method_14_code 211 = .ok (.putfield 119, 3) by decide +kernel) rfl (SGn hS (by decide)) (SGk hS rfl) (by decide) (by decide) rfl (fun hz => by cases hz) ?_
              obtain ⟨I35, eI35⟩ : ∃ I35 : zI, I35 = z_up I32 57 21 r28 := ⟨_, rfl⟩
              have k := k I35 eI35
              rw [← eI35]
              refine Ev_goto (tgt := 403) hq_130 (show decode prog_7_method_14_code 214 = .ok (.goto 189, 3) by decide +kernel) (by decide) ?_
              exact Ev_vret hq_130 (show decode prog_7_method_14_code 403 = .ok (.return_, 1) by decide +kernel) k
          · have k := k.2 (Classical.not_not.mp c31)
            refine Ev_iconst (v := (-1)) hq_130 (show decode prog_7_method_14_code 185 = .ok (.iconst (-1), 1) by decide +kernel) (by decide) ?_
            refine Ev_goto (tgt := 195) hq_130 (show decode prog_7_method_14_code 186 = .ok (.goto 9, 3) by decide +kernel) (by decide) ?_
            refine Ev_putI hq_130 (show decode prog_7_method_14_code 195 = .ok (.putfield 116, 3) by decide +kernel) rfl (SGn hS (by decide)) (SGk hS rfl) (by decide) (by decide) rfl (fun hz => by cases hz) ?_
            obtain ⟨I36, eI36⟩ : ∃ I36 : zI, I36 = z_up I26 57 20 (-1) := ⟨_, rfl⟩
            have k := k I36 eI36
            rw [← eI36]
            refine Ev_aload_n hq_130 (show decode prog_7_method_14_code 198 = .ok (.aload_n 0, 1) by decide +kernel) rfl ?_
            refine Ev_iload_n hq_130 (show decode prog_7_method_14_code 199 = .ok (.iload_n 2, 1) by decide +kernel) rfl ?_
            refine Ev_iconst (v := 3) hq_130 (show decode prog_7_method_14_code 200 = .ok (.iconst 3, 1) by decide +kernel) (by decide) ?_
            refine Ev_icmp_ge (tgt := 208) hq_130 (show decode prog_7_method_14_code 201 = .ok (.if_icmp .ge 7, 3) by decide +kernel) (by decide) (fun c37 => ?_) (fun c37 => ?_)
            · have k := k.1 c37
              refine Ev_iload_n hq_130 (show decode prog_7_method_14_code 208 = .ok (.iload_n 2, 1) by decide +kernel) rfl ?_
              refine Ev_iconst (v := 3) hq_130 (show decode prog_7_method_14_code 209 = .ok (.iconst 3, 1) by decide +kernel) (by decide) ?_
              refine Ev_isub hq_130 (show decode prog_7_method_14_code 210 = .ok (.isub, 1) by decide +kernel) ?_
              refine Ev_putI hq_130 (show decode prog_7_method_14_code 211 = .ok (.putfield 119, 3) by decide +kernel) rfl (SGn hS (by decide)) (SGk hS rfl) (by decide) (by decide) rfl (fun hz => by cases hz) ?_
              obtain ⟨I38, eI38⟩ : ∃ I38 : zI, I38 = z_up I36 57 21 (r28 - 3) := ⟨_, rfl⟩
              have k := k I38 eI38
              rw [← eI38]
              refine Ev_goto (tgt := 403) hq_130 (show decode prog_7_method_14_code 214 = .ok (.goto 189, 3) by decide +kernel) (by decide) ?_
              exact Ev_vret hq_130 (show decode prog_7_method_14_code 403 = .ok (.return_, 1) by decide +kernel) k
            · have k := k.2 c37
              refine Ev_iload_n hq_130 (show decode prog_7_method_14_code 204 = .ok (.iload_n 2, 1) by decide +kernel) rfl ?_
              refine Ev_goto (tgt := 211) hq_130 (show decode prog_7_method_14_code 205 = .ok (.goto 6, 3) by decide +kernel) (by decide) ?_
              refine Ev_putI hq_130 (show decode prog_7_method_14_code 211 = .ok (.putfield 119, 3) by decide +kernel) rfl (SGn hS (by decide)) (SGk hS rfl) (by decide) (by decide) rfl (fun hz => by cases hz) ?_
              obtain ⟨I39, eI39⟩ : ∃ I39 : zI, I39 = z_up I36 57 21 r28 := ⟨_, rfl⟩
              have k := k I39 eI39
              rw [← eI39]
              refine Ev_goto (tgt := 403) hq_130 (show decode prog_7_method_14_code 214 = .ok (.goto 189, 3) by decide +kernel) (by decide) ?_
              exact Ev_vret hq_130 (show decode prog_7_method_14_code 403 = .ok (.return_, 1) by decide +kernel) k
        · have k := k.2 c30
          refine Ev_iconst (v := 2) hq_130 (show decode prog_7_method_14_code 175 = .ok (.iconst 2, 1) by decide +kernel) (by decide) ?_
          refine Ev_goto (tgt := 195) hq_130 (show decode prog_7_method_14_code 176 = .ok (.goto 19, 3) by decide +kernel) (by decide) ?_
          refine Ev_putI hq_130 (show decode prog_7_method_14_code 195 = .ok (.putfield 116, 3) by decide +kernel) rfl (SGn hS (by decide)) (SGk hS rfl) (by decide) (by decide) rfl (fun hz => by cases hz) ?_
          obtain ⟨I40, eI40⟩ : ∃ I40 : zI, I40 = z_up I26 57 20 2 := ⟨_, rfl⟩
          have k := k I40 eI40
          rw [← eI40]
          refine Ev_aload_n hq_130 (show decode prog_7_method_14_code 198 = .ok (.aload_n 0, 1) by decide +kernel) rfl ?_
          refine Ev_iload_n hq_130 (show decode prog_7_method_14_code 199 = .ok (.iload_n 2, 1) by decide +kernel) rfl ?_
          refine Ev_iconst (v := 3) hq_130 (show decode prog_7_method_14_code 200 = .ok (.iconst 3, 1) by decide +kernel) (by decide) ?_
          refine Ev_icmp_ge (tgt := 208) hq_130 (show decode prog_7_method_14_code 201 = .ok (.if_icmp .ge 7, 3) by decide +kernel) (by decide) (fun c41 => ?_) (fun c41 => ?_)
          · have k := k.1 c41
            refine Ev_iload_n hq_130 (show decode prog_7_method_14_code 208 = .ok (.iload_n 2, 1) by decide +kernel) rfl ?_
            refine Ev_iconst (v := 3) hq_130 (show decode prog_7_method_14_code 209 = .ok (.iconst 3, 1) by decide +kernel) (by decide) ?_
            refine Ev_isub hq_130 (show decode prog_7_method_14_code 210 = .ok (.isub, 1) by decide +kernel) ?_
            refine Ev_putI hq_130 (show decode prog_7_method_14_code 211 = .ok (.putfield 119, 3) by decide +kernel) rfl (SGn hS (by decide)) (SGk hS rfl) (by decide) (by decide) rfl (fun hz => by cases hz) ?_
            obtain ⟨I42, eI42⟩ : ∃ I42 : zI, I42 = z_up I40 57 21 (r28 - 3) := ⟨_, rfl⟩
            have k := k I42 eI42
            rw [← eI42]
            refine Ev_goto (tgt := 403) hq_130 (show decode prog_7_method_14_code 214 = .ok (.goto 189, 3) by decide +kernel) (by decide) ?_
            exact Ev_vret hq_130 (show decode prog_7_method_14_code 403 = .ok (.return_, 1) by decide +kernel) k
          · have k := k.2 c41
            refine Ev_iload_n hq_130 (show decode prog_7_method_14_code 204 = .ok (.iload_n 2, 1) by decide +kernel) rfl ?_
            refine Ev_goto (tgt := 211) hq_130 (show decode prog_7_method_14_code 205 = .ok (.goto 6, 3) by decide +kernel) (by decide) ?_
            refine Ev_putI hq_130 (show decode prog_7_method_14_code 211 = .ok (.putfield 119, 3) by decide +kernel) rfl (SGn hS (by decide)) (SGk hS rfl) (by decide) (by decide) rfl (fun hz => by cases hz) ?_
            obtain ⟨I43, eI43⟩ : ∃ I43 : zI, I43 = z_up I40 57 21 r28 := ⟨_, rfl⟩
            have k := k I43 eI43
            rw [← eI43]
            refine Ev_goto (tgt := 403) hq_130 (show decode prog_7_method_14_code 214 = .ok (.goto 189, 3) by decide +kernel) (by decide) ?_
            exact Ev_vret hq_130 (show decode prog_7_method_14_code 403 = .ok (.return_, 1) by decide +kernel) k
      · have k := k.2 c29
        refine Ev_iconst (v := 3) hq_130 (show decode prog_7_method_14_code 165 = .ok (.iconst 3, 1) by decide +kernel) (by decide) ?_
        refine Ev_goto (tgt := 195) hq_130 (show decode prog_7_method_14_code 166 = .ok (.goto 29, 3) by decide +kernel) (by decide) ?_
        refine Ev_putI hq_130 (show decode prog_7_method_14_code 195 = .ok (.putfield 116, 3) by decide +kernel) rfl (SGn hS (by decide)) (SGk hS rfl) (by decide) (by decide) rfl (fun hz => by cases hz) ?_
        obtain ⟨I44, eI44⟩ : ∃ I44 : zI, I44 = z_up I26 57 20 3 := ⟨_, rfl⟩
        have k := k I44 eI44
        rw [← eI44]
        refine Ev_aload_n hq_130 (show decode prog_7_method_14_code 198 = .ok (.aload_n 0, 1) by decide +kernel) rfl ?_
        refine Ev_iload_n hq_130 (show decode prog_7_method_14_code 199 = .ok (.iload_n 2, 1) by decide +kernel) rfl ?_
        refine Ev_iconst (v := 3) hq_130 (show decode prog_7_method_14_code 200 = .ok (.iconst 3, 1) by decide +kernel) (by decide) ?_
        refine Ev_icmp_ge (tgt := 208) hq_130 (show decode prog_7_method_14_code 201 = .ok (.if_icmp .ge 7, 3) by decide +kernel) (by decide) (fun c45 => ?_) (fun c45 => ?_)
        · have k := k.1 c45
          refine Ev_iload_n hq_130 (show decode prog_7_method_14_code 208 = .ok (.iload_n 2, 1) by decide +kernel) rfl ?_
          refine Ev_iconst (v := 3) hq_130 (show decode prog_7_method_14_code 209 = .ok (.iconst 3, 1) by decide +kernel) (by decide) ?_
          refine Ev_isub hq_130 (show decode prog_7_method_14_code 210 = .ok (.isub, 1) by decide +kernel) ?_
          refine Ev_putI hq_130 (show decode prog_7_method_14_code 211 = .ok (.putfield 119, 3) by decide +kernel) rfl (SGn hS (by decide)) (SGk hS rfl) (by decide) (by decide) rfl (fun hz => by cases hz) ?_
          obtain ⟨I46, eI46⟩ : ∃ I46 : zI, I46 = z_up I44 57 21 (r28 - 3) := ⟨_, rfl⟩
          have k := k I46 eI46
          rw [← eI46]
          refine Ev_goto (tgt := 403) hq_130 (show decode prog_7_method_14_code 214 = .ok (.goto 189, 3) by decide +kernel) (by decide) ?_
          exact Ev_vret hq_130 (show decode prog_7_method_14_code 403 = .ok (.return_, 1) by decide +kernel) k
        · have k := k.2 c45
          refine Ev_iload_n hq_130 (show decode prog_7_method_14_code 204 = .ok (.iload_n 2, 1) by decide +kernel) rfl ?_
          refine Ev_goto (tgt := 211) hq_130 (show decode prog_7_method_14_code 205 = .ok (.goto 6, 3) by decide +kernel) (by decide) ?_
          refine Ev_putI hq_130 (show decode prog_7_method_14_code 211 = .ok (.putfield 119, 3) by decide +kernel) rfl (SGn hS (by decide)) (SGk hS rfl) (by decide) (by decide) rfl (fun hz => by cases hz) ?_
          obtain ⟨I47, eI47⟩ : ∃ I47 : zI, I47 = z_up I44 57 21 r28 := ⟨_, rfl⟩
          have k := k I47 eI47
          rw [← eI47]
          refine Ev_goto (tgt := 403) hq_130 (show decode prog_7_method_14_code 214 = .ok (.goto 189, 3) by decide +kernel) (by decide) ?_
          exact Ev_vret hq_130 (show decode prog_7_method_14_code 403 = .ok (.return_, 1) by decide +kernel) k
    · have k := k.2 c25
      refine Ev_aload_n hq_130 (show decode prog_7_method_14_code 133 = .ok (.aload_n 0, 1) by decide +kernel) rfl ?_
      refine Ev_dup hq_130 (show decode prog_7_method_14_code 134 = .ok (.dup, 1) by decide +kernel) rfl ?_
      refine Ev_getI hq_130 (show decode prog_7_method_14_code 135 = .ok (.getfield 110, 3) by decide +kernel) rfl (SGn hS (by decide)) (SGk hS rfl) (by decide) rfl ?_
      refine Ev_iconst (v := 1) hq_130 (show decode prog_7_method_14_code 138 = .ok (.iconst 1, 1) by decide +kernel) (by decide) ?_
      refine Ev_iadd hq_130 (show decode prog_7_method_14_code 139 = .ok (.iadd, 1) by decide +kernel) ?_
      refine Ev_putI hq_130 (show decode prog_7_method_14_code 140 = .ok (.putfield 110, 3) by decide +kernel) rfl (SGn hS (by decide)) (SGk hS rfl) (by decide) (by decide) rfl (fun hz => by cases hz) ?_
      obtain ⟨I48, eI48⟩ : ∃ I48 : zI, I48 = z_up I 57 18 ((I 57 18) + 1) := ⟨_, rfl⟩
      have k := k I48 eI48
      rw [← eI48]
      refine Ev_goto (tgt := 103) hq_130 (show decode prog_7_method_14_code 143 = .ok (.goto (-40), 3) by decide +kernel) (by decide) ?_
      exact k
set_option maxRecDepth 20000 in
theorem wp_Z_next_230 {X : Nat × (Nat → Int32)} {d : Nat} {G : zG} {I : zI} {res : Option Value × zG × zI} (x1 : Int32) (x2 : Int32) (hS : SG G) 
    (k : ((I 57 5) ≤ (I 57 18) → (x2 ≤ 4 → (∀ I3 : zI, I3 = z_up I 57 20 1 → res = (none, G, I3))) ∧ (¬ x2 ≤ 4 → (∀ I4 : zI, I4 = z_up I 57 20 (-1) → res = (none, G, I4)))) ∧ (¬ (I 57 5) ≤ (I 57 18) → z_inr (I 57 18) 160 ∧ (((f_Z_in (I 61 (I 57 18).toNatClampNeg) 48 57) = 0 → (x2 ≤ 4 → (∀ I8 : zI, I8 = z_up I 57 20 1 → res = (none, G, I8))) ∧ (¬ x2 ≤ 4 → (∀ I9 : zI, I9 = z_up I 57 20 (-1) → res = (none, G, I9)))) ∧ (¬ (f_Z_in (I 61 (I 57 18).toNatClampNeg) 48 57) = 0 → (4 ≤ x2 → (∀ I11 : zI, I11 = z_up I 57 21 0 → ∀ y12 : Int32, y12 = x2 + 1 → (∀ I13 : zI, I13 = z_up I11 57 18 ((I11 57 18) + 1) → Ev X (d + 1) 130 230 [.ref 57, .int x1, .int y12] [] G I13 res))) ∧ (¬ 4 ≤ x2 → z_inr (I 57 18) 160 ∧ ((∀ I15 : zI, I15 = z_up I 57 21 (((10 * (I 57 21)) + (I 61 (I 57 18).toNatClampNeg)) - 48) → ∀ y16 : Int32, y16 = x2 + 1 → (∀ I17 : zI, I17 = z_up I15 57 18 ((I15 57 18) + 1) → Ev X (d + 1) 130 230 [.ref 57, .int x1, .int y16] [] G I17 res)))))))) :
    Ev X (d + 1) 130 230 [.ref 57, .int x1, .int x2] [] G I res := by
  refine Ev_aload_n hq_130 (show decode prog_7_method_14_code 230 = .ok (.aload_n 0, 1) by decide +kernel) rfl ?_
  refine Ev_getI hq_130 (show decode prog_7_method_14_code 231 = .ok (.getfield 110, 3) by decide +kernel) rfl (SGn hS (by decide)) (SGk hS rfl) (by decide) rfl ?_
  refine Ev_aload_n hq_130 (show decode prog_7_method_14_code 234 = .ok (.aload_n 0, 1) by decide +kernel) rfl ?_
  refine Ev_getI hq_130 (show decode prog_7_method_14_code 235 = .ok (.getfield 80, 3) by decide +kernel) rfl (SGn hS (by decide)) (SGk hS rfl) (by decide) rfl ?_
  refine Ev_icmp_ge (tgt := 309) hq_130 (show decode prog_7_method_14_code 238 = .ok (.if_icmp .ge 71, 3) by decide +kernel) (by decide) (fun c1 => ?_) (fun c1 => ?_)
  · have k := k.1 c1
    refine Ev_aload_n hq_130 (show decode prog_7_method_14_code 309 = .ok (.aload_n 0, 1) by decide +kernel) rfl ?_
    refine Ev_iload_n hq_130 (show decode prog_7_method_14_code 310 = .ok (.iload_n 2, 1) by decide +kernel) rfl ?_
    refine Ev_iconst (v := 4) hq_130 (show decode prog_7_method_14_code 311 = .ok (.iconst 4, 1) by decide +kernel) (by decide) ?_
    refine Ev_icmp_le (tgt := 319) hq_130 (show decode prog_7_method_14_code 312 = .ok (.if_icmp .le 7, 3) by decide +kernel) (by decide) (fun c2 => ?_) (fun c2 => ?_)
    · have k := k.1 c2
      refine Ev_iconst (v := 1) hq_130 (show decode prog_7_method_14_code 319 = .ok (.iconst 1, 1) by decide +kernel) (by decide) ?_
      refine Ev_putI hq_130 (show decode prog_7_method_14_code 320 = .ok (.putfield 116, 3) by decide +kernel) rfl (SGn hS (by decide)) (SGk hS rfl) (by decide) (by decide) rfl (fun hz => by cases hz) ?_
      obtain ⟨I3, eI3⟩ : ∃ I3 : zI, I3 = z_up I 57 20 1 := ⟨_, rfl⟩
      have k := k I3 eI3
      rw [← eI3]
      refine Ev_goto (tgt := 403) hq_130 (show decode prog_7_method_14_code 323 = .ok (.goto 80, 3) by decide +kernel) (by decide) ?_
      exact Ev_vret hq_130 (show decode prog_7_method_14_code 403 = .ok (.return_, 1) by decide +kernel) k
    · have k := k.2 c2
      refine Ev_iconst (v := (-1)) hq_130 (show decode prog_7_method_14_code 315 = .ok (.iconst (-1), 1) by decide +kernel) (by decide) ?_
      refine Ev_goto (tgt := 320) hq_130 (show decode prog_7_method_14_code 316 = .ok (.goto 4, 3) by decide +kernel) (by decide) ?_
      refine Ev_putI hq_130 (show decode prog_7_method_14_code 320 = .ok (.putfield 116, 3) by decide +kernel) rfl (SGn hS (by decide)) (SGk hS rfl) (by decide) (by decide) rfl (fun hz => by cases hz) ?_
      obtain ⟨I4, eI4⟩ : ∃ I4 : zI, I4 = z_up I 57 20 (-1) := ⟨_, rfl⟩
      have k := k I4 eI4
      rw [← eI4]
      refine Ev_goto (tgt := 403) hq_130 (show decode prog_7_method_14_code 323 = .ok (.goto 80, 3) by decide +kernel) (by decide) ?_
      exact Ev_vret hq_130 (show decode prog_7_method_14_code 403 = .ok (.return_, 1) by decide +kernel) k
  · have k := k.2 c1
    refine Ev_aload_n hq_130 (show decode prog_7_method_14_code 241 = .ok (.aload_n 0, 1) by decide +kernel) rfl ?_
    refine Ev_getR hq_130 (show decode prog_7_method_14_code 242 = .ok (.getfield 19, 3) by decide +kernel) rfl (SGn hS (by decide)) (SGk hS rfl) (by decide) rfl (SGr hS rfl) ?_
    refine Ev_aload_n hq_130 (show decode prog_7_method_14_code 245 = .ok (.aload_n 0, 1) by decide +kernel) rfl ?_
    refine Ev_getI hq_130 (show decode prog_7_method_14_code 246 = .ok (.getfield 110, 3) by decide +kernel) rfl (SGn hS (by decide)) (SGk hS rfl) (by decide) rfl ?_
    obtain ⟨h5, k⟩ := k
    refine Ev_iald hq_130 (show decode prog_7_method_14_code 249 = .ok (.iaload, 1) by decide +kernel) (SGn hS (by decide)) (SGk hS rfl) (SGi hS rfl h5) ?_
    refine Ev_bipush (v := 48) hq_130 (show decode prog_7_method_14_code 250 = .ok (.bipush 48, 2) by decide +kernel) (by decide) ?_
    refine Ev_bipush (v := 57) hq_130 (show decode prog_7_method_14_code 252 = .ok (.bipush 57, 2) by decide +kernel) (by decide) ?_
    refine Ev_stat (as := [.int (I 61 (I 57 18).toNatClampNeg), .int 48, .int 57]) hq_130 (show decode prog_7_method_14_code 254 = .ok (.invokestatic 90, 3) by decide +kernel) rfl (Or.inl rfl) hq_131 rfl (z_le rfl) (c_Z_in (I 61 (I 57 18).toNatClampNeg) 48 57) ?_
    refine Ev_if_eq (tgt := 309) hq_130 (show decode prog_7_method_14_code 257 = .ok (.ifCond .eq 52, 3) by decide +kernel) (by decide) (fun c6 => ?_) (fun c6 => ?_)
    · have k := k.1 c6
      refine Ev_aload_n hq_130 (show decode prog_7_method_14_code 309 = .ok (.aload_n 0, 1) by decide +kernel) rfl ?_
      refine Ev_iload_n hq_130 (show decode prog_7_method_14_code 310 = .ok (.iload_n 2, 1) by decide +kernel) rfl ?_
      refine Ev_iconst (v := 4) hq_130 (show decode prog_7_method_14_code 311 = .ok (.iconst 4, 1) by decide +kernel) (by decide) ?_
      refine Ev_icmp_le (tgt := 319) hq_130 (show decode prog_7_method_14_code 312 = .ok (.if_icmp .le 7, 3) by decide +kernel) (by decide) (fun c7 => ?_) (fun c7 => ?_)
      · have k := k.1 c7
        refine Ev_iconst (v := 1) hq_130 (show decode prog_7_method_14_code 319 = .ok (.iconst 1, 1) by decide +kernel) (by decide) ?_
        refine Ev_putI hq_130 (show decode prog_7_method_14_code 320 = .ok (.putfield 116, 3) by decide +kernel) rfl (SGn hS (by decide)) (SGk hS rfl) (by decide) (by decide) rfl (fun hz => by cases hz) ?_
        obtain ⟨I8, eI8⟩ : ∃ I8 : zI, I8 = z_up I 57 20 1 := ⟨_, rfl⟩
        have k := k I8 eI8
        rw [← eI8]
        refine Ev_goto (tgt := 403) hq_130 (show decode prog_7_method_14_code 323 = .ok (.goto 80, 3) by decide +kernel) (by decide) ?_
        exact Ev_vret hq_130 (show decode prog_7_method_14_code 403 = .ok (.return_, 1) by decide +kernel) k
      · have k := k.2 c7
        refine Ev_iconst (v := (-1)) hq_130 (show decode prog_7_method_14_code 315 = .ok (.iconst (-1), 1) by decide +kernel) (by decide) ?_
        refine Ev_goto (tgt := 320) hq_130 (show decode prog_7_method_14_code 316 = .ok (.goto 4, 3) by decide +kernel) (by decide) ?_
        refine Ev_putI hq_130 (show decode prog_7_method_14_code 320 = .ok (.putfield 116, 3) by decide +kernel) rfl (SGn hS (by decide)) (SGk hS rfl) (by decide) (by decide) rfl (fun hz => by cases hz) ?_
        obtain ⟨I9, eI9⟩ : ∃ I9 : zI, I9 = z_up I 57 20 (-1) := ⟨_, rfl⟩
        have k := k I9 eI9
        rw [← eI9]
        refine Ev_goto (tgt := 403) hq_130 (show decode prog_7_method_14_code 323 = .ok (.goto 80, 3) by decide +kernel) (by decide) ?_
        exact Ev_vret hq_130 (show decode prog_7_method_14_code 403 = .ok (.return_, 1) by decide +kernel) k
    · have k := k.2 c6
      refine Ev_aload_n hq_130 (show decode prog_7_method_14_code 260 = .ok (.aload_n 0, 1) by decide +kernel) rfl ?_
      refine Ev_iload_n hq_130 (show decode prog_7_method_14_code 261 = .ok (.iload_n 2, 1) by decide +kernel) rfl ?_
      refine Ev_iconst (v := 4) hq_130 (show decode prog_7_method_14_code 262 = .ok (.iconst 4, 1) by decide +kernel) (by decide) ?_
      refine Ev_icmp_ge (tgt := 289) hq_130 (show decode prog_7_method_14_code 263 = .ok (.if_icmp .ge 26, 3) by decide +kernel) (by decide) (fun c10 => ?_) (fun c10 => ?_)
      · have k := k.1 c10
        refine Ev_iconst (v := 0) hq_130 (show decode prog_7_method_14_code 289 = .ok (.iconst 0, 1) by decide +kernel) (by decide) ?_
        refine Ev_putI hq_130 (show decode prog_7_method_14_code 290 = .ok (.putfield 119, 3) by decide +kernel) rfl (SGn hS (by decide)) (SGk hS rfl) (by decide) (by decide) rfl (fun hz => by cases hz) ?_
        obtain ⟨I11, eI11⟩ : ∃ I11 : zI, I11 = z_up I 57 21 0 := ⟨_, rfl⟩
        have k := k I11 eI11
        rw [← eI11]
        obtain ⟨y12, ey12⟩ : ∃ y12 : Int32, y12 = x2 + 1 := ⟨_, rfl⟩
        have k := k y12 ey12
        refine Ev_iinc (v := y12) (lo2 := [.ref 57, .int x1, .int y12]) hq_130 (show decode prog_7_method_14_code 293 = .ok (.iinc 2 1, 3) by decide +kernel) rfl (by rw [ey12]; rfl) rfl ?_
        refine Ev_aload_n hq_130 (show decode prog_7_method_14_code 296 = .ok (.aload_n 0, 1) by decide +kernel) rfl ?_
        refine Ev_dup hq_130 (show decode prog_7_method_14_code 297 = .ok (.dup, 1) by decide +kernel) rfl ?_
        refine Ev_getI hq_130 (show decode prog_7_method_14_code 298 = .ok (.getfield 110, 3) by decide +kernel) rfl (SGn hS (by decide)) (SGk hS rfl) (by decide) rfl ?_
        refine Ev_iconst (v := 1) hq_130 (show decode prog_7_method_14_code 301 = .ok (.iconst 1, 1) by decide +kernel) (by decide) ?_
        refine Ev_iadd hq_130 (show decode prog_7_method_14_code 302 = .ok (.iadd, 1) by decide +kernel) ?_
        refine Ev_putI hq_130 (show decode prog_7_method_14_code 303 = .ok (.putfield 110, 3) by decide +kernel) rfl (SGn hS (by decide)) (SGk hS rfl) (by decide) (by decide) rfl (fun hz => by cases hz) ?_
        obtain ⟨I13, eI13⟩ : ∃ I13 : zI, I13 = z_up I11 57 18 ((I11 57 18) + 1) := ⟨_, rfl⟩
        have k := k I13 eI13
        rw [← eI13]
        refine Ev_goto (tgt := 230) hq_130 (show decode prog_7_method_14_code 306 = .ok (.goto (-76), 3) by decide +kernel) (by decide) ?_
        exact k
      · have k := k.2 c10
        refine Ev_bipush (v := 10) hq_130 (show decode prog_7_method_14_code 266 = .ok (.bipush 10, 2) by decide +kernel) (by decide) ?_
        refine Ev_aload_n hq_130 (show decode prog_7_method_14_code 268 = .ok (.aload_n 0, 1) by decide +kernel) rfl ?_
        refine Ev_getI hq_130 (show decode prog_7_method_14_code 269 = .ok (.getfield 119, 3) by decide +kernel) rfl (SGn hS (by decide)) (SGk hS rfl) (by decide) rfl ?_
        refine Ev_imul hq_130 (show decode prog_7_method_14_code 272 = .ok (.imul, 1) by decide +kernel) ?_
        refine Ev_aload_n hq_130 (show decode prog_7_method_14_code 273 = .ok (.aload_n 0, 1) by decide +kernel) rfl ?_
        refine Ev_getR hq_130 (show decode prog_7_method_14_code 274 = .ok (.getfield 19, 3) by decide +kernel) rfl (SGn hS (by decide)) (SGk hS rfl) (by decide) rfl (SGr hS rfl) ?_
        refine Ev_aload_n hq_130 (show decode prog_7_method_14_code 277 = .ok (.aload_n 0, 1) by decide +kernel) rfl ?_
        refine Ev_getI hq_130 (show decode prog_7_method_14_code 278 = .ok (.getfield 110, 3) by decide +kernel) rfl (SGn hS (by decide)) (SGk hS rfl) (by decide) rfl ?_
        obtain ⟨h14, k⟩ := k
        refine Ev_iald hq_130 (show decode prog_7_method_14_code 281 = .ok (.iaload, 1) by decide +kernel) (SGn hS (by decide)) (SGk hS rfl) (SGi hS rfl h14) ?_
        refine Ev_iadd hq_130 (show decode prog_7_method_14_code 282 = .ok (.iadd, 1) by decide +kernel) ?_
        refine Ev_bipush (v := 48) hq_130 (show decode prog_7_method_14_code 283 = .ok (.bipush 48, 2) by decide +kernel) (by decide) ?_
        refine Ev_isub hq_130 (show decode prog_7_method_14_code 285 = .ok (.isub, 1) by decide +kernel) ?_
        refine Ev_goto (tgt := 290) hq_130 (show decode prog_7_method_14_code 286 = .ok (.goto 4, 3) by decide +kernel) (by decide) ?_
        refine Ev_putI hq_130 (show decode prog_7_method_14_code 290 = .ok (.putfield 119, 3) by decide +kernel) rfl (SGn hS (by decide)) (SGk hS rfl) (by decide) (by decide) rfl (fun hz => by cases hz) ?_
        obtain ⟨I15, eI15⟩ : ∃ I15 : zI, I15 = z_up I 57 21 (((10 * (I 57 21)) + (I 61 (I 57 18).toNatClampNeg)) - 48) := ⟨_, rfl⟩
        have k := k I15 eI15
        rw [← eI15]
        obtain ⟨y16, ey16⟩ : ∃ y16 : Int32, y16 = x2 + 1 := ⟨_, rfl⟩
        have k := k y16 ey16
        refine Ev_iinc (v := y16) (lo2 := [.ref 57, .int x1, .int y16]) hq_130 (show decode prog_7_method_14_code 293 = .ok (.iinc 2 1, 3) by decide +kernel) rfl (by rw [ey16]; rfl) rfl ?_
        refine Ev_aload_n hq_130 (show decode prog_7_method_14_code 296 = .ok (.aload_n 0, 1) by decide +kernel) rfl ?_
        refine Ev_dup hq_130 (show decode prog_7_method_14_code 297 = .ok (.dup, 1) by decide +kernel) rfl ?_
        refine Ev_getI hq_130 (show decode prog_7_method_14_code 298 = .ok (.getfield 110, 3) by decide +kernel) rfl (SGn hS (by decide)) (SGk hS rfl) (by decide) rfl ?_
        refine Ev_iconst (v := 1) hq_130 (show decode prog_7_method_14_code 301 = .ok (.iconst 1, 1) by decide +kernel) (by decide) ?_
        refine Ev_iadd hq_130 (show decode prog_7_method_14_code 302 = .ok (.iadd, 1) by decide +kernel) ?_
        refine Ev_putI hq_130 (show decode prog_7_method_14_code 303 = .ok (.putfield 110, 3) by decide +kernel) rfl (SGn hS (by decide)) (SGk hS rfl) (by decide) (by decide) rfl (fun hz => by cases hz) ?_
        obtain ⟨I17, eI17⟩ : ∃ I17 : zI, I17 = z_up I15 57 18 ((I15 57 18) + 1) := ⟨_, rfl⟩
        have k := k I17 eI17
        rw [← eI17]
        refine Ev_goto (tgt := 230) hq_130 (show decode prog_7_method_14_code 306 = .ok (.goto (-76), 3) by decide +kernel) (by decide) ?_
        exact k
