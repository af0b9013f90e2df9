set_option maxRecDepth 20000 in
theorem wp_H_become_9_1 {X : Nat × (Nat → Int32)} {d : Nat} {G : zG} {I : zI} {res : Option Value × zG × zI}  (hS : SG G) 
    (k : (0 ≤ (0 : Int32) ∧ 0 ≤ (0 : Int32) ∧ 0 ≤ (4 : Int32) ∧ (0 : Int32).toNatClampNeg + (4 : Int32).toNatClampNeg ≤ zl G 2 ∧ (0 : Int32).toNatClampNeg + (4 : Int32).toNatClampNeg ≤ zl G 10) ∧ (∀ I2 : zI, I2 = va_up I 10 (va_cpy (I 2) (I 10) (0 : Int32).toNatClampNeg (0 : Int32).toNatClampNeg (4 : Int32).toNatClampNeg) → (0 ≤ (0 : Int32) ∧ 0 ≤ (0 : Int32) ∧ 0 ≤ (4 : Int32) ∧ (0 : Int32).toNatClampNeg + (4 : Int32).toNatClampNeg ≤ zl G 3 ∧ (0 : Int32).toNatClampNeg + (4 : Int32).toNatClampNeg ≤ zl G 11) ∧ (∀ I4 : zI, I4 = va_up I2 11 (va_cpy (I2 3) (I2 11) (0 : Int32).toNatClampNeg (0 : Int32).toNatClampNeg (4 : Int32).toNatClampNeg) → (0 ≤ (0 : Int32) ∧ 0 ≤ (0 : Int32) ∧ 0 ≤ (4 : Int32) ∧ (0 : Int32).toNatClampNeg + (4 : Int32).toNatClampNeg ≤ zl G 4 ∧ (0 : Int32).toNatClampNeg + (4 : Int32).toNatClampNeg ≤ zl G 12) ∧ (∀ I6 : zI, I6 = va_up I4 12 (va_cpy (I4 4) (I4 12) (0 : Int32).toNatClampNeg (0 : Int32).toNatClampNeg (4 : Int32).toNatClampNeg) → (0 ≤ (0 : Int32) ∧ 0 ≤ (0 : Int32) ∧ 0 ≤ (4 : Int32) ∧ (0 : Int32).toNatClampNeg + (4 : Int32).toNatClampNeg ≤ zl G 5 ∧ (0 : Int32).toNatClampNeg + (4 : Int32).toNatClampNeg ≤ zl G 13) ∧ (∀ I8 : zI, I8 = va_up I6 13 (va_cpy (I6 5) (I6 13) (0 : Int32).toNatClampNeg (0 : Int32).toNatClampNeg (4 : Int32).toNatClampNeg) → (0 ≤ (0 : Int32) ∧ 0 ≤ (0 : Int32) ∧ 0 ≤ (4 : Int32) ∧ (0 : Int32).toNatClampNeg + (4 : Int32).toNatClampNeg ≤ zl G 6 ∧ (0 : Int32).toNatClampNeg + (4 : Int32).toNatClampNeg ≤ zl G 14) ∧ (∀ I10 : zI, I10 = va_up I8 14 (va_cpy (I8 6) (I8 14) (0 : Int32).toNatClampNeg (0 : Int32).toNatClampNeg (4 : Int32).toNatClampNeg) → (0 ≤ (0 : Int32) ∧ 0 ≤ (0 : Int32) ∧ 0 ≤ (4 : Int32) ∧ (0 : Int32).toNatClampNeg + (4 : Int32).toNatClampNeg ≤ zl G 7 ∧ (0 : Int32).toNatClampNeg + (4 : Int32).toNatClampNeg ≤ zl G 15) ∧ (∀ I12 : zI, I12 = va_up I10 15 (va_cpy (I10 7) (I10 15) (0 : Int32).toNatClampNeg (0 : Int32).toNatClampNeg (4 : Int32).toNatClampNeg) → (0 ≤ (0 : Int32) ∧ 0 ≤ (0 : Int32) ∧ 0 ≤ (4 : Int32) ∧ (0 : Int32).toNatClampNeg + (4 : Int32).toNatClampNeg ≤ zl G 8 ∧ (0 : Int32).toNatClampNeg + (4 : Int32).toNatClampNeg ≤ zl G 16) ∧ (∀ I14 : zI, I14 = va_up I12 16 (va_cpy (I12 8) (I12 16) (0 : Int32).toNatClampNeg (0 : Int32).toNatClampNeg (4 : Int32).toNatClampNeg) → (∀ I15 : zI, I15 = z_up I14 9 7 (I14 1 7) → (∀ I16 : zI, I16 = z_up I15 9 8 (I15 1 8) → res = (none, G, I16))))))))))) :
    Ev X (d + 1) 83 0 [.ref 9, .ref 1] [] G I res := by
  refine Ev_aload_n hq_83 (show decode prog_2_method_2_code 0 = .ok (.aload_n 1, 1) by decide +kernel) rfl ?_
  refine Ev_ifnonnull (tgt := 5) hq_83 (show decode prog_2_method_2_code 1 = .ok (.ifnonnull 4, 3) by decide +kernel) (by decide) ?_
  refine Ev_aload_n hq_83 (show decode prog_2_method_2_code 5 = .ok (.aload_n 1, 1) by decide +kernel) rfl ?_
  refine Ev_getR hq_83 (show decode prog_2_method_2_code 6 = .ok (.getfield 9, 3) by decide +kernel) rfl (SGn hS (by decide)) (SGk hS rfl) (by decide) rfl (SGr hS rfl) ?_
  refine Ev_iconst (v := 0) hq_83 (show decode prog_2_method_2_code 9 = .ok (.iconst 0, 1) by decide +kernel) (by decide) ?_
  refine Ev_aload_n hq_83 (show decode prog_2_method_2_code 10 = .ok (.aload_n 0, 1) by decide +kernel) rfl ?_
  refine Ev_getR hq_83 (show decode prog_2_method_2_code 11 = .ok (.getfield 9, 3) by decide +kernel) rfl (SGn hS (by decide)) (SGk hS rfl) (by decide) rfl (SGr hS rfl) ?_
  refine Ev_iconst (v := 0) hq_83 (show decode prog_2_method_2_code 14 = .ok (.iconst 0, 1) by decide +kernel) (by decide) ?_
  refine Ev_iconst (v := 4) hq_83 (show decode prog_2_method_2_code 15 = .ok (.iconst 4, 1) by decide +kernel) (by decide) ?_
  obtain ⟨h1, k⟩ := k
  refine Ev_copy hq_83 (show decode prog_2_method_2_code 16 = .ok (.invokestatic 40, 3) by decide +kernel) rfl ⟨z_le rfl, (SGn hS (by decide)), (SGn hS (by decide)), (SGk hS rfl), (SGk hS rfl), h1⟩ ?_
  obtain ⟨I2, eI2⟩ : ∃ I2 : zI, I2 = va_up I 10 (va_cpy (I 2) (I 10) (0 : Int32).toNatClampNeg (0 : Int32).toNatClampNeg (4 : Int32).toNatClampNeg) := ⟨_, rfl⟩
  have k := k I2 eI2
  rw [← eI2]
  refine Ev_aload_n hq_83 (show decode prog_2_method_2_code 19 = .ok (.aload_n 1, 1) by decide +kernel) rfl ?_
  refine Ev_getR hq_83 (show decode prog_2_method_2_code 20 = .ok (.getfield 15, 3) by decide +kernel) rfl (SGn hS (by decide)) (SGk hS rfl) (by decide) rfl (SGr hS rfl) ?_
  refine Ev_iconst (v := 0) hq_83 (show decode prog_2_method_2_code 23 = .ok (.iconst 0, 1) by decide +kernel) (by decide) ?_
  refine Ev_aload_n hq_83 (show decode prog_2_method_2_code 24 = .ok (.aload_n 0, 1) by decide +kernel) rfl ?_
  refine Ev_getR hq_83 (show decode prog_2_method_2_code 25 = .ok (.getfield 15, 3) by decide +kernel) rfl (SGn hS (by decide)) (SGk hS rfl) (by decide) rfl (SGr hS rfl) ?_
  refine Ev_iconst (v := 0) hq_83 (show decode prog_2_method_2_code 28 = .ok (.iconst 0, 1) by decide +kernel) (by decide) ?_
  refine Ev_iconst (v := 4) hq_83 (show decode prog_2_method_2_code 29 = .ok (.iconst 4, 1) by decide +kernel) (by decide) ?_
  obtain ⟨h3, k⟩ := k
  refine Ev_copy hq_83 (show decode prog_2_method_2_code 30 = .ok (.invokestatic 40, 3) by decide +kernel) rfl ⟨z_le rfl, (SGn hS (by decide)), (SGn hS (by decide)), (SGk hS rfl), (SGk hS rfl), h3⟩ ?_
  obtain ⟨I4, eI4⟩ : ∃ I4 : zI, I4 = va_up I2 11 (va_cpy (I2 3) (I2 11) (0 : Int32).toNatClampNeg (0 : Int32).toNatClampNeg (4 : Int32).toNatClampNeg) := ⟨_, rfl⟩
  have k := k I4 eI4
  rw [← eI4]
  refine Ev_aload_n hq_83 (show decode prog_2_method_2_code 33 = .ok (.aload_n 1, 1) by decide +kernel) rfl ?_
  refine Ev_getR hq_83 (show decode prog_2_method_2_code 34 = .ok (.getfield 18, 3) by decide +kernel) rfl (SGn hS (by decide)) (SGk hS rfl) (by decide) rfl (SGr hS rfl) ?_
  refine Ev_iconst (v := 0) hq_83 (show decode prog_2_method_2_code 37 = .ok (.iconst 0, 1) by decide +kernel) (by decide) ?_
  refine Ev_aload_n hq_83 (show decode prog_2_method_2_code 38 = .ok (.aload_n 0, 1) by decide +kernel) rfl ?_
  refine Ev_getR hq_83 (show decode prog_2_method_2_code 39 = .ok (.getfield 18, 3) by decide +kernel) rfl (SGn hS (by decide)) (SGk hS rfl) (by decide) rfl (SGr hS rfl) ?_
  refine Ev_iconst (v := 0) hq_83 (show decode prog_2_method_2_code 42 = .ok (.iconst 0, 1) by decide +kernel) (by decide) ?_
  refine Ev_iconst (v := 4) hq_83 (show decode prog_2_method_2_code 43 = .ok (.iconst 4, 1) by decide +kernel) (by decide) ?_
  obtain ⟨h5, k⟩ := k
  refine Ev_copy hq_83 (show decode prog_2_method_2_code 44 = .ok (.invokestatic 40, 3) by decide +kernel) rfl ⟨z_le rfl, (SGn hS (by decide)), (SGn hS (by decide)), (SGk hS rfl), (SGk hS rfl), h5⟩ ?_
  obtain ⟨I6, eI6⟩ : ∃ I6 : zI, I6 = va_up I4 12 (va_cpy (I4 4) (I4 12) (0 : Int32).toNatClampNeg (0 : Int32).toNatClampNeg (4 : Int32).toNatClampNeg) := ⟨_, rfl⟩
  have k := k I6 eI6
  rw [← eI6]
  refine Ev_aload_n hq_83 (show decode prog_2_method_2_code 47 = .ok (.aload_n 1, 1) by decide +kernel) rfl ?_
  refine Ev_getR hq_83 (show decode prog_2_method_2_code 48 = .ok (.getfield 21, 3) by decide +kernel) rfl (SGn hS (by decide)) (SGk hS rfl) (by decide) rfl (SGr hS rfl) ?_
  refine Ev_iconst (v := 0) hq_83 (show decode prog_2_method_2_code 51 = .ok (.iconst 0, 1) by decide +kernel) (by decide) ?_
  refine Ev_aload_n hq_83 (show decode prog_2_method_2_code 52 = .ok (.aload_n 0, 1) by decide +kernel) rfl ?_
  refine Ev_getR hq_83 (show decode prog_2_method_2_code 53 = .ok (.getfield 21, 3) by decide +kernel) rfl (SGn hS (by decide)) (SGk hS rfl) (by decide) rfl (SGr hS rfl) ?_
  refine Ev_iconst (v := 0) hq_83 (show decode prog_2_method_2_code 56 = .ok (.iconst 0, 1) by decide +kernel) (by decide) ?_
  refine Ev_iconst (v := 4) hq_83 (show decode prog_2_method_2_code 57 = .ok (.iconst 4, 1) by decide +kernel) (by decide) ?_
  obtain ⟨h7, k⟩ := k
  refine Ev_copy hq_83 (show decode prog_2_method_2_code 58 = .ok (.invokestatic 40, 3) by decide +kernel) rfl ⟨z_le rfl, (SGn hS (by decide)), (SGn hS (by decide)), (SGk hS rfl), (SGk hS rfl), h7⟩ ?_
  obtain ⟨I8, eI8⟩ : ∃ I8 : zI, I8 = va_up I6 13 (va_cpy (I6 5) (I6 13) (0 : Int32).toNatClampNeg (0 : Int32).toNatClampNeg (4 : Int32).toNatClampNeg) := ⟨_, rfl⟩
  have k := k I8 eI8
  rw [← eI8]
  refine Ev_aload_n hq_83 (show decode prog_2_method_2_code 61 = .ok (.aload_n 1, 1) by decide +kernel) rfl ?_
  refine Ev_getR hq_83 (show decode prog_2_method_2_code 62 = .ok (.getfield 24, 3) by decide +kernel) rfl (SGn hS (by decide)) (SGk hS rfl) (by decide) rfl (SGr hS rfl) ?_
  refine Ev_iconst (v := 0) hq_83 (show decode prog_2_method_2_code 65 = .ok (.iconst 0, 1) by decide +kernel) (by decide) ?_
  refine Ev_aload_n hq_83 (show decode prog_2_method_2_code 66 = .ok (.aload_n 0, 1) by decide +kernel) rfl ?_
  refine Ev_getR hq_83 (show decode prog_2_method_2_code 67 = .ok (.getfield 24, 3) by decide +kernel) rfl (SGn hS (by decide)) (SGk hS rfl) (by decide) rfl (SGr hS rfl) ?_
  refine Ev_iconst (v := 0) hq_83 (show decode prog_2_method_2_code 70 = .ok (.iconst 0, 1) by decide +kernel) (by decide) ?_
  refine Ev_iconst (v := 4) hq_83 (show decode prog_2_method_2_code 71 = .ok (.iconst 4, 1) by decide +kernel) (by decide) ?_
  obtain ⟨h9, k⟩ := k
  refine Ev_copy hq_83 (show decode prog_2_method_2_code 72 = .ok (.invokestatic 40, 3) by decide +kernel) rfl ⟨z_le rfl, (SGn hS (by decide)), (SGn hS (by decide)), (SGk hS rfl), (SGk hS rfl), h9⟩ ?_
  obtain ⟨I10, eI10⟩ : ∃ I10 : zI, I10 = va_up I8 14 (va_cpy (I8 6) (I8 14) (0 : Int32).toNatClampNeg (0 : Int32).toNatClampNeg (4 : Int32).toNatClampNeg) := ⟨_, rfl⟩
  have k := k I10 eI10
  rw [← eI10]
  refine Ev_aload_n hq_83 (show decode prog_2_method_2_code 75 = .ok (.aload_n 1, 1) by decide +kernel) rfl ?_
  refine Ev_getR hq_83 (show decode prog_2_method_2_code 76 = .ok (.getfield 27, 3) by decide +kernel) rfl (SGn hS (by decide)) (SGk hS rfl) (by decide) rfl (SGr hS rfl) ?_
  refine Ev_iconst (v := 0) hq_83 (show decode prog_2_method_2_code 79 = .ok (.iconst 0, 1) by decide +kernel) (by decide) ?_
  refine Ev_aload_n hq_83 (show decode prog_2_method_2_code 80 = .ok (.aload_n 0, 1) by decide +kernel) rfl ?_
  refine Ev_getR hq_83 (show decode prog_2_method_2_code 81 = .ok (.getfield 27, 3) by decide +kernel) rfl (SGn hS (by decide)) (SGk hS rfl) (by decide) rfl (SGr hS rfl) ?_
  refine Ev_iconst (v := 0) hq_83 (show decode prog_2_method_2_code 84 = .ok (.iconst 0, 1) by decide +kernel) (by decide) ?_
  refine Ev_iconst (v := 4) hq_83 (show decode prog_2_method_2_code 85 = .ok (.iconst 4, 1) by decide +kernel) (by decide) ?_
  obtain ⟨h11, k⟩ := k
  refine Ev_copy hq_83 (show decode prog_2_method_2_code 86 = .ok (.invokestatic 40, 3) by decide +kernel) rfl ⟨z_le rfl, (SGn hS (by decide)), (SGn hS (by decide)), (SGk hS rfl), (SGk hS rfl), h11⟩ ?_
  obtain ⟨I12, eI12⟩ : ∃ I12 : zI, I12 = va_up I10 15 (va_cpy (I10 7) (I10 15) (0 : Int32).toNatClampNeg (0 : Int32).toNatClampNeg (4 : Int32).toNatClampNeg) := ⟨_, rfl⟩
  have k := k I12 eI12
  rw [← eI12]
  refine Ev_aload_n hq_83 (show decode prog_2_method_2_code 89 = .ok (.aload_n 1, 1) by decide +kernel) rfl ?_
  refine Ev_getR hq_83 (show decode prog_2_method_2_code 90 = .ok (.getfield 30, 3) by decide +kernel) rfl (SGn hS (by decide)) (SGk hS rfl) (by decide) rfl (SGr hS rfl) ?_
  refine Ev_iconst (v := 0) hq_83 (show decode prog_2_method_2_code 93 = .ok (.iconst 0, 1) by decide +kernel) (by decide) ?_
  refine Ev_aload_n hq_83 (show decode prog_2_method_2_code 94 = .ok (.aload_n 0, 1) by decide +kernel) rfl ?_
  refine Ev_getR hq_83 (show decode prog_2_method_2_code 95 = .ok (.getfield 30, 3) by decide +kernel) rfl (SGn hS (by decide)) (SGk hS rfl) (by decide) rfl (SGr hS rfl) ?_
  refine Ev_iconst (v := 0) hq_83 (show decode prog_2_method_2_code 98 = .ok (.iconst 0, 1) by decide +kernel) (by decide) ?_
  refine Ev_iconst (v := 4) hq_83 (show decode prog_2_method_2_code 99 = .ok (.iconst 4, 1) by decide +kernel) (by decide) ?_
  obtain ⟨h13, k⟩ := k
  refine Ev_copy hq_83 (show decode prog_2_method_2_code 100 = .ok (.invokestatic 40, 3) by decide +kernel) rfl ⟨z_le rfl, (SGn hS (by decide)), (SGn hS (by decide)), (SGk hS rfl), (SGk hS rfl), h13⟩ ?_
  obtain ⟨I14, eI14⟩ : ∃ I14 : zI, I14 = va_up I12 16 (va_cpy (I12 8) (I12 16) (0 : Int32).toNatClampNeg (0 : Int32).toNatClampNeg (4 : Int32).toNatClampNeg) := ⟨_, rfl⟩
  have k := k I14 eI14
  rw [← eI14]
  refine Ev_aload_n hq_83 (show decode prog_2_method_2_code 103 = .ok (.aload_n 0, 1) by decide +kernel) rfl ?_
  refine Ev_aload_n hq_83 (show decode prog_2_method_2_code 104 = .ok (.aload_n 1, 1) by decide +kernel) rfl ?_
  refine Ev_getI hq_83 (show decode prog_2_method_2_code 105 = .ok (.getfield 33, 3) by decide +kernel) rfl (SGn hS (by decide)) (SGk hS rfl) (by decide) rfl ?_
  refine Ev_putI hq_83 (show decode prog_2_method_2_code 108 = .ok (.putfield 33, 3) by decide +kernel) rfl (SGn hS (by decide)) (SGk hS rfl) (by decide) (by decide) rfl (fun hz => by cases hz) ?_
  obtain ⟨I15, eI15⟩ : ∃ I15 : zI, I15 = z_up I14 9 7 (I14 1 7) := ⟨_, rfl⟩
  have k := k I15 eI15
  rw [← eI15]
  refine Ev_aload_n hq_83 (show decode prog_2_method_2_code 111 = .ok (.aload_n 0, 1) by decide +kernel) rfl ?_
  refine Ev_aload_n hq_83 (show decode prog_2_method_2_code 112 = .ok (.aload_n 1, 1) by decide +kernel) rfl ?_
  refine Ev_getI hq_83 (show decode prog_2_method_2_code 113 = .ok (.getfield 37, 3) by decide +kernel) rfl (SGn hS (by decide)) (SGk hS rfl) (by decide) rfl ?_
  refine Ev_putI hq_83 (show decode prog_2_method_2_code 116 = .ok (.putfield 37, 3) by decide +kernel) rfl (SGn hS (by decide)) (SGk hS rfl) (by decide) (by decide) rfl (fun hz => by cases hz) ?_
  obtain ⟨I16, eI16⟩ : ∃ I16 : zI, I16 = z_up I15 9 8 (I15 1 8) := ⟨_, rfl⟩
  have k := k I16 eI16
  rw [← eI16]
  exact Ev_vret hq_83 (show decode prog_2_method_2_code 119 = .ok (.return_, 1) by decide +kernel) k
set_option maxRecDepth 20000 in
theorem wp_H_become_17_1 {X : Nat × (Nat → Int32)} {d : Nat} {G : zG} {I : zI} {res : Option Value × zG × zI}  (hS : SG G) 
    (k : (0 ≤ (0 : Int32) ∧ 0 ≤ (0 : Int32) ∧ 0 ≤ (4 : Int32) ∧ (0 : Int32).toNatClampNeg + (4 : Int32).toNatClampNeg ≤ zl G 2 ∧ (0 : Int32).toNatClampNeg + (4 : Int32).toNatClampNeg ≤ zl G 18) ∧ (∀ I2 : zI, I2 = va_up I 18 (va_cpy (I 2) (I 18) (0 : Int32).toNatClampNeg (0 : Int32).toNatClampNeg (4 : Int32).toNatClampNeg) → (0 ≤ (0 : Int32) ∧ 0 ≤ (0 : Int32) ∧ 0 ≤ (4 : Int32) ∧ (0 : Int32).toNatClampNeg + (4 : Int32).toNatClampNeg ≤ zl G 3 ∧ (0 : Int32).toNatClampNeg + (4 : Int32).toNatClampNeg ≤ zl G 19) ∧ (∀ I4 : zI, I4 = va_up I2 19 (va_cpy (I2 3) (I2 19) (0 : Int32).toNatClampNeg (0 : Int32).toNatClampNeg (4 : Int32).toNatClampNeg) → (0 ≤ (0 : Int32) ∧ 0 ≤ (0 : Int32) ∧ 0 ≤ (4 : Int32) ∧ (0 : Int32).toNatClampNeg + (4 : Int32).toNatClampNeg ≤ zl G 4 ∧ (0 : Int32).toNatClampNeg + (4 : Int32).toNatClampNeg ≤ zl G 20) ∧ (∀ I6 : zI, I6 = va_up I4 20 (va_cpy (I4 4) (I4 20) (0 : Int32).toNatClampNeg (0 : Int32).toNatClampNeg (4 : Int32).toNatClampNeg) → (0 ≤ (0 : Int32) ∧ 0 ≤ (0 : Int32) ∧ 0 ≤ (4 : Int32) ∧ (0 : Int32).toNatClampNeg + (4 : Int32).toNatClampNeg ≤ zl G 5 ∧ (0 : Int32).toNatClampNeg + (4 : Int32).toNatClampNeg ≤ zl G 21) ∧ (∀ I8 : zI, I8 = va_up I6 21 (va_cpy (I6 5) (I6 21) (0 : Int32).toNatClampNeg (0 : Int32).toNatClampNeg (4 : Int32).toNatClampNeg) → (0 ≤ (0 : Int32) ∧ 0 ≤ (0 : Int32) ∧ 0 ≤ (4 : Int32) ∧ (0 : Int32).toNatClampNeg + (4 : Int32).toNatClampNeg ≤ zl G 6 ∧ (0 : Int32).toNatClampNeg + (4 : Int32).toNatClampNeg ≤ zl G 22) ∧ (∀ I10 : zI, I10 = va_up I8 22 (va_cpy (I8 6) (I8 22) (0 : Int32).toNatClampNeg (0 : Int32).toNatClampNeg (4 : Int32).toNatClampNeg) → (0 ≤ (0 : Int32) ∧ 0 ≤ (0 : Int32) ∧ 0 ≤ (4 : Int32) ∧ (0 : Int32).toNatClampNeg + (4 : Int32).toNatClampNeg ≤ zl G 7 ∧ (0 : Int32).toNatClampNeg + (4 : Int32).toNatClampNeg ≤ zl G 23) ∧ (∀ I12 : zI, I12 = va_up I10 23 (va_cpy (I10 7) (I10 23) (0 : Int32).toNatClampNeg (0 : Int32).toNatClampNeg (4 : Int32).toNatClampNeg) → (0 ≤ (0 : Int32) ∧ 0 ≤ (0 : Int32) ∧ 0 ≤ (4 : Int32) ∧ (0 : Int32).toNatClampNeg + (4 : Int32).toNatClampNeg ≤ zl G 8 ∧ (0 : Int32).toNatClampNeg + (4 : Int32).toNatClampNeg ≤ zl G 24) ∧ (∀ I14 : zI, I14 = va_up I12 24 (va_cpy (I12 8) (I12 24) (0 : Int32).toNatClampNeg (0 : Int32).toNatClampNeg (4 : Int32).toNatClampNeg) → (∀ I15 : zI, I15 = z_up I14 17 7 (I14 1 7) → (∀ I16 : zI, I16 = z_up I15 17 8 (I15 1 8) → res = (none, G, I16))))))))))) :
    Ev X (d + 1) 83 0 [.ref 17, .ref 1] [] G I res := by
  refine Ev_aload_n hq_83 (show decode prog_2_method_2_code 0 = .ok (.aload_n 1, 1) by decide +kernel) rfl ?_
  refine Ev_ifnonnull (tgt := 5) hq_83 (show decode prog_2_method_2_code 1 = .ok (.ifnonnull 4, 3) by decide +kernel) (by decide) ?_
  refine Ev_aload_n hq_83 (show decode prog_2_method_2_code 5 = .ok (.aload_n 1, 1) by decide +kernel) rfl ?_
  refine Ev_getR hq_83 (show decode prog_2_method_2_code 6 = .ok (.getfield 9, 3) by decide +kernel) rfl (SGn hS (by decide)) (SGk hS rfl) (by decide) rfl (SGr hS rfl) ?_
  refine Ev_iconst (v := 0) hq_83 (show decode prog_2_method_2_code 9 = .ok (.iconst 0, 1) by decide +kernel) (by decide) ?_
  refine Ev_aload_n hq_83 (show decode prog_2_method_2_code 10 = .ok (.aload_n 0, 1) by decide +kernel) rfl ?_
  refine Ev_getR hq_83 (show decode prog_2_method_2_code 11 = .ok (.getfield 9, 3) by decide +kernel) rfl (SGn hS (by decide)) (SGk hS rfl) (by decide) rfl (SGr hS rfl) ?_
  refine Ev_iconst (v := 0) hq_83 (show decode prog_2_method_2_code 14 = .ok (.iconst 0, 1) by decide +kernel) (by decide) ?_
  refine Ev_iconst (v := 4) hq_83 (show decode prog_2_method_2_code 15 = .ok (.iconst 4, 1) by decide +kernel) (by decide) ?_
  obtain ⟨h1, k⟩ := k
  refine Ev_copy hq_83 (show decode prog_2_method_2_code 16 = .ok (.invokestatic 40, 3) by decide +kernel) rfl ⟨z_le rfl, (SGn hS (by decide)), (SGn hS (by decide)), (SGk hS rfl), (SGk hS rfl), h1⟩ ?_
  obtain ⟨I2, eI2⟩ : ∃ I2 : zI, I2 = va_up I 18 (va_cpy (I 2) (I 18) (0 : Int32).toNatClampNeg (0 : Int32).toNatClampNeg (4 : Int32).toNatClampNeg) := ⟨_, rfl⟩
  have k := k I2 eI2
  rw [← eI2]
  refine Ev_aload_n hq_83 (show decode prog_2_method_2_code 19 = .ok (.aload_n 1, 1) by decide +kernel) rfl ?_
  refine Ev_getR hq_83 (show decode prog_2_method_2_code 20 = .ok (.getfield 15, 3) by decide +kernel) rfl (SGn hS (by decide)) (SGk hS rfl) (by decide) rfl (SGr hS rfl) ?_
  refine Ev_iconst (v := 0) hq_83 (show decode prog_2_method_2_code 23 = .ok (.iconst 0, 1) by decide +kernel) (by decide) ?_
  refine Ev_aload_n hq_83 (show decode prog_2_method_2_code 24 = .ok (.aload_n 0, 1) by decide +kernel) rfl ?_
  refine Ev_getR hq_83 (show decode prog_2_method_2_code 25 = .ok (.getfield 15, 3) by decide +kernel) rfl (SGn hS (by decide)) (SGk hS rfl) (by decide) rfl (SGr hS rfl) ?_
  refine Ev_iconst (v := 0) hq_83 (show decode prog_2_method_2_code 28 = .ok (.iconst 0, 1) by decide +kernel) (by decide) ?_
  refine Ev_iconst (v := 4) hq_83 (show decode prog_2_method_2_code 29 = .ok (.iconst 4, 1) by decide +kernel) (by decide) ?_
  obtain ⟨h3, k⟩ := k
  refine Ev_copy hq_83 (show decode prog_2_method_2_code 30 = .ok (.invokestatic 40, 3) by decide +kernel) rfl ⟨z_le rfl, (SGn hS (by decide)), (SGn hS (by decide)), (SGk hS rfl), (SGk hS rfl), h3⟩ ?_
  obtain ⟨I4, eI4⟩ : ∃ I4 : zI, I4 = va_up I2 19 (va_cpy (I2 3) (I2 19) (0 : Int32).toNatClampNeg (0 : Int32).toNatClampNeg (4 : Int32).toNatClampNeg) := ⟨_, rfl⟩
  have k := k I4 eI4
  rw [← eI4]
  refine Ev_aload_n hq_83 (show decode prog_2_method_2_code 33 = .ok (.aload_n 1, 1) by decide +kernel) rfl ?_
  refine Ev_getR hq_83 (show decode prog_2_method_2_code 34 = .ok (.getfield 18, 3) by decide +kernel) rfl (SGn hS (by decide)) (SGk hS rfl) (by decide) rfl (SGr hS rfl) ?_
  refine Ev_iconst (v := 0) hq_83 (show decode prog_2_method_2_code 37 = .ok (.iconst 0, 1) by decide +kernel) (by decide) ?_
  refine Ev_aload_n hq_83 (show decode prog_2_method_2_code 38 = .ok (.aload_n 0, 1) by decide +kernel) rfl ?_
  refine Ev_getR hq_83 (show decode prog_2_method_2_code 39 = .ok (.getfield 18, 3) by decide +kernel) rfl (SGn hS (by decide)) (SGk hS rfl) (by decide) rfl (SGr hS rfl) ?_
  refine Ev_iconst (v := 0) hq_83 (show decode prog_2_method_2_code 42 = .ok (.iconst 0, 1) by decide +kernel) (by decide) ?_
  refine Ev_iconst (v := 4) hq_83 (show decode prog_2_method_2_code 43 = .ok (.iconst 4, 1) by decide +kernel) (by decide) ?_
  obtain ⟨h5, k⟩ := k
  refine Ev_copy hq_83 (show decode prog_2_method_2_code 44 = .ok (.invokestatic 40, 3) by decide +kernel) rfl ⟨z_le rfl, (SGn hS (by decide)), (SGn hS (by decide)), (SGk hS rfl), (SGk hS rfl), h5⟩ ?_
  obtain ⟨I6, eI6⟩ : ∃ I6 : zI, I6 = va_up I4 20 (va_cpy (I4 4) (I4 20) (0 : Int32).toNatClampNeg (0 : Int32).toNatClampNeg (4 : Int32).toNatClampNeg) := ⟨_, rfl⟩
  have k := k I6 eI6
  rw [← eI6]
  refine Ev_aload_n hq_83 (show decode prog_2_method_2_code 47 = .ok (.aload_n 1, 1) by decide +kernel) rfl ?_
  refine Ev_getR hq_83 (show decode prog_2_method_2_code 48 = .ok (.getfield 21, 3) by decide +kernel) rfl (SGn hS (by decide)) (SGk hS rfl) (by decide) rfl (SGr hS rfl) ?_
  refine Ev_iconst (v := 0) hq_83 (show decode prog_2_method_2_code 51 = .ok (.iconst 0, 1) by decide +kernel) (by decide) ?_
  refine Ev_aload_n hq_83 (show decode prog_2_method_2_code 52 = .ok (.aload_n 0, 1) by decide +kernel) rfl ?_
  refine Ev_getR hq_83 (show decode prog_2_method_2_code 53 = .ok (.getfield 21, 3) by decide +kernel) rfl (SGn hS (by decide)) (SGk hS rfl) (by decide) rfl (SGr hS rfl) ?_
  refine Ev_iconst (v := 0) hq_83 (show decode prog_2_method_2_code 56 = .ok (.iconst 0, 1) by decide +kernel) (by decide) ?_
  refine Ev_iconst (v := 4) hq_83 (show decode prog_2_method_2_code 57 = .ok (.iconst 4, 1) by decide +kernel) (by decide) ?_
  obtain ⟨h7, k⟩ := k
  refine Ev_copy hq_83 (show decode prog_2_method_2_code 58 = .ok (.invokestatic 40, 3) by decide +kernel) rfl ⟨z_le rfl, (SGn hS (by decide)), (SGn hS (by decide)), (SGk hS rfl), (SGk hS rfl), h7⟩ ?_
  obtain ⟨I8, eI8⟩ : ∃ I8 : zI, I8 = va_up I6 21 (va_cpy (I6 5) (I6 21) (0 : Int32).toNatClampNeg (0 : Int32).toNatClampNeg (4 : Int32).toNatClampNeg) := ⟨_, rfl⟩
  have k := k I8 eI8
  rw [← eI8]
  refine Ev_aload_n hq_83 (show decode prog_2_method_2_code 61 = .ok (.aload_n 1, 1) by decide +kernel) rfl ?_
  refine Ev_getR hq_83 (show decode prog_2_method_2_code 62 = .ok (.getfield 24, 3) by decide +kernel) rfl (SGn hS (by decide)) (SGk hS rfl) (by decide) rfl (SGr hS rfl) ?_
  refine Ev_iconst (v := 0) hq_83 (show decode prog_2_method_2_code 65 = .ok (.iconst 0, 1) by decide +kernel) (by decide) ?_
  refine Ev_aload_n hq_83 (show decode prog_2_method_2_code 66 = .ok (.aload_n 0, 1) by decide +kernel) rfl ?_
  refine Ev_getR hq_83 (show decode prog_2_method_2_code 67 = .ok (.getfield 24, 3) by decide +kernel) rfl (SGn hS (by decide)) (SGk hS rfl) (by decide) rfl (SGr hS rfl) ?_
  refine Ev_iconst (v := 0) hq_83 (show decode prog_2_method_2_code 70 = .ok (.iconst 0, 1) by decide +kernel) (by decide) ?_
  refine Ev_iconst (v := 4) hq_83 (show decode prog_2_method_2_code 71 = .ok (.iconst 4, 1) by decide +kernel) (by decide) ?_
  obtain ⟨h9, k⟩ := k
  refine Ev_copy hq_83 (show decode prog_2_method_2_code 72 = .ok (.invokestatic 40, 3) by decide +kernel) rfl ⟨z_le rfl, (SGn hS (by decide)), (SGn hS (by decide)), (SGk hS rfl), (SGk hS rfl), h9⟩ ?_
  obtain ⟨I10, eI10⟩ : ∃ I10 : zI, I10 = va_up I8 22 (va_cpy (I8 6) (I8 22) (0 : Int32).toNatClampNeg (0 : Int32).toNatClampNeg (4 : Int32).toNatClampNeg) := ⟨_, rfl⟩
  have k := k I10 eI10
  rw [← eI10]
  refine Ev_aload_n hq_83 (show decode prog_2_method_2_code 75 = .ok (.aload_n 1, 1) by decide +kernel) rfl ?_
  refine Ev_getR hq_83 (show decode prog_2_method_2_code 76 = .ok (.getfield 27, 3) by decide +kernel) rfl (SGn hS (by decide)) (SGk hS rfl) (by decide) rfl (SGr hS rfl) ?_
  refine Ev_iconst (v := 0) hq_83 (show decode prog_2_method_2_code 79 = .ok (.iconst 0, 1) by decide +kernel) (by decide) ?_
  refine Ev_aload_n hq_83 (show decode prog_2_method_2_code 80 = .ok (.aload_n 0, 1) by decide +kernel) rfl ?_
  refine Ev_getR hq_83 (show decode prog_2_method_2_code 81 = .ok (.getfield 27, 3) by decide +kernel) rfl (SGn hS (by decide)) (SGk hS rfl) (by decide) rfl (SGr hS rfl) ?_
  refine Ev_iconst (v := 0) hq_83 (show decode prog_2_method_2_code 84 = .ok (.iconst 0, 1) by decide +kernel) (by decide) ?_
  refine Ev_iconst (v := 4) hq_83 (show decode prog_2_method_2_code 85 = .ok (.iconst 4, 1) by decide +kernel) (by decide) ?_
  obtain ⟨h11, k⟩ := k
  refine Ev_copy hq_83 (show decode prog_2_method_2_code 86 = .ok (.invokestatic 40, 3) by decide +kernel) rfl ⟨z_le rfl, (SGn hS (by decide)), (SGn hS (by decide)), (SGk hS rfl), (SGk hS rfl), h11⟩ ?_
  obtain ⟨I12, eI12⟩ : ∃ I12 : zI, I12 = va_up I10 23 (va_cpy (I10 7) (I10 23) (0 : Int32).toNatClampNeg (0 : Int32).toNatClampNeg (4 : Int32).toNatClampNeg) := ⟨_, rfl⟩
  have k := k I12 eI12
  rw [← eI12]
  refine Ev_aload_n hq_83 (show decode prog_2_method_2_code 89 = .ok (.aload_n 1, 1) by decide +kernel) rfl ?_
  refine Ev_getR hq_83 (show decode prog_2_method_2_code 90 = .ok (.getfield 30, 3) by decide +kernel) rfl (SGn hS (by decide)) (SGk hS rfl) (by decide) rfl (SGr hS rfl) ?_
  refine Ev_iconst (v := 0) hq_83 (show decode prog_2_method_2_code 93 = .ok (.iconst 0, 1) by decide +kernel) (by decide) ?_
  refine Ev_aload_n hq_83 (show decode prog_2_method_2_code 94 = .ok (.aload_n 0, 1) by decide +kernel) rfl ?_
  refine Ev_getR hq_83 (show decode prog_2_method_2_code 95 = .ok (.getfield 30, 3) by decide +kernel) rfl (SGn hS (by decide)) (SGk hS rfl) (by decide) rfl (SGr hS rfl) ?_
  refine Ev_iconst (v := 0) hq_83 (show decode prog_2_method_2_code 98 = .ok (.iconst 0, 1) by decide +kernel) (by decide) ?_
  refine Ev_iconst (v := 4) hq_83 (show decode prog_2_method_2_code 99 = .ok (.iconst 4, 1) by decide +kernel) (by decide) ?_
  obtain ⟨h13, k⟩ := k
  refine Ev_copy hq_83 (show decode prog_2_method_2_code 100 = .ok (.invokestatic 40, 3) by decide +kernel) rfl ⟨z_le rfl, (SGn hS (by decide)), (SGn hS (by decide)), (SGk hS rfl), (SGk hS rfl), h13⟩ ?_
  obtain ⟨I14, eI14⟩ : ∃ I14 : zI, I14 = va_up I12 24 (va_cpy (I12 8) (I12 24) (0 : Int32).toNatClampNeg (0 : Int32).toNatClampNeg (4 : Int32).toNatClampNeg) := ⟨_, rfl⟩
  have k := k I14 eI14
  rw [← eI14]
  refine Ev_aload_n hq_83 (show decode prog_2_method_2_code 103 = .ok (.aload_n 0, 1) by decide +kernel) rfl ?_
  refine Ev_aload_n hq_83 (show decode prog_2_method_2_code 104 = .ok (.aload_n 1, 1) by decide +kernel) rfl ?_
  refine Ev_getI hq_83 (show decode prog_2_method_2_code 105 = .ok (.getfield 33, 3) by decide +kernel) rfl (SGn hS (by decide)) (SGk hS rfl) (by decide) rfl ?_
  refine Ev_putI hq_83 (show decode prog_2_method_2_code 108 = .ok (.putfield 33, 3) by decide +kernel) rfl (SGn hS (by decide)) (SGk hS rfl) (by decide) (by decide) rfl (fun hz => by cases hz) ?_
  obtain ⟨I15, eI15⟩ : ∃ I15 : zI, I15 = z_up I14 17 7 (I14 1 7) := ⟨_, rfl⟩
  have k := k I15 eI15
  rw [← eI15]
  refine Ev_aload_n hq_83 (show decode prog_2_method_2_code 111 = .ok (.aload_n 0, 1) by decide +kernel) rfl ?_
  refine Ev_aload_n hq_83 (show decode prog_2_method_2_code 112 = .ok (.aload_n 1, 1) by decide +kernel) rfl ?_
  refine Ev_getI hq_83 (show decode prog_2_method_2_code 113 = .ok (.getfield 37, 3) by decide +kernel) rfl (SGn hS (by decide)) (SGk hS rfl) (by decide) rfl ?_
  refine Ev_putI hq_83 (show decode prog_2_method_2_code 116 = .ok (.putfield 37, 3) by decide +kernel) rfl (SGn hS (by decide)) (SGk hS rfl) (by decide) (by decide) rfl (fun hz => by cases hz) ?_
  obtain ⟨I16, eI16⟩ : ∃ I16 : zI, I16 = z_up I15 17 8 (I15 1 8) := ⟨_, rfl⟩
  have k := k I16 eI16
  rw [← eI16]
  exact Ev_vret hq_83 (show decode prog_2_method_2_code 119 = .ok (.return_, 1) by decide +kernel) k
set_option maxRecDepth 20000 in
theorem wp_H_become_1_17 {X : Nat × (Nat → Int32)} {d : Nat} {G : zG} {I : zI} {res : Option Value × zG × zI}  (hS : SG G) 
    (k : (0 ≤ (0 : Int32) ∧ 0 ≤ (0 : Int32) ∧ 0 ≤ (4 : Int32) ∧ (0 : Int32).toNatClampNeg + (4 : Int32).toNatClampNeg ≤ zl G 18 ∧ (0 : Int32).toNatClampNeg + (4 : Int32).toNatClampNeg ≤ zl G 2) ∧ (∀ I2 : zI, I2 = va_up I 2 (va_cpy (I 18) (I 2) (0 : Int32).toNatClampNeg (0 : Int32).toNatClampNeg (4 : Int32).toNatClampNeg) → (0 ≤ (0 : Int32) ∧ 0 ≤ (0 : Int32) ∧ 0 ≤ (4 : Int32) ∧ (0 : Int32).toNatClampNeg + (4 : Int32).toNatClampNeg ≤ zl G 19 ∧ (0 : Int32).toNatClampNeg + (4 : Int32).toNatClampNeg ≤ zl G 3) ∧ (∀ I4 : zI, I4 = va_up I2 3 (va_cpy (I2 19) (I2 3) (0 : Int32).toNatClampNeg (0 : Int32).toNatClampNeg (4 : Int32).toNatClampNeg) → (0 ≤ (0 : Int32) ∧ 0 ≤ (0 : Int32) ∧ 0 ≤ (4 : Int32) ∧ (0 : Int32).toNatClampNeg + (4 : Int32).toNatClampNeg ≤ zl G 20 ∧ (0 : Int32).toNatClampNeg + (4 : Int32).toNatClampNeg ≤ zl G 4) ∧ (∀ I6 : zI, I6 = va_up I4 4 (va_cpy (I4 20) (I4 4) (0 : Int32).toNatClampNeg (0 : Int32).toNatClampNeg (4 : Int32).toNatClampNeg) → (0 ≤ (0 : Int32) ∧ 0 ≤ (0 : Int32) ∧ 0 ≤ (4 : Int32) ∧ (0 : Int32).toNatClampNeg + (4 : Int32).toNatClampNeg ≤ zl G 21 ∧ (0 : Int32).toNatClampNeg + (4 : Int32).toNatClampNeg ≤ zl G 5) ∧ (∀ I8 : zI, I8 = va_up I6 5 (va_cpy (I6 21) (I6 5) (0 : Int32).toNatClampNeg (0 : Int32).toNatClampNeg (4 : Int32).toNatClampNeg) → (0 ≤ (0 : Int32) ∧ 0 ≤ (0 : Int32) ∧ 0 ≤ (4 : Int32) ∧ (0 : Int32).toNatClampNeg + (4 : Int32).toNatClampNeg ≤ zl G 22 ∧ (0 : Int32).toNatClampNeg + (4 : Int32).toNatClampNeg ≤ zl G 6) ∧ (∀ I10 : zI, I10 = va_up I8 6 (va_cpy (I8 22) (I8 6) (0 : Int32).toNatClampNeg (0 : Int32).toNatClampNeg (4 : Int32).toNatClampNeg) → (0 ≤ (0 : Int32) ∧ 0 ≤ (0 : Int32) ∧ 0 ≤ (4 : Int32) ∧ (0 : Int32).toNatClampNeg + (4 : Int32).toNatClampNeg ≤ zl G 23 ∧ (0 : Int32).toNatClampNeg + (4 : Int32).toNatClampNeg ≤ zl G 7) ∧ (∀ I12 : zI, I12 = va_up I10 7 (va_cpy (I10 23) (I10 7) (0 : Int32).toNatClampNeg (0 : Int32).toNatClampNeg (4 : Int32).toNatClampNeg) → (0 ≤ (0 : Int32) ∧ 0 ≤ (0 : Int32) ∧ 0 ≤ (4 : Int32) ∧ (0 : Int32).toNatClampNeg + (4 : Int32).toNatClampNeg ≤ zl G 24 ∧ (0 : Int32).toNatClampNeg + (4 : Int32).toNatClampNeg ≤ zl G 8) ∧ (∀ I14 : zI, I14 = va_up I12 8 (va_cpy (I12 24) (I12 8) (0 : Int32).toNatClampNeg (0 : Int32).toNatClampNeg (4 : Int32).toNatClampNeg) → (∀ I15 : zI, I15 = z_up I14 1 7 (I14 17 7) → (∀ I16 : zI, I16 = z_up I15 1 8 (I15 17 8) → res = (none, G, I16))))))))))) :
    Ev X (d + 1) 83 0 [.ref 1, .ref 17] [] G I res := by
  refine Ev_aload_n hq_83 (show decode prog_2_method_2_code 0 = .ok (.aload_n 1, 1) by decide +kernel) rfl ?_
  refine Ev_ifnonnull (tgt := 5) hq_83 (show decode prog_2_method_2_code 1 = .ok (.ifnonnull 4, 3) by decide +kernel) (by decide) ?_
  refine Ev_aload_n hq_83 (show decode prog_2_method_2_code 5 = .ok (.aload_n 1, 1) by decide +kernel) rfl ?_
  refine Ev_getR hq_83 (show decode prog_2_method_2_code 6 = .ok (.getfield 9, 3) by decide +kernel) rfl (SGn hS (by decide)) (SGk hS rfl) (by decide) rfl (SGr hS rfl) ?_
  refine Ev_iconst (v := 0) hq_83 (show decode prog_2_method_2_code 9 = .ok (.iconst 0, 1) by decide +kernel) (by decide) ?_
  refine Ev_aload_n hq_83 (show decode prog_2_method_2_code 10 = .ok (.aload_n 0, 1) by decide +kernel) rfl ?_
  refine Ev_getR hq_83 (show decode prog_2_method_2_code 11 = .ok (.getfield 9, 3) by decide +kernel) rfl (SGn hS (by decide)) (SGk hS rfl) (by decide) rfl (SGr hS rfl) ?_
  refine Ev_iconst (v := 0) hq_83 (show decode prog_2_method_2_code 14 = .ok (.iconst 0, 1) by decide +kernel) (by decide) ?_
  refine Ev_iconst (v := 4) hq_83 (show decode prog_2_method_2_code 15 = .ok (.iconst 4, 1) by decide +kernel) (by decide) ?_
  obtain ⟨h1, k⟩ := k
  refine Ev_copy hq_83 (show decode prog_2_method_2_code 16 = .ok (.invokestatic 40, 3) by decide +kernel) rfl ⟨z_le rfl, (SGn hS (by decide)), (SGn hS (by decide)), (SGk hS rfl), (SGk hS rfl), h1⟩ ?_
  obtain ⟨I2, eI2⟩ : ∃ I2 : zI, I2 = va_up I 2 (va_cpy (I 18) (I 2) (0 : Int32).toNatClampNeg (0 : Int32).toNatClampNeg (4 : Int32).toNatClampNeg) := ⟨_, rfl⟩
  have k := k I2 eI2
  rw [← eI2]
  refine Ev_aload_n hq_83 (show decode prog_2_method_2_code 19 = .ok (.aload_n 1, 1) by decide +kernel) rfl ?_
  refine Ev_getR hq_83 (show decode prog_2_method_2_code 20 = .ok (.getfield 15, 3) by decide +kernel) rfl (SGn hS (by decide)) (SGk hS rfl) (by decide) rfl (SGr hS rfl) ?_
  refine Ev_iconst (v := 0) hq_83 (show decode prog_2_method_2_code 23 = .ok (.iconst 0, 1) by decide +kernel) (by decide) ?_
  refine Ev_aload_n hq_83 (show decode prog_2_method_2_code 24 = .ok (.aload_n 0, 1) by decide +kernel) rfl ?_
  refine Ev_getR hq_83 (show decode prog_2_method_2_code 25 = .ok (.getfield 15, 3) by decide +kernel) rfl (SGn hS (by decide)) (SGk hS rfl) (by decide) rfl (SGr hS rfl) ?_
  refine Ev_iconst (v := 0) hq_83 (show decode prog_2_method_2_code 28 = .ok (.iconst 0, 1) by decide +kernel) (by decide) ?_
  refine Ev_iconst (v := 4) hq_83 (show decode prog_2_method_2_code 29 = .ok (.iconst 4, 1) by decide +kernel) (by decide) ?_
  obtain ⟨h3, k⟩ := k
  refine Ev_copy hq_83 (show decode prog_2_method_2_code 30 = .ok (.invokestatic 40, 3) by decide +kernel) rfl ⟨z_le rfl, (SGn hS (by decide)), (SGn hS (by decide)), (SGk hS rfl), (SGk hS rfl), h3⟩ ?_
  obtain ⟨I4, eI4⟩ : ∃ I4 : zI, I4 = va_up I2 3 (va_cpy (I2 19) (I2 3) (0 : Int32).toNatClampNeg (0 : Int32).toNatClampNeg (4 : Int32).toNatClampNeg) := ⟨_, rfl⟩
  have k := k I4 eI4
  rw [← eI4]
  refine Ev_aload_n hq_83 (show decode prog_2_method_2_code 33 = .ok (.aload_n 1, 1) by decide +kernel) rfl ?_
  refine Ev_getR hq_83 (show decode prog_2_method_2_code 34 = .ok (.getfield 18, 3) by decide +kernel) rfl (SGn hS (by decide)) (SGk hS rfl) (by decide) rfl (SGr hS rfl) ?_
  refine Ev_iconst (v := 0) hq_83 (show decode prog_2_method_2_code 37 = .ok (.iconst 0, 1) by decide +kernel) (by decide) ?_
  refine Ev_aload_n hq_83 (show decode prog_2_method_2_code 38 = .ok (.aload_n 0, 1) by decide +kernel) rfl ?_
  refine Ev_getR hq_83 (show decode prog_2_method_2_code 39 = .ok (.getfield 18, 3) by decide +kernel) rfl (SGn hS (by decide)) (SGk hS rfl) (by decide) rfl (SGr hS rfl) ?_
  refine Ev_iconst (v := 0) hq_83 (show decode prog_2_method_2_code 42 = .ok (.iconst 0, 1) by decide +kernel) (by decide) ?_
  refine Ev_iconst (v := 4) hq_83 (show decode prog_2_method_2_code 43 = .ok (.iconst 4, 1) by decide +kernel) (by decide) ?_
  obtain ⟨h5, k⟩ := k
  refine Ev_copy hq_83 (show decode prog_2_method_2_code 44 = .ok (.invokestatic 40, 3) by decide +kernel) rfl ⟨z_le rfl, (SGn hS (by decide)), (SGn hS (by decide)), (SGk hS rfl), (SGk hS rfl), h5⟩ ?_
  obtain ⟨I6, eI6⟩ : ∃ I6 : zI, I6 = va_up I4 4 (va_cpy (I4 20) (I4 4) (0 : Int32).toNatClampNeg (0 : Int32).toNatClampNeg (4 : Int32).toNatClampNeg) := ⟨_, rfl⟩
  have k := k I6 eI6
  rw [← eI6]
  refine Ev_aload_n hq_83 (show decode prog_2_method_2_code 47 = .ok (.aload_n 1, 1) by decide +kernel) rfl ?_
  refine Ev_getR hq_83 (show decode prog_2_method_2_code 48 = .ok (.getfield 21, 3) by decide +kernel) rfl (SGn hS (by decide)) (SGk hS rfl) (by decide) rfl (SGr hS rfl) ?_
  refine Ev_iconst (v := 0) hq_83 (show decode prog_2_method_2_code 51 = .ok (.iconst 0, 1) by decide +kernel) (by decide) ?_
  refine Ev_aload_n hq_83 (show decode prog_2_method_2_code 52 = .ok (.aload_n 0, 1) by decide +kernel) rfl ?_
  refine Ev_getR hq_83 (show decode prog_2_method_2_code 53 = .ok (.getfield 21, 3) by decide +kernel) rfl (SGn hS (by decide)) (SGk hS rfl) (by decide) rfl (SGr hS rfl) ?_
  refine Ev_iconst (v := 0) hq_83 (show decode prog_2_method_2_code 56 = .ok (.iconst 0, 1) by decide +kernel) (by decide) ?_
  refine Ev_iconst (v := 4) hq_83 (show decode prog_2_method_2_code 57 = .ok (.iconst 4, 1) by decide +kernel) (by decide) ?_
  obtain ⟨h7, k⟩ := k
  refine Ev_copy hq_83 (show decode prog_2_method_2_code 58 = .ok (.invokestatic 40, 3) by decide +kernel) rfl ⟨z_le rfl, (SGn hS (by decide)), (SGn hS (by decide)), (SGk hS rfl), (SGk hS rfl), h7⟩ ?_
  obtain ⟨I8, eI8⟩ : ∃ I8 : zI, I8 = va_up I6 5 (va_cpy (I6 21) (I6 5) (0 : Int32).toNatClampNeg (0 : Int32).toNatClampNeg (4 : Int32).toNatClampNeg) := ⟨_, rfl⟩
  have k := k I8 eI8
  rw [← eI8]
  refine Ev_aload_n hq_83 (show decode prog_2_method_2_code 61 = .ok (.aload_n 1, 1) by decide +kernel) rfl ?_
  refine Ev_getR hq_83 (show decode prog_2_method_2_code 62 = .ok (.getfield 24, 3) by decide +kernel) rfl (SGn hS (by decide)) (SGk hS rfl) (by decide) rfl (SGr hS rfl) ?_
  refine Ev_iconst (v := 0) hq_83 (show decode prog_2_method_2_code 65 = .ok (.iconst 0, 1) by decide +kernel) (by decide) ?_
  refine Ev_aload_n hq_83 (show decode prog_2_method_2_code 66 = .ok (.aload_n 0, 1) by decide +kernel) rfl ?_
  refine Ev_getR hq_83 (show decode prog_2_method_2_code 67 = .ok (.getfield 24, 3) by decide +kernel) rfl (SGn hS (by decide)) (SGk hS rfl) (by decide) rfl (SGr hS rfl) ?_
  refine Ev_iconst (v := 0) hq_83 (show decode prog_2_method_2_code 70 = .ok (.iconst 0, 1) by decide +kernel) (by decide) ?_
  refine Ev_iconst (v := 4) hq_83 (show decode prog_2_method_2_code 71 = .ok (.iconst 4, 1) by decide +kernel) (by decide) ?_
  obtain ⟨h9, k⟩ := k
  refine Ev_copy hq_83 (show decode prog_2_method_2_code 72 = .ok (.invokestatic 40, 3) by decide +kernel) rfl ⟨z_le rfl, (SGn hS (by decide)), (SGn hS (by decide)), (SGk hS rfl), (SGk hS rfl), h9⟩ ?_
  obtain ⟨I10, eI10⟩ : ∃ I10 : zI, I10 = va_up I8 6 (va_cpy (I8 22) (I8 6) (0 : Int32).toNatClampNeg (0 : Int32).toNatClampNeg (4 : Int32).toNatClampNeg) := ⟨_, rfl⟩
  have k := k I10 eI10
  rw [← eI10]
  refine Ev_aload_n hq_83 (show decode prog_2_method_2_code 75 = .ok (.aload_n 1, 1) by decide +kernel) rfl ?_
  refine Ev_getR hq_83 (show decode prog_2_method_2_code 76 = .ok (.getfield 27, 3) by decide +kernel) rfl (SGn hS (by decide)) (SGk hS rfl) (by decide) rfl (SGr hS rfl) ?_
  refine Ev_iconst (v := 0) hq_83 (show decode prog_2_method_2_code 79 = .ok (.iconst 0, 1) by decide +kernel) (by decide) ?_
  refine Ev_aload_n hq_83 (show decode prog_2_method_2_code 80 = .ok (.aload_n 0, 1) by decide +kernel) rfl ?_
  refine Ev_getR hq_83 (show decode prog_2_method_2_code 81 = .ok (.getfield 27, 3) by decide +kernel) rfl (SGn hS (by decide)) (SGk hS rfl) (by decide) rfl (SGr hS rfl) ?_
  refine Ev_iconst (v := 0) hq_83 (show decode prog_2_method_2_code 84 = .ok (.iconst 0, 1) by decide +kernel) (by decide) ?_
  refine Ev_iconst (v := 4) hq_83 (show decode prog_2_method_2_code 85 = .ok (.iconst 4, 1) by decide +kernel) (by decide) ?_
  obtain ⟨h11, k⟩ := k
  refine Ev_copy hq_83 (show decode prog_2_method_2_code 86 = .ok (.invokestatic 40, 3) by decide +kernel) rfl ⟨z_le rfl, (SGn hS (by decide)), (SGn hS (by decide)), (SGk hS rfl), (SGk hS rfl), h11⟩ ?_
  obtain ⟨I12, eI12⟩ : ∃ I12 : zI, I12 = va_up I10 7 (va_cpy (I10 23) (I10 7) (0 : Int32).toNatClampNeg (0 : Int32).toNatClampNeg (4 : Int32).toNatClampNeg) := ⟨_, rfl⟩
  have k := k I12 eI12
  rw [← eI12]
  refine Ev_aload_n hq_83 (show decode prog_2_method_2_code 89 = .ok (.aload_n 1, 1) by decide +kernel) rfl ?_
  refine Ev_getR hq_83 (show decode prog_2_method_2_code 90 = .ok (.getfield 30, 3) by decide +kernel) rfl (SGn hS (by decide)) (SGk hS rfl) (by decide) rfl (SGr hS rfl) ?_
  refine Ev_iconst (v := 0) hq_83 (show decode prog_2_method_2_code 93 = .ok (.iconst 0, 1) by decide +kernel) (by decide) ?_
  refine Ev_aload_n hq_83 (show decode prog_2_method_2_code 94 = .ok (.aload_n 0, 1) by decide +kernel) rfl ?_
  refine Ev_getR hq_83 (show decode prog_2_method_2_code 95 = .ok (.getfield 30, 3) by decide +kernel) rfl (SGn hS (by decide)) (SGk hS rfl) (by decide) rfl (SGr hS rfl) ?_
  refine Ev_iconst (v := 0) hq_83 (show decode prog_2_method_2_code 98 = .ok (.iconst 0, 1) by decide +kernel) (by decide) ?_
  refine Ev_iconst (v := 4) hq_83 (show decode prog_2_method_2_code 99 = .ok (.iconst 4, 1) by decide +kernel) (by decide) ?_
  obtain ⟨h13, k⟩ := k
  refine Ev_copy hq_83 (show decode prog_2_method_2_code 100 = .ok (.invokestatic 40, 3) by decide +kernel) rfl ⟨z_le rfl, (SGn hS (by decide)), (SGn hS (by decide)), (SGk hS rfl), (SGk hS rfl), h13⟩ ?_
  obtain ⟨I14, eI14⟩ : ∃ I14 : zI, I14 = va_up I12 8 (va_cpy (I12 24) (I12 8) (0 : Int32).toNatClampNeg (0 : Int32).toNatClampNeg (4 : Int32).toNatClampNeg) := ⟨_, rfl⟩
  have k := k I14 eI14
  rw [← eI14]
  refine Ev_aload_n hq_83 (show decode prog_2_method_2_code 103 = .ok (.aload_n 0, 1) by decide +kernel) rfl ?_
  refine Ev_aload_n hq_83 (show decode prog_2_method_2_code 104 = .ok (.aload_n 1, 1) by decide +kernel) rfl ?_
  refine Ev_getI hq_83 (show decode prog_2_method_2_code 105 = .ok (.getfield 33, 3) by decide +kernel) rfl (SGn hS (by decide)) (SGk hS rfl) (by decide) rfl ?_
  refine Ev_putI hq_83 (show decode prog_2_method_2_code 108 = .ok (.putfield 33, 3) by decide +kernel) rfl (SGn hS (by decide)) (SGk hS rfl) (by decide) (by decide) rfl (fun hz => by cases hz) ?_
  obtain ⟨I15, eI15⟩ : ∃ I15 : zI, I15 = z_up I14 1 7 (I14 17 7) := ⟨_, rfl⟩
  have k := k I15 eI15
  rw [← eI15]
  refine Ev_aload_n hq_83 (show decode prog_2_method_2_code 111 = .ok (.aload_n 0, 1) by decide +kernel) rfl ?_
  refine Ev_aload_n hq_83 (show decode prog_2_method_2_code 112 = .ok (.aload_n 1, 1) by decide +kernel) rfl ?_
  refine Ev_getI hq_83 (show decode prog_2_method_2_code 113 = .ok (.getfield 37, 3) by decide +kernel) rfl (SGn hS (by decide)) (SGk hS rfl) (by decide) rfl ?_
  refine Ev_putI hq_83 (show decode prog_2_method_2_code 116 = .ok (.putfield 37, 3) by decide +kernel) rfl (SGn hS (by decide)) (SGk hS rfl) (by decide) (by decide) rfl (fun hz => by cases hz) ?_
  obtain ⟨I16, eI16⟩ : ∃ I16 : zI, I16 = z_up I15 1 8 (I15 17 8) := ⟨_, rfl⟩
  have k := k I16 eI16
  rw [← eI16]
  exact Ev_vret hq_83 (show decode prog_2_method_2_code 119 = .ok (.return_, 1) by decide +kernel) k
theorem cpy_at {I : zI} {a b k : Nat} (h : k < 4) : va_up I b (va_cpy (I a) (I b) (0 : Int32).toNatClampNeg (0 : Int32).toNatClampNeg (4 : Int32).toNatClampNeg) b k = I a k := by
  rw [va_up_self]
  show (if 0 ≤ k ∧ k < 0 + 4 then I a (0 + (k - 0)) else I b k) = _
  rw [if_pos ⟨by omega, by omega⟩, show 0 + (k - 0) = k by omega]
theorem c_become_9_1 {X : Nat × (Nat → Int32)} {d : Nat} {G : zG} (hS : SG G) (I : zI) : ∃ I1 : zI, Cv X (d + 1) 83 [.ref 9, .ref 1] G I (none, G, I1) ∧ (∀ c, ¬ (9 ≤ c ∧ c ≤ 16) → I1 c = I c) ∧ (∀ j, j < 7 → ∀ x, x < 4 → I1 (10 + j) x = I (2 + j) x) ∧ I1 9 7 = I 1 7 ∧ I1 9 8 = I 1 8 := by
  obtain ⟨A1, eA1⟩ : ∃ A1 : zI, A1 = va_up I 10 (va_cpy (I 2) (I 10) (0 : Int32).toNatClampNeg (0 : Int32).toNatClampNeg (4 : Int32).toNatClampNeg) := ⟨_, rfl⟩
  have fA1 : ∀ c, c ≠ 10 → A1 c = I c := fun c h => by rw [eA1]; exact va_up_ne _ _ h
  obtain ⟨A2, eA2⟩ : ∃ A2 : zI, A2 = va_up A1 11 (va_cpy (A1 3) (A1 11) (0 : Int32).toNatClampNeg (0 : Int32).toNatClampNeg (4 : Int32).toNatClampNeg) := ⟨_, rfl⟩
  have fA2 : ∀ c, c ≠ 11 → A2 c = A1 c := fun c h => by rw [eA2]; exact va_up_ne _ _ h
  obtain ⟨A3, eA3⟩ : ∃ A3 : zI, A3 = va_up A2 12 (va_cpy (A2 4) (A2 12) (0 : Int32).toNatClampNeg (0 : Int32).toNatClampNeg (4 : Int32).toNatClampNeg) := ⟨_, rfl⟩
  have fA3 : ∀ c, c ≠ 12 → A3 c = A2 c := fun c h => by rw [eA3]; exact va_up_ne _ _ h
  obtain ⟨A4, eA4⟩ : ∃ A4 : zI, A4 = va_up A3 13 (va_cpy (A3 5) (A3 13) (0 : Int32).toNatClampNeg (0 : Int32).toNatClampNeg (4 : Int32).toNatClampNeg) := ⟨_, rfl⟩
  have fA4 : ∀ c, c ≠ 13 → A4 c = A3 c := fun c h => by rw [eA4]; exact va_up_ne _ _ h
  obtain ⟨A5, eA5⟩ : ∃ A5 : zI, A5 = va_up A4 14 (va_cpy (A4 6) (A4 14) (0 : Int32).toNatClampNeg (0 : Int32).toNatClampNeg (4 : Int32).toNatClampNeg) := ⟨_, rfl⟩
  have fA5 : ∀ c, c ≠ 14 → A5 c = A4 c := fun c h => by rw [eA5]; exact va_up_ne _ _ h
  obtain ⟨A6, eA6⟩ : ∃ A6 : zI, A6 = va_up A5 15 (va_cpy (A5 7) (A5 15) (0 : Int32).toNatClampNeg (0 : Int32).toNatClampNeg (4 : Int32).toNatClampNeg) := ⟨_, rfl⟩
  have fA6 : ∀ c, c ≠ 15 → A6 c = A5 c := fun c h => by rw [eA6]; exact va_up_ne _ _ h
  obtain ⟨A7, eA7⟩ : ∃ A7 : zI, A7 = va_up A6 16 (va_cpy (A6 8) (A6 16) (0 : Int32).toNatClampNeg (0 : Int32).toNatClampNeg (4 : Int32).toNatClampNeg) := ⟨_, rfl⟩
  have fA7 : ∀ c, c ≠ 16 → A7 c = A6 c := fun c h => by rw [eA7]; exact va_up_ne _ _ h
  obtain ⟨A8, eA8⟩ : ∃ A8 : zI, A8 = z_up A7 9 7 (A7 1 7) := ⟨_, rfl⟩
  obtain ⟨A9, eA9⟩ : ∃ A9 : zI, A9 = z_up A8 9 8 (A8 1 8) := ⟨_, rfl⟩
  have lz : ∀ c, zLnL[c]? = some 4 → (0 : Int32).toNatClampNeg + (4 : Int32).toNatClampNeg ≤ zl G c := fun c h => by rw [SGl hS h]; decide
  have f8 : ∀ c, c ≠ 9 → A9 c = A7 c := fun c h => by rw [eA9, up_cell h, eA8, up_cell h]
  refine ⟨A9, Cv.of hq_83 (z_le rfl) rfl (wp_H_become_9_1 hS ?_), fun c h => ?_, fun j hj x hx => ?_, ?_, ?_⟩
  · have cc : ∀ p q, zLnL[p]? = some 4 → zLnL[q]? = some 4 → (0 ≤ (0 : Int32) ∧ 0 ≤ (0 : Int32) ∧ 0 ≤ (4 : Int32) ∧ (0 : Int32).toNatClampNeg + (4 : Int32).toNatClampNeg ≤ zl G p ∧ (0 : Int32).toNatClampNeg + (4 : Int32).toNatClampNeg ≤ zl G q) := fun p q h1 h2 => ⟨by decide, by decide, by decide, lz p h1, lz q h2⟩
    refine ⟨cc _ _ rfl rfl, fun B1 g1 => ?_⟩
    obtain rfl : B1 = A1 := g1.trans eA1.symm
    refine ⟨cc _ _ rfl rfl, fun B2 g2 => ?_⟩
    obtain rfl : B2 = A2 := g2.trans eA2.symm
    refine ⟨cc _ _ rfl rfl, fun B3 g3 => ?_⟩
    obtain rfl : B3 = A3 := g3.trans eA3.symm
    refine ⟨cc _ _ rfl rfl, fun B4 g4 => ?_⟩
    obtain rfl : B4 = A4 := g4.trans eA4.symm
    refine ⟨cc _ _ rfl rfl, fun B5 g5 => ?_⟩
    obtain rfl : B5 = A5 := g5.trans eA5.symm
    refine ⟨cc _ _ rfl rfl, fun B6 g6 => ?_⟩
    obtain rfl : B6 = A6 := g6.trans eA6.symm
    refine ⟨cc _ _ rfl rfl, fun B7 g7 => ?_⟩
    obtain rfl : B7 = A7 := g7.trans eA7.symm
    intro B8 g8
    obtain rfl : B8 = A8 := g8.trans eA8.symm
    intro B9 g9
    rw [g9, eA9]
  · rw [f8 c (by omega), fA7 c (by omega), fA6 c (by omega), fA5 c (by omega), fA4 c (by omega), fA3 c (by omega), fA2 c (by omega), fA1 c (by omega)]
  · have h7 : j = 0 ∨ j = 1 ∨ j = 2 ∨ j = 3 ∨ j = 4 ∨ j = 5 ∨ j = 6 := by omega
    rcases h7 with rfl | rfl | rfl | rfl | rfl | rfl | rfl
    · show A9 10 x = I 2 x
      rw [f8 _ (by decide), fA7 _ (by decide), fA6 _ (by decide), fA5 _ (by decide), fA4 _ (by decide), fA3 _ (by decide), fA2 _ (by decide), eA1, cpy_at hx]
    · show A9 11 x = I 3 x
      rw [f8 _ (by decide), fA7 _ (by decide), fA6 _ (by decide), fA5 _ (by decide), fA4 _ (by decide), fA3 _ (by decide), eA2, cpy_at hx, fA1 _ (by decide)]
    · show A9 12 x = I 4 x
      rw [f8 _ (by decide), fA7 _ (by decide), fA6 _ (by decide), fA5 _ (by decide), fA4 _ (by decide), eA3, cpy_at hx, fA2 _ (by decide), fA1 _ (by decide)]
    · show A9 13 x = I 5 x
      rw [f8 _ (by decide), fA7 _ (by decide), fA6 _ (by decide), fA5 _ (by decide), eA4, cpy_at hx, fA3 _ (by decide), fA2 _ (by decide), fA1 _ (by decide)]
    · show A9 14 x = I 6 x
      rw [f8 _ (by decide), fA7 _ (by decide), fA6 _ (by decide), eA5, cpy_at hx, fA4 _ (by decide), fA3 _ (by decide), fA2 _ (by decide), fA1 _ (by decide)]
    · show A9 15 x = I 7 x
      rw [f8 _ (by decide), fA7 _ (by decide), eA6, cpy_at hx, fA5 _ (by decide), fA4 _ (by decide), fA3 _ (by decide), fA2 _ (by decide), fA1 _ (by decide)]
    · show A9 16 x = I 8 x
      rw [f8 _ (by decide), eA7, cpy_at hx, fA6 _ (by decide), fA5 _ (by decide), fA4 _ (by decide), fA3 _ (by decide), fA2 _ (by decide), fA1 _ (by decide)]
  · rw [eA9, up_place (by decide), eA8, up_same, fA7 _ (by decide), fA6 _ (by decide), fA5 _ (by decide), fA4 _ (by decide), fA3 _ (by decide), fA2 _ (by decide), fA1 _ (by decide)]
  · rw [eA9, up_same, eA8, up_cell (by decide), fA7 _ (by decide), fA6 _ (by decide), fA5 _ (by decide), fA4 _ (by decide), fA3 _ (by decide), fA2 _ (by decide), fA1 _ (by decide)]
theorem c_become_17_1 {X : Nat × (Nat → Int32)} {d : Nat} {G : zG} (hS : SG G) (I : zI) : ∃ I1 : zI, Cv X (d + 1) 83 [.ref 17, .ref 1] G I (none, G, I1) ∧ (∀ c, ¬ (17 ≤ c ∧ c ≤ 24) → I1 c = I c) ∧ (∀ j, j < 7 → ∀ x, x < 4 → I1 (18 + j) x = I (2 + j) x) ∧ I1 17 7 = I 1 7 ∧ I1 17 8 = I 1 8 := by
  obtain ⟨A1, eA1⟩ : ∃ A1 : zI, A1 = va_up I 18 (va_cpy (I 2) (I 18) (0 : Int32).toNatClampNeg (0 : Int32).toNatClampNeg (4 : Int32).toNatClampNeg) := ⟨_, rfl⟩
  have fA1 : ∀ c, c ≠ 18 → A1 c = I c := fun c h => by rw [eA1]; exact va_up_ne _ _ h
  obtain ⟨A2, eA2⟩ : ∃ A2 : zI, A2 = va_up A1 19 (va_cpy (A1 3) (A1 19) (0 : Int32).toNatClampNeg (0 : Int32).toNatClampNeg (4 : Int32).toNatClampNeg) := ⟨_, rfl⟩
  have fA2 : ∀ c, c ≠ 19 → A2 c = A1 c := fun c h => by rw [eA2]; exact va_up_ne _ _ h
  obtain ⟨A3, eA3⟩ : ∃ A3 : zI, A3 = va_up A2 20 (va_cpy (A2 4) (A2 20) (0 : Int32).toNatClampNeg (0 : Int32).toNatClampNeg (4 : Int32).toNatClampNeg) := ⟨_, rfl⟩
  have fA3 : ∀ c, c ≠ 20 → A3 c = A2 c := fun c h => by rw [eA3]; exact va_up_ne _ _ h
  obtain ⟨A4, eA4⟩ : ∃ A4 : zI, A4 = va_up A3 21 (va_cpy (A3 5) (A3 21) (0 : Int32).toNatClampNeg (0 : Int32).toNatClampNeg (4 : Int32).toNatClampNeg) := ⟨_, rfl⟩
  have fA4 : ∀ c, c ≠ 21 → A4 c = A3 c := fun c h => by rw [eA4]; exact va_up_ne _ _ h
  obtain ⟨A5, eA5⟩ : ∃ A5 : zI, A5 = va_up A4 22 (va_cpy (A4 6) (A4 22) (0 : Int32).toNatClampNeg (0 : Int32).toNatClampNeg (4 : Int32).toNatClampNeg) := ⟨_, rfl⟩
  have fA5 : ∀ c, c ≠ 22 → A5 c = A4 c := fun c h => by rw [eA5]; exact va_up_ne _ _ h
  obtain ⟨A6, eA6⟩ : ∃ A6 : zI, A6 = va_up A5 23 (va_cpy (A5 7) (A5 23) (0 : Int32).toNatClampNeg (0 : Int32).toNatClampNeg (4 : Int32).toNatClampNeg) := ⟨_, rfl⟩
  have fA6 : ∀ c, c ≠ 23 → A6 c = A5 c := fun c h => by rw [eA6]; exact va_up_ne _ _ h
  obtain ⟨A7, eA7⟩ : ∃ A7 : zI, A7 = va_up A6 24 (va_cpy (A6 8) (A6 24) (0 : Int32).toNatClampNeg (0 : Int32).toNatClampNeg (4 : Int32).toNatClampNeg) := ⟨_, rfl⟩
  have fA7 : ∀ c, c ≠ 24 → A7 c = A6 c := fun c h => by rw [eA7]; exact va_up_ne _ _ h
  obtain ⟨A8, eA8⟩ : ∃ A8 : zI, A8 = z_up A7 17 7 (A7 1 7) := ⟨_, rfl⟩
  obtain ⟨A9, eA9⟩ : ∃ A9 : zI, A9 = z_up A8 17 8 (A8 1 8) := ⟨_, rfl⟩
  have lz : ∀ c, zLnL[c]? = some 4 → (0 : Int32).toNatClampNeg + (4 : Int32).toNatClampNeg ≤ zl G c := fun c h => by rw [SGl hS h]; decide
  have f8 : ∀ c, c ≠ 17 → A9 c = A7 c := fun c h => by rw [eA9, up_cell h, eA8, up_cell h]
  refine ⟨A9, Cv.of hq_83 (z_le rfl) rfl (wp_H_become_17_1 hS ?_), fun c h => ?_, fun j hj x hx => ?_, ?_, ?_⟩
  · have cc : ∀ p q, zLnL[p]? = some 4 → zLnL[q]? = some 4 → (0 ≤ (0 : Int32) ∧ 0 ≤ (0 : Int32) ∧ 0 ≤ (4 : Int32) ∧ (0 : Int32).toNatClampNeg + (4 : Int32).toNatClampNeg ≤ zl G p ∧ (0 : Int32).toNatClampNeg + (4 : Int32).toNatClampNeg ≤ zl G q) := fun p q h1 h2 => ⟨by decide, by decide, by decide, lz p h1, lz q h2⟩
    refine ⟨cc _ _ rfl rfl, fun B1 g1 => ?_⟩
    obtain rfl : B1 = A1 := g1.trans eA1.symm
    refine ⟨cc _ _ rfl rfl, fun B2 g2 => ?_⟩
    obtain rfl : B2 = A2 := g2.trans eA2.symm
    refine ⟨cc _ _ rfl rfl, fun B3 g3 => ?_⟩
    obtain rfl : B3 = A3 := g3.trans eA3.symm
    refine ⟨cc _ _ rfl rfl, fun B4 g4 => ?_⟩
    obtain rfl : B4 = A4 := g4.trans eA4.symm
    refine ⟨cc _ _ rfl rfl, fun B5 g5 => ?_⟩
    obtain rfl : B5 = A5 := g5.trans eA5.symm
    refine ⟨cc _ _ rfl rfl, fun B6 g6 => ?_⟩
    obtain rfl : B6 = A6 := g6.trans eA6.symm
    refine ⟨cc _ _ rfl rfl, fun B7 g7 => ?_⟩
    obtain rfl : B7 = A7 := g7.trans eA7.symm
    intro B8 g8
    obtain rfl : B8 = A8 := g8.trans eA8.symm
    intro B9 g9
    rw [g9, eA9]
  · rw [f8 c (by omega), fA7 c (by omega), fA6 c (by omega), fA5 c (by omega), fA4 c (by omega), fA3 c (by omega), fA2 c (by omega), fA1 c (by omega)]
  · have h7 : j = 0 ∨ j = 1 ∨ j = 2 ∨ j = 3 ∨ j = 4 ∨ j = 5 ∨ j = 6 := by omega
    rcases h7 with rfl | rfl | rfl | rfl | rfl | rfl | rfl
    · show A9 18 x = I 2 x
      rw [f8 _ (by decide), fA7 _ (by decide), fA6 _ (by decide), fA5 _ (by decide), fA4 _ (by decide), fA3 _ (by decide), fA2 _ (by decide), eA1, cpy_at hx]
    · show A9 19 x = I 3 x
      rw [f8 _ (by decide), fA7 _ (by decide), fA6 _ (by decide), fA5 _ (by decide), fA4 _ (by decide), fA3 _ (by decide), eA2, cpy_at hx, fA1 _ (by decide)]
    · show A9 20 x = I 4 x
      rw [f8 _ (by decide), fA7 _ (by decide), fA6 _ (by decide), fA5 _ (by decide), fA4 _ (by decide), eA3, cpy_at hx, fA2 _ (by decide), fA1 _ (by decide)]
    · show A9 21 x = I 5 x
      rw [f8 _ (by decide), fA7 _ (by decide), fA6 _ (by decide), fA5 _ (by decide), eA4, cpy_at hx, fA3 _ (by decide), fA2 _ (by decide), fA1 _ (by decide)]
    · show A9 22 x = I 6 x
      rw [f8 _ (by decide), fA7 _ (by decide), fA6 _ (by decide), eA5, cpy_at hx, fA4 _ (by decide), fA3 _ (by decide), fA2 _ (by decide), fA1 _ (by decide)]
    · show A9 23 x = I 7 x
      rw [f8 _ (by decide), fA7 _ (by decide), eA6, cpy_at hx, fA5 _ (by decide), fA4 _ (by decide), fA3 _ (by decide), fA2 _ (by decide), fA1 _ (by decide)]
    · show A9 24 x = I 8 x
      rw [f8 _ (by decide), eA7, cpy_at hx, fA6 _ (by decide), fA5 _ (by decide), fA4 _ (by decide), fA3 _ (by decide), fA2 _ (by decide), fA1 _ (by decide)]
  · rw [eA9, up_place (by decide), eA8, up_same, fA7 _ (by decide), fA6 _ (by decide), fA5 _ (by decide), fA4 _ (by decide), fA3 _ (by decide), fA2 _ (by decide), fA1 _ (by decide)]
  · rw [eA9, up_same, eA8, up_cell (by decide), fA7 _ (by decide), fA6 _ (by decide), fA5 _ (by decide), fA4 _ (by decide), fA3 _ (by decide), fA2 _ (by decide), fA1 _ (by decide)]
theorem c_become_1_17 {X : Nat × (Nat → Int32)} {d : Nat} {G : zG} (hS : SG G) (I : zI) : ∃ I1 : zI, Cv X (d + 1) 83 [.ref 1, .ref 17] G I (none, G, I1) ∧ (∀ c, ¬ (1 ≤ c ∧ c ≤ 8) → I1 c = I c) ∧ (∀ j, j < 7 → ∀ x, x < 4 → I1 (2 + j) x = I (18 + j) x) ∧ I1 1 7 = I 17 7 ∧ I1 1 8 = I 17 8 := by
  obtain ⟨A1, eA1⟩ : ∃ A1 : zI, A1 = va_up I 2 (va_cpy (I 18) (I 2) (0 : Int32).toNatClampNeg (0 : Int32).toNatClampNeg (4 : Int32).toNatClampNeg) := ⟨_, rfl⟩
  have fA1 : ∀ c, c ≠ 2 → A1 c = I c := fun c h => by rw [eA1]; exact va_up_ne _ _ h
  obtain ⟨A2, eA2⟩ : ∃ A2 : zI, A2 = va_up A1 3 (va_cpy (A1 19) (A1 3) (0 : Int32).toNatClampNeg (0 : Int32).toNatClampNeg (4 : Int32).toNatClampNeg) := ⟨_, rfl⟩
  have fA2 : ∀ c, c ≠ 3 → A2 c = A1 c := fun c h => by rw [eA2]; exact va_up_ne _ _ h
  obtain ⟨A3, eA3⟩ : ∃ A3 : zI, A3 = va_up A2 4 (va_cpy (A2 20) (A2 4) (0 : Int32).toNatClampNeg (0 : Int32).toNatClampNeg (4 : Int32).toNatClampNeg) := ⟨_, rfl⟩
  have fA3 : ∀ c, c ≠ 4 → A3 c = A2 c := fun c h => by rw [eA3]; exact va_up_ne _ _ h
  obtain ⟨A4, eA4⟩ : ∃ A4 : zI, A4 = va_up A3 5 (va_cpy (A3 21) (A3 5) (0 : Int32).toNatClampNeg (0 : Int32).toNatClampNeg (4 : Int32).toNatClampNeg) := ⟨_, rfl⟩
  have fA4 : ∀ c, c ≠ 5 → A4 c = A3 c := fun c h => by rw [eA4]; exact va_up_ne _ _ h
  obtain ⟨A5, eA5⟩ : ∃ A5 : zI, A5 = va_up A4 6 (va_cpy (A4 22) (A4 6) (0 : Int32).toNatClampNeg (0 : Int32).toNatClampNeg (4 : Int32).toNatClampNeg) := ⟨_, rfl⟩
  have fA5 : ∀ c, c ≠ 6 → A5 c = A4 c := fun c h => by rw [eA5]; exact va_up_ne _ _ h
  obtain ⟨A6, eA6⟩ : ∃ A6 : zI, A6 = va_up A5 7 (va_cpy (A5 23) (A5 7) (0 : Int32).toNatClampNeg (0 : Int32).toNatClampNeg (4 : Int32).toNatClampNeg) := ⟨_, rfl⟩
  have fA6 : ∀ c, c ≠ 7 → A6 c = A5 c := fun c h => by rw [eA6]; exact va_up_ne _ _ h
  obtain ⟨A7, eA7⟩ : ∃ A7 : zI, A7 = va_up A6 8 (va_cpy (A6 24) (A6 8) (0 : Int32).toNatClampNeg (0 : Int32).toNatClampNeg (4 : Int32).toNatClampNeg) := ⟨_, rfl⟩
  have fA7 : ∀ c, c ≠ 8 → A7 c = A6 c := fun c h => by rw [eA7]; exact va_up_ne _ _ h
  obtain ⟨A8, eA8⟩ : ∃ A8 : zI, A8 = z_up A7 1 7 (A7 17 7) := ⟨_, rfl⟩
  obtain ⟨A9, eA9⟩ : ∃ A9 : zI, A9 = z_up A8 1 8 (A8 17 8) := ⟨_, rfl⟩
  have lz : ∀ c, zLnL[c]? = some 4 → (0 : Int32).toNatClampNeg + (4 : Int32).toNatClampNeg ≤ zl G c := fun c h => by rw [SGl hS h]; decide
  have f8 : ∀ c, c ≠ 1 → A9 c = A7 c := fun c h => by rw [eA9, up_cell h, eA8, up_cell h]
  refine ⟨A9, Cv.of hq_83 (z_le rfl) rfl (wp_H_become_1_17 hS ?_), fun c h => ?_, fun j hj x hx => ?_, ?_, ?_⟩
  · have cc : ∀ p q, zLnL[p]? = some 4 → zLnL[q]? = some 4 → (0 ≤ (0 : Int32) ∧ 0 ≤ (0 : Int32) ∧ 0 ≤ (4 : Int32) ∧ (0 : Int32).toNatClampNeg + (4 : Int32).toNatClampNeg ≤ zl G p ∧ (0 : Int32).toNatClampNeg + (4 : Int32).toNatClampNeg ≤ zl G q) := fun p q h1 h2 => ⟨by decide, by decide, by decide, lz p h1, lz q h2⟩
    refine ⟨cc _ _ rfl rfl, fun B1 g1 => ?_⟩
    obtain rfl : B1 = A1 := g1.trans eA1.symm
    refine ⟨cc _ _ rfl rfl, fun B2 g2 => ?_⟩
    obtain rfl : B2 = A2 := g2.trans eA2.symm
    refine ⟨cc _ _ rfl rfl, fun B3 g3 => ?_⟩
    obtain rfl : B3 = A3 := g3.trans eA3.symm
    refine ⟨cc _ _ rfl rfl, fun B4 g4 => ?_⟩
    obtain rfl : B4 = A4 := g4.trans eA4.symm
    refine ⟨cc _ _ rfl rfl, fun B5 g5 => ?_⟩
    obtain rfl : B5 = A5 := g5.trans eA5.symm
    refine ⟨cc _ _ rfl rfl, fun B6 g6 => ?_⟩
    obtain rfl : B6 = A6 := g6.trans eA6.symm
    refine ⟨cc _ _ rfl rfl, fun B7 g7 => ?_⟩
    obtain rfl : B7 = A7 := g7.trans eA7.symm
    intro B8 g8
    obtain rfl : B8 = A8 := g8.trans eA8.symm
    intro B9 g9
    rw [g9, eA9]
  · rw [f8 c (by omega), fA7 c (by omega), fA6 c (by omega), fA5 c (by omega), fA4 c (by omega), fA3 c (by omega), fA2 c (by omega), fA1 c (by omega)]
  · have h7 : j = 0 ∨ j = 1 ∨ j = 2 ∨ j = 3 ∨ j = 4 ∨ j = 5 ∨ j = 6 := by omega
    rcases h7 with rfl | rfl | rfl | rfl | rfl | rfl | rfl
    · show A9 2 x = I 18 x
      rw [f8 _ (by decide), fA7 _ (by decide), fA6 _ (by decide), fA5 _ (by decide), fA4 _ (by decide), fA3 _ (by decide), fA2 _ (by decide), eA1, cpy_at hx]
    · show A9 3 x = I 19 x
      rw [f8 _ (by decide), fA7 _ (by decide), fA6 _ (by decide), fA5 _ (by decide), fA4 _ (by decide), fA3 _ (by decide), eA2, cpy_at hx, fA1 _ (by decide)]
    · show A9 4 x = I 20 x
      rw [f8 _ (by decide), fA7 _ (by decide), fA6 _ (by decide), fA5 _ (by decide), fA4 _ (by decide), eA3, cpy_at hx, fA2 _ (by decide), fA1 _ (by decide)]
    · show A9 5 x = I 21 x
      rw [f8 _ (by decide), fA7 _ (by decide), fA6 _ (by decide), fA5 _ (by decide), eA4, cpy_at hx, fA3 _ (by decide), fA2 _ (by decide), fA1 _ (by decide)]
    · show A9 6 x = I 22 x
      rw [f8 _ (by decide), fA7 _ (by decide), fA6 _ (by decide), eA5, cpy_at hx, fA4 _ (by decide), fA3 _ (by decide), fA2 _ (by decide), fA1 _ (by decide)]
    · show A9 7 x = I 23 x
      rw [f8 _ (by decide), fA7 _ (by decide), eA6, cpy_at hx, fA5 _ (by decide), fA4 _ (by decide), fA3 _ (by decide), fA2 _ (by decide), fA1 _ (by decide)]
    · show A9 8 x = I 24 x
      rw [f8 _ (by decide), eA7, cpy_at hx, fA6 _ (by decide), fA5 _ (by decide), fA4 _ (by decide), fA3 _ (by decide), fA2 _ (by decide), fA1 _ (by decide)]
  · rw [eA9, up_place (by decide), eA8, up_same, fA7 _ (by decide), fA6 _ (by decide), fA5 _ (by decide), fA4 _ (by decide), fA3 _ (by decide), fA2 _ (by decide), fA1 _ (by decide)]
  · rw [eA9, up_same, eA8, up_cell (by decide), fA7 _ (by decide), fA6 _ (by decide), fA5 _ (by decide), fA4 _ (by decide), fA3 _ (by decide), fA2 _ (by decide), fA1 _ (by decide)]
theorem wi_yes {k a b : Nat} (h1 : a ≤ k) (h2 : k ≤ b) (hb : b < 2147483648) : f_T_within (zi k) (zi a) (zi b) = 1 := by
  unfold f_T_within
  rw [if_neg (fun h => absurd ((zi_lt (by omega) (by omega)).1 h) (by omega)), if_neg (fun h => absurd ((zi_lt (by omega) (by omega)).1 h) (by omega))]
theorem wi_spec {v : Int32} {a b : Nat} (hb : b < 2147483648) (ha : a < 2147483648) (h : ¬ f_T_within v (zi a) (zi b) = 0) : ∃ k : Nat, a ≤ k ∧ k ≤ b ∧ v = zi k := by
  unfold f_T_within at h
  by_cases h1 : v < zi a
  · rw [if_pos h1] at h; exact absurd rfl h
  · rw [if_neg h1] at h
    by_cases h2 : zi b < v
    · rw [if_pos h2] at h; exact absurd rfl h
    · have q1 := z_lq.1 (Int32.not_lt.1 h1)
      have q2 := z_lq.1 (Int32.not_lt.1 h2)
      rw [zi_int (by omega)] at q1 q2
      have e := zi_of (x := v) (by omega)
      refine ⟨v.toNatClampNeg, ?_, ?_, e⟩
      · rw [e, zi_int (Int32.toNatClampNeg_lt v)] at q1; omega
      · rw [e, zi_int (Int32.toNatClampNeg_lt v)] at q2; omega
theorem wi_in (v a b : Int32) : f_Z_in v a b = f_T_within v a b := rfl
/-- the law of a household -/
theorem c_lawOf {X : Nat × (Nat → Int32)} {d : Nat} {G : zG} (hS : SG G) {o : Nat} (ho : HH G o) {I : zI} {r w : Nat} (hr : r < 6) (hI : I o 8 = zi r) (hw : zr G 43 r = some w) : Cv X (d + 2) 48 [.ref 0, .ref o] G I (some (.ref w), G, I) := by
  have e1 : f_T_within (zi r) 0 5 = 1 := wi_yes (a := 0) (b := 5) (by omega) (by omega) (by omega)
  have hc := c_T_within (X := X) (d := d + 1) (G := G) (I := I) (zi r) 0 5
  rw [e1] at hc
  have hin : z_inr (zi r) 6 := zi_inr (by omega) (by omega)
  refine Cv.of hq_48 (z_le rfl) rfl ?_
  refine Ev_aload_n hq_48 (show decode prog_1_method_9_code 0 = .ok (.aload_n 0, 1) by decide +kernel) rfl ?_
  refine Ev_getR hq_48 (show decode prog_1_method_9_code 1 = .ok (.getfield 42, 3) by decide +kernel) rfl (SGn hS (by decide)) (SGk hS rfl) (by decide) rfl (SGr hS rfl) ?_
  refine Ev_aload_n hq_48 (show decode prog_1_method_9_code 4 = .ok (.aload_n 1, 1) by decide +kernel) rfl ?_
  refine Ev_getI hq_48 (show decode prog_1_method_9_code 5 = .ok (.getfield 106, 3) by decide +kernel) rfl (VB.lt ho (by omega)) ho.2.1 (by decide) rfl ?_
  refine Ev_iconst (v := 0) hq_48 (show decode prog_1_method_9_code 8 = .ok (.iconst 0, 1) by decide +kernel) (by decide) ?_
  refine Ev_iconst (v := 5) hq_48 (show decode prog_1_method_9_code 9 = .ok (.iconst 5, 1) by decide +kernel) (by decide) ?_
  rw [hI]
  refine Ev_stat (as := [.int (zi r), .int 0, .int 5]) hq_48 (show decode prog_1_method_9_code 10 = .ok (.invokestatic 108, 3) by decide +kernel) rfl (Or.inl rfl) hq_32 rfl (z_le rfl) hc ?_
  refine Ev_if_eq (tgt := 23) hq_48 (show decode prog_1_method_9_code 13 = .ok (.ifCond .eq 10, 3) by decide +kernel) (by decide) (fun h => absurd h (by decide)) (fun _ => ?_)
  refine Ev_aload_n hq_48 (show decode prog_1_method_9_code 16 = .ok (.aload_n 1, 1) by decide +kernel) rfl ?_
  refine Ev_getI hq_48 (show decode prog_1_method_9_code 17 = .ok (.getfield 106, 3) by decide +kernel) rfl (VB.lt ho (by omega)) ho.2.1 (by decide) rfl ?_
  refine Ev_goto (tgt := 24) hq_48 (show decode prog_1_method_9_code 20 = .ok (.goto 4, 3) by decide +kernel) (by decide) ?_
  rw [hI]
  refine Ev_aald hq_48 (show decode prog_1_method_9_code 24 = .ok (.aaload, 1) by decide +kernel) (SGn hS (by decide)) (Or.inl (SGk hS rfl)) (SGi hS rfl hin) (by rw [zi_nat (by omega)]; exact hw) ?_
  exact Ev_aretO hq_48 (show decode prog_1_method_9_code 25 = .ok (.areturn, 1) by decide +kernel) rfl
