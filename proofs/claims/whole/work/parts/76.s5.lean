/-! THE CLASS'S FIRST 52 CELLS ALONE: its reader reads before there is a law or a reference -/
def zKd5 : List Nat := zKdL.take 52
def zLn5 : List Nat := zLnL.take 52
def S5 (G : zG) : Prop := 52 ≤ zn G ∧ (∀ a k : Nat, zKd5[a]? = some k → zk G a = k) ∧ (∀ a k : Nat, zLn5[a]? = some k → zl G a = k) ∧ ∀ a j b : Nat, a < 52 → zRf a j = some b → zr G a j = some b
theorem S5n {G : zG} (h : S5 G) {a : Nat} (ha : a < 52) : a < zn G := Nat.lt_of_lt_of_le ha h.1
theorem S5k {G : zG} (h : S5 G) {a k : Nat} (ha : zKd5[a]? = some k) : zk G a = k := h.2.1 a k ha
theorem S5l {G : zG} (h : S5 G) {a k : Nat} (ha : zLn5[a]? = some k) : zl G a = k := h.2.2.1 a k ha
theorem S5r {G : zG} (h : S5 G) {a j b : Nat} (ha : zRf a j = some b) (hl : a < 52 := by decide) : zr G a j = some b := h.2.2.2 a j b hl ha
theorem S5i {G : zG} (h : S5 G) {a k : Nat} (ha : zLn5[a]? = some k) {i : Int32} (hi : z_inr i k) : z_inr i (zl G a) := by rw [S5l h ha]; exact hi
theorem take_at {l : List Nat} {n a k : Nat} (h : (l.take n)[a]? = some k) : l[a]? = some k := by
  rw [List.getElem?_take] at h
  split at h
  · exact h
  · cases h
theorem SG.five {G : zG} (h : SG G) : S5 G := ⟨Nat.le_trans (by decide) h.1, fun a k ha => h.2.1 a k (take_at ha), fun a k ha => h.2.2.1 a k (take_at ha), fun a j b _ hr => h.2.2.2 a j b hr⟩
set_option maxRecDepth 20000 in
theorem w5_R_readNumber {X : Nat × (Nat → Int32)} {d : Nat} {G : zG} {I : zI} {res : Option Value × zG × zI}  (hS : S5 G) 
    (k : (∀ I1 : zI, I1 = z_up I 39 5 0 → Ev X d 20 7 [.ref 39, .int 0] [] G I1 res)) :
    Ev X d 20 0 [.ref 39, zU] [] G I res := by
  refine Ev_aload_n hq_20 (show decode prog_5_method_15_code 0 = .ok (.aload_n 0, 1) by decide +kernel) rfl ?_
  refine Ev_iconst (v := 0) hq_20 (show decode prog_5_method_15_code 1 = .ok (.iconst 0, 1) by decide +kernel) (by decide) ?_
  refine Ev_putI hq_20 (show decode prog_5_method_15_code 2 = .ok (.putfield 28, 3) by decide +kernel) rfl (S5n hS (by decide)) (S5k hS rfl) (by decide) (by decide) rfl (fun hz => by cases hz) ?_
  obtain ⟨I1, eI1⟩ : ∃ I1 : zI, I1 = z_up I 39 5 0 := ⟨_, rfl⟩
  have k := k I1 eI1
  rw [← eI1]
  refine Ev_iconst (v := 0) hq_20 (show decode prog_5_method_15_code 5 = .ok (.iconst 0, 1) by decide +kernel) (by decide) ?_
  refine Ev_istore_n (lo2 := [.ref 39, .int 0]) hq_20 (show decode prog_5_method_15_code 6 = .ok (.istore_n 1, 1) by decide +kernel) (z_le rfl) rfl ?_
  exact k
set_option maxRecDepth 20000 in
theorem w5_R_readNumber_7 {X : Nat × (Nat → Int32)} {d : Nat} {G : zG} {I : zI} {res : Option Value × zG × zI} (x1 : Int32) (hS : S5 G) 
    (k : (160 ≤ x1 → (((I 39 3) - (I 39 2)) ≤ 4 → (∀ I3 : zI, I3 = z_up I 39 4 2 → res = (none, G, I3))) ∧ (¬ ((I 39 3) - (I 39 2)) ≤ 4 → (∀ I4 : zI, I4 = z_up I 39 4 1 → res = (none, G, I4)))) ∧ (¬ 160 ≤ x1 → ((I 39 1) ≤ (I 39 3) → (((I 39 3) - (I 39 2)) ≤ 4 → (∀ I7 : zI, I7 = z_up I 39 4 2 → res = (none, G, I7))) ∧ (¬ ((I 39 3) - (I 39 2)) ≤ 4 → (∀ I8 : zI, I8 = z_up I 39 4 1 → res = (none, G, I8)))) ∧ (¬ (I 39 1) ≤ (I 39 3) → z_inr (I 39 3) 160 ∧ (((f_R_isDigit (I 44 (I 39 3).toNatClampNeg)) = 0 → (((I 39 3) - (I 39 2)) ≤ 4 → (∀ I12 : zI, I12 = z_up I 39 4 2 → res = (none, G, I12))) ∧ (¬ ((I 39 3) - (I 39 2)) ≤ 4 → (∀ I13 : zI, I13 = z_up I 39 4 1 → res = (none, G, I13)))) ∧ (¬ (f_R_isDigit (I 44 (I 39 3).toNatClampNeg)) = 0 → z_inr (I 39 3) 160 ∧ ((∀ I15 : zI, I15 = z_up I 39 5 ((((I 39 5) * 10) + (I 44 (I 39 3).toNatClampNeg)) - 48) → (∀ I16 : zI, I16 = z_up I15 39 3 ((I15 39 3) + 1) → ∀ y17 : Int32, y17 = x1 + 1 → Ev X (d + 1) 20 7 [.ref 39, .int y17] [] G I16 res)))))))) :
    Ev X (d + 1) 20 7 [.ref 39, .int x1] [] G I res := by
  refine Ev_iload_n hq_20 (show decode prog_5_method_15_code 7 = .ok (.iload_n 1, 1) by decide +kernel) rfl ?_
  refine Ev_sipush (v := 160) hq_20 (show decode prog_5_method_15_code 8 = .ok (.sipush 160, 3) by decide +kernel) (by decide) ?_
  refine Ev_icmp_ge (tgt := 80) hq_20 (show decode prog_5_method_15_code 11 = .ok (.if_icmp .ge 69, 3) by decide +kernel) (by decide) (fun c1 => ?_) (fun c1 => ?_)
  · have k := k.1 c1
    refine Ev_aload_n hq_20 (show decode prog_5_method_15_code 80 = .ok (.aload_n 0, 1) by decide +kernel) rfl ?_
    refine Ev_aload_n hq_20 (show decode prog_5_method_15_code 81 = .ok (.aload_n 0, 1) by decide +kernel) rfl ?_
    refine Ev_getI hq_20 (show decode prog_5_method_15_code 82 = .ok (.getfield 22, 3) by decide +kernel) rfl (S5n hS (by decide)) (S5k hS rfl) (by decide) rfl ?_
    refine Ev_aload_n hq_20 (show decode prog_5_method_15_code 85 = .ok (.aload_n 0, 1) by decide +kernel) rfl ?_
    refine Ev_getI hq_20 (show decode prog_5_method_15_code 86 = .ok (.getfield 19, 3) by decide +kernel) rfl (S5n hS (by decide)) (S5k hS rfl) (by decide) rfl ?_
    refine Ev_isub hq_20 (show decode prog_5_method_15_code 89 = .ok (.isub, 1) by decide +kernel) ?_
    refine Ev_iconst (v := 4) hq_20 (show decode prog_5_method_15_code 90 = .ok (.iconst 4, 1) by decide +kernel) (by decide) ?_
    refine Ev_icmp_le (tgt := 98) hq_20 (show decode prog_5_method_15_code 91 = .ok (.if_icmp .le 7, 3) by decide +kernel) (by decide) (fun c2 => ?_) (fun c2 => ?_)
    · have k := k.1 c2
      refine Ev_iconst (v := 2) hq_20 (show decode prog_5_method_15_code 98 = .ok (.iconst 2, 1) by decide +kernel) (by decide) ?_
      refine Ev_putI hq_20 (show decode prog_5_method_15_code 99 = .ok (.putfield 25, 3) by decide +kernel) rfl (S5n hS (by decide)) (S5k hS rfl) (by decide) (by decide) rfl (fun hz => by cases hz) ?_
      obtain ⟨I3, eI3⟩ : ∃ I3 : zI, I3 = z_up I 39 4 2 := ⟨_, rfl⟩
      have k := k I3 eI3
      rw [← eI3]
      exact Ev_vret hq_20 (show decode prog_5_method_15_code 102 = .ok (.return_, 1) by decide +kernel) k
    · have k := k.2 c2
      refine Ev_iconst (v := 1) hq_20 (show decode prog_5_method_15_code 94 = .ok (.iconst 1, 1) by decide +kernel) (by decide) ?_
      refine Ev_goto (tgt := 99) hq_20 (show decode prog_5_method_15_code 95 = .ok (.goto 4, 3) by decide +kernel) (by decide) ?_
      refine Ev_putI hq_20 (show decode prog_5_method_15_code 99 = .ok (.putfield 25, 3) by decide +kernel) rfl (S5n hS (by decide)) (S5k hS rfl) (by decide) (by decide) rfl (fun hz => by cases hz) ?_
      obtain ⟨I4, eI4⟩ : ∃ I4 : zI, I4 = z_up I 39 4 1 := ⟨_, rfl⟩
      have k := k I4 eI4
      rw [← eI4]
      exact Ev_vret hq_20 (show decode prog_5_method_15_code 102 = .ok (.return_, 1) by decide +kernel) k
  · have k := k.2 c1
    refine Ev_aload_n hq_20 (show decode prog_5_method_15_code 14 = .ok (.aload_n 0, 1) by decide +kernel) rfl ?_
    refine Ev_getI hq_20 (show decode prog_5_method_15_code 15 = .ok (.getfield 22, 3) by decide +kernel) rfl (S5n hS (by decide)) (S5k hS rfl) (by decide) rfl ?_
    refine Ev_aload_n hq_20 (show decode prog_5_method_15_code 18 = .ok (.aload_n 0, 1) by decide +kernel) rfl ?_
    refine Ev_getI hq_20 (show decode prog_5_method_15_code 19 = .ok (.getfield 15, 3) by decide +kernel) rfl (S5n hS (by decide)) (S5k hS rfl) (by decide) rfl ?_
    refine Ev_icmp_ge (tgt := 80) hq_20 (show decode prog_5_method_15_code 22 = .ok (.if_icmp .ge 58, 3) by decide +kernel) (by decide) (fun c5 => ?_) (fun c5 => ?_)
    · have k := k.1 c5
      refine Ev_aload_n hq_20 (show decode prog_5_method_15_code 80 = .ok (.aload_n 0, 1) by decide +kernel) rfl ?_
      refine Ev_aload_n hq_20 (show decode prog_5_method_15_code 81 = .ok (.aload_n 0, 1) by decide +kernel) rfl ?_
      refine Ev_getI hq_20 (show decode prog_5_method_15_code 82 = .ok (.getfield 22, 3) by decide +kernel) rfl (S5n hS (by decide)) (S5k hS rfl) (by decide) rfl ?_
      refine Ev_aload_n hq_20 (show decode prog_5_method_15_code 85 = .ok (.aload_n 0, 1) by decide +kernel) rfl ?_
      refine Ev_getI hq_20 (show decode prog_5_method_15_code 86 = .ok (.getfield 19, 3) by decide +kernel) rfl (S5n hS (by decide)) (S5k hS rfl) (by decide) rfl ?_
      refine Ev_isub hq_20 (show decode prog_5_method_15_code 89 = .ok (.isub, 1) by decide +kernel) ?_
      refine Ev_iconst (v := 4) hq_20 (show decode prog_5_method_15_code 90 = .ok (.iconst 4, 1) by decide +kernel) (by decide) ?_
      refine Ev_icmp_le (tgt := 98) hq_20 (show decode prog_5_method_15_code 91 = .ok (.if_icmp .le 7, 3) by decide +kernel) (by decide) (fun c6 => ?_) (fun c6 => ?_)
      · have k := k.1 c6
        refine Ev_iconst (v := 2) hq_20 (show decode prog_5_method_15_code 98 = .ok (.iconst 2, 1) by decide +kernel) (by decide) ?_
        refine Ev_putI hq_20 (show decode prog_5_method_15_code 99 = .ok (.putfield 25, 3) by decide +kernel) rfl (S5n hS (by decide)) (S5k hS rfl) (by decide) (by decide) rfl (fun hz => by cases hz) ?_
        obtain ⟨I7, eI7⟩ : ∃ I7 : zI, I7 = z_up I 39 4 2 := ⟨_, rfl⟩
        have k := k I7 eI7
        rw [← eI7]
        exact Ev_vret hq_20 (show decode prog_5_method_15_code 102 = .ok (.return_, 1) by decide +kernel) k
      · have k := k.2 c6
        refine Ev_iconst (v := 1) hq_20 (show decode prog_5_method_15_code 94 = .ok (.iconst 1, 1) by decide +kernel) (by decide) ?_
        refine Ev_goto (tgt := 99) hq_20 (show decode prog_5_method_15_code 95 = .ok (.goto 4, 3) by decide +kernel) (by decide) ?_
        refine Ev_putI hq_20 (show decode prog_5_method_15_code 99 = .ok (.putfield 25, 3) by decide +kernel) rfl (S5n hS (by decide)) (S5k hS rfl) (by decide) (by decide) rfl (fun hz => by cases hz) ?_
        obtain ⟨I8, eI8⟩ : ∃ I8 : zI, I8 = z_up I 39 4 1 := ⟨_, rfl⟩
        have k := k I8 eI8
        rw [← eI8]
        exact Ev_vret hq_20 (show decode prog_5_method_15_code 102 = .ok (.return_, 1) by decide +kernel) k
    · have k := k.2 c5
      refine Ev_aload_n hq_20 (show decode prog_5_method_15_code 25 = .ok (.aload_n 0, 1) by decide +kernel) rfl ?_
      refine Ev_getR hq_20 (show decode prog_5_method_15_code 26 = .ok (.getfield 9, 3) by decide +kernel) rfl (S5n hS (by decide)) (S5k hS rfl) (by decide) rfl (S5r hS rfl) ?_
      refine Ev_aload_n hq_20 (show decode prog_5_method_15_code 29 = .ok (.aload_n 0, 1) by decide +kernel) rfl ?_
      refine Ev_getI hq_20 (show decode prog_5_method_15_code 30 = .ok (.getfield 22, 3) by decide +kernel) rfl (S5n hS (by decide)) (S5k hS rfl) (by decide) rfl ?_
      obtain ⟨h9, k⟩ := k
      refine Ev_iald hq_20 (show decode prog_5_method_15_code 33 = .ok (.iaload, 1) by decide +kernel) (S5n hS (by decide)) (S5k hS rfl) (S5i hS rfl h9) ?_
      refine Ev_stat (as := [.int (I 44 (I 39 3).toNatClampNeg)]) hq_20 (show decode prog_5_method_15_code 34 = .ok (.invokestatic 118, 3) by decide +kernel) rfl (Or.inl rfl) hq_19 rfl (z_le rfl) (c_R_isDigit (I 44 (I 39 3).toNatClampNeg)) ?_
      refine Ev_if_eq (tgt := 80) hq_20 (show decode prog_5_method_15_code 37 = .ok (.ifCond .eq 43, 3) by decide +kernel) (by decide) (fun c10 => ?_) (fun c10 => ?_)
      · have k := k.1 c10
        refine Ev_aload_n hq_20 (show decode prog_5_method_15_code 80 = .ok (.aload_n 0, 1) by decide +kernel) rfl ?_
        refine Ev_aload_n hq_20 (show decode prog_5_method_15_code 81 = .ok (.aload_n 0, 1) by decide +kernel) rfl ?_
        refine Ev_getI hq_20 (show decode prog_5_method_15_code 82 = .ok (.getfield 22, 3) by decide +kernel) rfl (S5n hS (by decide)) (S5k hS rfl) (by decide) rfl ?_
        refine Ev_aload_n hq_20 (show decode prog_5_method_15_code 85 = .ok (.aload_n 0, 1) by decide +kernel) rfl ?_
        refine Ev_getI hq_20 (show decode prog_5_method_15_code 86 = .ok (.getfield 19, 3) by decide +kernel) rfl (S5n hS (by decide)) (S5k hS rfl) (by decide) rfl ?_
        refine Ev_isub hq_20 (show decode prog_5_method_15_code 89 = .ok (.isub, 1) by decide +kernel) ?_
        refine Ev_iconst (v := 4) hq_20 (show decode prog_5_method_15_code 90 = .ok (.iconst 4, 1) by decide +kernel) (by decide) ?_
        refine Ev_icmp_le (tgt := 98) hq_20 (show decode prog_5_method_15_code 91 = .ok (.if_icmp .le 7, 3) by decide +kernel) (by decide) (fun c11 => ?_) (fun c11 => ?_)
        · have k := k.1 c11
          refine Ev_iconst (v := 2) hq_20 (show decode prog_5_method_15_code 98 = .ok (.iconst 2, 1) by decide +kernel) (by decide) ?_
          refine Ev_putI hq_20 (show decode prog_5_method_15_code 99 = .ok (.putfield 25, 3) by decide +kernel) rfl (S5n hS (by decide)) (S5k hS rfl) (by decide) (by decide) rfl (fun hz => by cases hz) ?_
          obtain ⟨I12, eI12⟩ : ∃ I12 : zI, I12 = z_up I 39 4 2 := ⟨_, rfl⟩
          have k := k I12 eI12
          rw [← eI12]
          exact Ev_vret hq_20 (show decode prog_5_method_15_code 102 = .ok (.return_, 1) by decide +kernel) k
        · have k := k.2 c11
          refine Ev_iconst (v := 1) hq_20 (show decode prog_5_method_15_code 94 = .ok (.iconst 1, 1) by decide +kernel) (by decide) ?_
          refine Ev_goto (tgt := 99) hq_20 (show decode prog_5_method_15_code 95 = .ok (.goto 4, 3) by decide +kernel) (by decide) ?_
          refine Ev_putI hq_20 (show decode prog_5_method_15_code 99 = .ok (.putfield 25, 3) by decide +kernel) rfl (S5n hS (by decide)) (S5k hS rfl) (by decide) (by decide) rfl (fun hz => by cases hz) ?_
          obtain ⟨I13, eI13⟩ : ∃ I13 : zI, I13 = z_up I 39 4 1 := ⟨_, rfl⟩
          have k := k I13 eI13
          rw [← eI13]
          exact Ev_vret hq_20 (show decode prog_5_method_15_code 102 = .ok (.return_, 1) by decide +kernel) k
      · have k := k.2 c10
        refine Ev_aload_n hq_20 (show decode prog_5_method_15_code 40 = .ok (.aload_n 0, 1) by decide +kernel) rfl ?_
        refine Ev_aload_n hq_20 (show decode prog_5_method_15_code 41 = .ok (.aload_n 0, 1) by decide +kernel) rfl ?_
        refine Ev_getI hq_20 (show decode prog_5_method_15_code 42 = .ok (.getfield 28, 3) by decide +kernel) rfl (S5n hS (by decide)) (S5k hS rfl) (by decide) rfl ?_
        refine Ev_bipush (v := 10) hq_20 (show decode prog_5_method_15_code 45 = .ok (.bipush 10, 2) by decide +kernel) (by decide) ?_
        refine Ev_imul hq_20 (show decode prog_5_method_15_code 47 = .ok (.imul, 1) by decide +kernel) ?_
        refine Ev_aload_n hq_20 (show decode prog_5_method_15_code 48 = .ok (.aload_n 0, 1) by decide +kernel) rfl ?_
        refine Ev_getR hq_20 (show decode prog_5_method_15_code 49 = .ok (.getfield 9, 3) by decide +kernel) rfl (S5n hS (by decide)) (S5k hS rfl) (by decide) rfl (S5r hS rfl) ?_
        refine Ev_aload_n hq_20 (show decode prog_5_method_15_code 52 = .ok (.aload_n 0, 1) by decide +kernel) rfl ?_
        refine Ev_getI hq_20 (show decode prog_5_method_15_code 53 = .ok (.getfield 22, 3) by decide +kernel) rfl (S5n hS (by decide)) (S5k hS rfl) (by decide) rfl ?_
        obtain ⟨h14, k⟩ := k
        refine Ev_iald hq_20 (show decode prog_5_method_15_code 56 = .ok (.iaload, 1) by decide +kernel) (S5n hS (by decide)) (S5k hS rfl) (S5i hS rfl h14) ?_
        refine Ev_iadd hq_20 (show decode prog_5_method_15_code 57 = .ok (.iadd, 1) by decide +kernel) ?_
        refine Ev_bipush (v := 48) hq_20 (show decode prog_5_method_15_code 58 = .ok (.bipush 48, 2) by decide +kernel) (by decide) ?_
        refine Ev_isub hq_20 (show decode prog_5_method_15_code 60 = .ok (.isub, 1) by decide +kernel) ?_
        refine Ev_putI hq_20 (show decode prog_5_method_15_code 61 = .ok (.putfield 28, 3) by decide +kernel) rfl (S5n hS (by decide)) (S5k hS rfl) (by decide) (by decide) rfl (fun hz => by cases hz) ?_
        obtain ⟨I15, eI15⟩ : ∃ I15 : zI, I15 = z_up I 39 5 ((((I 39 5) * 10) + (I 44 (I 39 3).toNatClampNeg)) - 48) := ⟨_, rfl⟩
        have k := k I15 eI15
        rw [← eI15]
        refine Ev_aload_n hq_20 (show decode prog_5_method_15_code 64 = .ok (.aload_n 0, 1) by decide +kernel) rfl ?_
        refine Ev_dup hq_20 (show decode prog_5_method_15_code 65 = .ok (.dup, 1) by decide +kernel) rfl ?_
        refine Ev_getI hq_20 (show decode prog_5_method_15_code 66 = .ok (.getfield 22, 3) by decide +kernel) rfl (S5n hS (by decide)) (S5k hS rfl) (by decide) rfl ?_
        refine Ev_iconst (v := 1) hq_20 (show decode prog_5_method_15_code 69 = .ok (.iconst 1, 1) by decide +kernel) (by decide) ?_
        refine Ev_iadd hq_20 (show decode prog_5_method_15_code 70 = .ok (.iadd, 1) by decide +kernel) ?_
        refine Ev_putI hq_20 (show decode prog_5_method_15_code 71 = .ok (.putfield 22, 3) by decide +kernel) rfl (S5n hS (by decide)) (S5k hS rfl) (by decide) (by decide) rfl (fun hz => by cases hz) ?_
        obtain ⟨I16, eI16⟩ : ∃ I16 : zI, I16 = z_up I15 39 3 ((I15 39 3) + 1) := ⟨_, rfl⟩
        have k := k I16 eI16
        rw [← eI16]
        obtain ⟨y17, ey17⟩ : ∃ y17 : Int32, y17 = x1 + 1 := ⟨_, rfl⟩
        have k := k y17 ey17
        refine Ev_iinc (v := y17) (lo2 := [.ref 39, .int y17]) hq_20 (show decode prog_5_method_15_code 74 = .ok (.iinc 1 1, 3) by decide +kernel) rfl (by rw [ey17]; rfl) rfl ?_
        refine Ev_goto (tgt := 7) hq_20 (show decode prog_5_method_15_code 77 = .ok (.goto (-70), 3) by decide +kernel) (by decide) ?_
        exact k
set_option maxRecDepth 20000 in
theorem w5_R_wordHere {X : Nat × (Nat → Int32)} {d : Nat} {G : zG} {I : zI} {res : Option Value × zG × zI}  (hS : S5 G) 
    (k : ∃ (r3 : Int32) (I1 : zI), Cv X d 18 [.ref 39, .retAddr (3 + 1)] G I (some (.int r3), G, I1) ∧ ((r3 = 0 → ∃ (r7 : Int32) (I5 : zI), Cv X d 18 [.ref 39, .retAddr (4 + 1)] G I1 (some (.int r7), G, I5) ∧ ((r7 = 0 → ∃ (r11 : Int32) (I9 : zI), Cv X d 18 [.ref 39, .retAddr (5 + 1)] G I5 (some (.int r11), G, I9) ∧ ((r11 = 0 → ∃ (r15 : Int32) (I13 : zI), Cv X d 18 [.ref 39, .retAddr (6 + 1)] G I9 (some (.int r15), G, I13) ∧ ((r15 = 0 → ∃ (r19 : Int32) (I17 : zI), Cv X d 18 [.ref 39, .retAddr (7 + 1)] G I13 (some (.int r19), G, I17) ∧ ((r19 = 0 → ∃ (r23 : Int32) (I21 : zI), Cv X d 18 [.ref 39, .retAddr (8 + 1)] G I17 (some (.int r23), G, I21) ∧ ((r23 = 0 → ∃ (r27 : Int32) (I25 : zI), Cv X d 18 [.ref 39, .retAddr (9 + 1)] G I21 (some (.int r27), G, I25) ∧ ((r27 = 0 → ∃ (r31 : Int32) (I29 : zI), Cv X d 18 [.ref 39, .retAddr (10 + 1)] G I25 (some (.int r31), G, I29) ∧ ((r31 = 0 → ∃ (r35 : Int32) (I33 : zI), Cv X d 18 [.ref 39, .retAddr (11 + 1)] G I29 (some (.int r35), G, I33) ∧ ((r35 = 0 → ∃ (r39 : Int32) (I37 : zI), Cv X d 18 [.ref 39, .retAddr (12 + 1)] G I33 (some (.int r39), G, I37) ∧ ((r39 = 0 → ∃ (r43 : Int32) (I41 : zI), Cv X d 18 [.ref 39, .retAddr (13 + 1)] G I37 (some (.int r43), G, I41) ∧ ((r43 = 0 → ∃ (r47 : Int32) (I45 : zI), Cv X d 18 [.ref 39, .retAddr (14 + 1)] G I41 (some (.int r47), G, I45) ∧ ((r47 = 0 → res = (some (.int 1), G, I45)) ∧ (¬ r47 = 0 → res = (some (.int 22), G, I45)))) ∧ (¬ r43 = 0 → res = (some (.int 21), G, I41)))) ∧ (¬ r39 = 0 → res = (some (.int 20), G, I37)))) ∧ (¬ r35 = 0 → res = (some (.int 19), G, I33)))) ∧ (¬ r31 = 0 → res = (some (.int 18), G, I29)))) ∧ (¬ r27 = 0 → res = (some (.int 17), G, I25)))) ∧ (¬ r23 = 0 → res = (some (.int 16), G, I21)))) ∧ (¬ r19 = 0 → res = (some (.int 15), G, I17)))) ∧ (¬ r15 = 0 → res = (some (.int 14), G, I13)))) ∧ (¬ r11 = 0 → res = (some (.int 13), G, I9)))) ∧ (¬ r7 = 0 → res = (some (.int 12), G, I5)))) ∧ (¬ r3 = 0 → res = (some (.int 11), G, I1)))) :
    Ev X (d + 1) 17 0 [.ref 39] [] G I res := by
  refine Ev_aload_n hq_17 (show decode prog_5_method_20_code 0 = .ok (.aload_n 0, 1) by decide +kernel) rfl ?_
  refine Ev_ldcs hq_17 (show decode prog_5_method_20_code 1 = .ok (.ldc 128, 2) by decide +kernel) rfl rfl ?_
  obtain ⟨r3, I1, h2, k⟩ := k
  refine Ev_virt (as := [.retAddr (3 + 1)]) hq_17 (show decode prog_5_method_20_code 3 = .ok (.invokevirtual 130, 3) by decide +kernel) rfl hq_18 rfl (z_le rfl) ⟨(S5n hS (by decide)), (S5k hS rfl), by decide⟩ h2 ?_
  refine Ev_if_eq (tgt := 12) hq_17 (show decode prog_5_method_20_code 6 = .ok (.ifCond .eq 6, 3) by decide +kernel) (by decide) (fun c4 => ?_) (fun c4 => ?_)
  · have k := k.1 c4
    refine Ev_aload_n hq_17 (show decode prog_5_method_20_code 12 = .ok (.aload_n 0, 1) by decide +kernel) rfl ?_
    refine Ev_ldcs hq_17 (show decode prog_5_method_20_code 13 = .ok (.ldc 134, 2) by decide +kernel) rfl rfl ?_
    obtain ⟨r7, I5, h6, k⟩ := k
    refine Ev_virt (as := [.retAddr (4 + 1)]) hq_17 (show decode prog_5_method_20_code 15 = .ok (.invokevirtual 130, 3) by decide +kernel) rfl hq_18 rfl (z_le rfl) ⟨(S5n hS (by decide)), (S5k hS rfl), by decide⟩ h6 ?_
    refine Ev_if_eq (tgt := 24) hq_17 (show decode prog_5_method_20_code 18 = .ok (.ifCond .eq 6, 3) by decide +kernel) (by decide) (fun c8 => ?_) (fun c8 => ?_)
    · have k := k.1 c8
      refine Ev_aload_n hq_17 (show decode prog_5_method_20_code 24 = .ok (.aload_n 0, 1) by decide +kernel) rfl ?_
      refine Ev_ldcs hq_17 (show decode prog_5_method_20_code 25 = .ok (.ldc 136, 2) by decide +kernel) rfl rfl ?_
      obtain ⟨r11, I9, h10, k⟩ := k
      refine Ev_virt (as := [.retAddr (5 + 1)]) hq_17 (show decode prog_5_method_20_code 27 = .ok (.invokevirtual 130, 3) by decide +kernel) rfl hq_18 rfl (z_le rfl) ⟨(S5n hS (by decide)), (S5k hS rfl), by decide⟩ h10 ?_
      refine Ev_if_eq (tgt := 36) hq_17 (show decode prog_5_method_20_code 30 = .ok (.ifCond .eq 6, 3) by decide +kernel) (by decide) (fun c12 => ?_) (fun c12 => ?_)
      · have k := k.1 c12
        refine Ev_aload_n hq_17 (show decode prog_5_method_20_code 36 = .ok (.aload_n 0, 1) by decide +kernel) rfl ?_
        refine Ev_ldcs hq_17 (show decode prog_5_method_20_code 37 = .ok (.ldc 138, 2) by decide +kernel) rfl rfl ?_
        obtain ⟨r15, I13, h14, k⟩ := k
        refine Ev_virt (as := [.retAddr (6 + 1)]) hq_17 (show decode prog_5_method_20_code 39 = .ok (.invokevirtual 130, 3) by decide +kernel) rfl hq_18 rfl (z_le rfl) ⟨(S5n hS (by decide)), (S5k hS rfl), by decide⟩ h14 ?_
        refine Ev_if_eq (tgt := 48) hq_17 (show decode prog_5_method_20_code 42 = .ok (.ifCond .eq 6, 3) by decide +kernel) (by decide) (fun c16 => ?_) (fun c16 => ?_)
        · have k := k.1 c16
          refine Ev_aload_n hq_17 (show decode prog_5_method_20_code 48 = .ok (.aload_n 0, 1) by decide +kernel) rfl ?_
          refine Ev_ldcs hq_17 (show decode prog_5_method_20_code 49 = .ok (.ldc 140, 2) by decide +kernel) rfl rfl ?_
          obtain ⟨r19, I17, h18, k⟩ := k
          refine Ev_virt (as := [.retAddr (7 + 1)]) hq_17 (show decode prog_5_method_20_code 51 = .ok (.invokevirtual 130, 3) by decide +kernel) rfl hq_18 rfl (z_le rfl) ⟨(S5n hS (by decide)), (S5k hS rfl), by decide⟩ h18 ?_
          refine Ev_if_eq (tgt := 60) hq_17 (show decode prog_5_method_20_code 54 = .ok (.ifCond .eq 6, 3) by decide +kernel) (by decide) (fun c20 => ?_) (fun c20 => ?_)
          · have k := k.1 c20
            refine Ev_aload_n hq_17 (show decode prog_5_method_20_code 60 = .ok (.aload_n 0, 1) by decide +kernel) rfl ?_
            refine Ev_ldcs hq_17 (show decode prog_5_method_20_code 61 = .ok (.ldc 142, 2) by decide +kernel) rfl rfl ?_
            obtain ⟨r23, I21, h22, k⟩ := k
            refine Ev_virt (as := [.retAddr (8 + 1)]) hq_17 (show decode prog_5_method_20_code 63 = .ok (.invokevirtual 130, 3) by decide +kernel) rfl hq_18 rfl (z_le rfl) ⟨(S5n hS (by decide)), (S5k hS rfl), by decide⟩ h22 ?_
            refine Ev_if_eq (tgt := 72) hq_17 (show decode prog_5_method_20_code 66 = .ok (.ifCond .eq 6, 3) by decide +kernel) (by decide) (fun c24 => ?_) (fun c24 => ?_)
            · have k := k.1 c24
              refine Ev_aload_n hq_17 (show decode prog_5_method_20_code 72 = .ok (.aload_n 0, 1) by decide +kernel) rfl ?_
              refine Ev_ldcs hq_17 (show decode prog_5_method_20_code 73 = .ok (.ldc 144, 2) by decide +kernel) rfl rfl ?_
              obtain ⟨r27, I25, h26, k⟩ := k
              refine Ev_virt (as := [.retAddr (9 + 1)]) hq_17 (show decode prog_5_method_20_code 75 = .ok (.invokevirtual 130, 3) by decide +kernel) rfl hq_18 rfl (z_le rfl) ⟨(S5n hS (by decide)), (S5k hS rfl), by decide⟩ h26 ?_
              refine Ev_if_eq (tgt := 84) hq_17 (show decode prog_5_method_20_code 78 = .ok (.ifCond .eq 6, 3) by decide +kernel) (by decide) (fun c28 => ?_) (fun c28 => ?_)
              · have k := k.1 c28
                refine Ev_aload_n hq_17 (show decode prog_5_method_20_code 84 = .ok (.aload_n 0, 1) by decide +kernel) rfl ?_
                refine Ev_ldcs hq_17 (show decode prog_5_method_20_code 85 = .ok (.ldc 146, 2) by decide +kernel) rfl rfl ?_
                obtain ⟨r31, I29, h30, k⟩ := k
                refine Ev_virt (as := [.retAddr (10 + 1)]) hq_17 (show decode prog_5_method_20_code 87 = .ok (.invokevirtual 130, 3) by decide +kernel) rfl hq_18 rfl (z_le rfl) ⟨(S5n hS (by decide)), (S5k hS rfl), by decide⟩ h30 ?_
                refine Ev_if_eq (tgt := 96) hq_17 (show decode prog_5_method_20_code 90 = .ok (.ifCond .eq 6, 3) by decide +kernel) (by decide) (fun c32 => ?_) (fun c32 => ?_)
                · have k := k.1 c32
                  refine Ev_aload_n hq_17 (show decode prog_5_method_20_code 96 = .ok (.aload_n 0, 1) by decide +kernel) rfl ?_
                  refine Ev_ldcs hq_17 (show decode prog_5_method_20_code 97 = .ok (.ldc 148, 2) by decide +kernel) rfl rfl ?_
                  obtain ⟨r35, I33, h34, k⟩ := k
                  refine Ev_virt (as := [.retAddr (11 + 1)]) hq_17 (show decode prog_5_method_20_code 99 = .ok (.invokevirtual 130, 3) by decide +kernel) rfl hq_18 rfl (z_le rfl) ⟨(S5n hS (by decide)), (S5k hS rfl), by decide⟩ h34 ?_
                  refine Ev_if_eq (tgt := 108) hq_17 (show decode prog_5_method_20_code 102 = .ok (.ifCond .eq 6, 3) by decide +kernel) (by decide) (fun c36 => ?_) (fun c36 => ?_)
                  · have k := k.1 c36
                    refine Ev_aload_n hq_17 (show decode prog_5_method_20_code 108 = .ok (.aload_n 0, 1) by decide +kernel) rfl ?_
                    refine Ev_ldcs hq_17 (show decode prog_5_method_20_code 109 = .ok (.ldc 150, 2) by decide +kernel) rfl rfl ?_
                    obtain ⟨r39, I37, h38, k⟩ := k
                    refine Ev_virt (as := [.retAddr (12 + 1)]) hq_17 (show decode prog_5_method_20_code 111 = .ok (.invokevirtual 130, 3) by decide +kernel) rfl hq_18 rfl (z_le rfl) ⟨(S5n hS (by decide)), (S5k hS rfl), by decide⟩ h38 ?_
                    refine Ev_if_eq (tgt := 120) hq_17 (show decode prog_5_method_20_code 114 = .ok (.ifCond .eq 6, 3) by decide +kernel) (by decide) (fun c40 => ?_) (fun c40 => ?_)
                    · have k := k.1 c40
                      refine Ev_aload_n hq_17 (show decode prog_5_method_20_code 120 = .ok (.aload_n 0, 1) by decide +kernel) rfl ?_
                      refine Ev_ldcs hq_17 (show decode prog_5_method_20_code 121 = .ok (.ldc 152, 2) by decide +kernel) rfl rfl ?_
                      obtain ⟨r43, I41, h42, k⟩ := k
                      refine Ev_virt (as := [.retAddr (13 + 1)]) hq_17 (show decode prog_5_method_20_code 123 = .ok (.invokevirtual 130, 3) by decide +kernel) rfl hq_18 rfl (z_le rfl) ⟨(S5n hS (by decide)), (S5k hS rfl), by decide⟩ h42 ?_
                      refine Ev_if_eq (tgt := 132) hq_17 (show decode prog_5_method_20_code 126 = .ok (.ifCond .eq 6, 3) by decide +kernel) (by decide) (fun c44 => ?_) (fun c44 => ?_)
                      · have k := k.1 c44
                        refine Ev_aload_n hq_17 (show decode prog_5_method_20_code 132 = .ok (.aload_n 0, 1) by decide +kernel) rfl ?_
                        refine Ev_ldcs hq_17 (show decode prog_5_method_20_code 133 = .ok (.ldc 154, 2) by decide +kernel) rfl rfl ?_
                        obtain ⟨r47, I45, h46, k⟩ := k
                        refine Ev_virt (as := [.retAddr (14 + 1)]) hq_17 (show decode prog_5_method_20_code 135 = .ok (.invokevirtual 130, 3) by decide +kernel) rfl hq_18 rfl (z_le rfl) ⟨(S5n hS (by decide)), (S5k hS rfl), by decide⟩ h46 ?_
                        refine Ev_if_eq (tgt := 146) hq_17 (show decode prog_5_method_20_code 138 = .ok (.ifCond .eq 8, 3) by decide +kernel) (by decide) (fun c48 => ?_) (fun c48 => ?_)
                        · have k := k.1 c48
                          refine Ev_iconst (v := 1) hq_17 (show decode prog_5_method_20_code 146 = .ok (.iconst 1, 1) by decide +kernel) (by decide) ?_
                          exact Ev_iret hq_17 (show decode prog_5_method_20_code 147 = .ok (.ireturn, 1) by decide +kernel) rfl k
                        · have k := k.2 c48
                          refine Ev_bipush (v := 22) hq_17 (show decode prog_5_method_20_code 141 = .ok (.bipush 22, 2) by decide +kernel) (by decide) ?_
                          refine Ev_goto (tgt := 147) hq_17 (show decode prog_5_method_20_code 143 = .ok (.goto 4, 3) by decide +kernel) (by decide) ?_
                          exact Ev_iret hq_17 (show decode prog_5_method_20_code 147 = .ok (.ireturn, 1) by decide +kernel) rfl k
                      · have k := k.2 c44
                        refine Ev_bipush (v := 21) hq_17 (show decode prog_5_method_20_code 129 = .ok (.bipush 21, 2) by decide +kernel) (by decide) ?_
                        exact Ev_iret hq_17 (show decode prog_5_method_20_code 131 = .ok (.ireturn, 1) by decide +kernel) rfl k
                    · have k := k.2 c40
                      refine Ev_bipush (v := 20) hq_17 (show decode prog_5_method_20_code 117 = .ok (.bipush 20, 2) by decide +kernel) (by decide) ?_
                      exact Ev_iret hq_17 (show decode prog_5_method_20_code 119 = .ok (.ireturn, 1) by decide +kernel) rfl k
                  · have k := k.2 c36
                    refine Ev_bipush (v := 19) hq_17 (show decode prog_5_method_20_code 105 = .ok (.bipush 19, 2) by decide +kernel) (by decide) ?_
                    exact Ev_iret hq_17 (show decode prog_5_method_20_code 107 = .ok (.ireturn, 1) by decide +kernel) rfl k
                · have k := k.2 c32
                  refine Ev_bipush (v := 18) hq_17 (show decode prog_5_method_20_code 93 = .ok (.bipush 18, 2) by decide +kernel) (by decide) ?_
                  exact Ev_iret hq_17 (show decode prog_5_method_20_code 95 = .ok (.ireturn, 1) by decide +kernel) rfl k
              · have k := k.2 c28
                refine Ev_bipush (v := 17) hq_17 (show decode prog_5_method_20_code 81 = .ok (.bipush 17, 2) by decide +kernel) (by decide) ?_
                exact Ev_iret hq_17 (show decode prog_5_method_20_code 83 = .ok (.ireturn, 1) by decide +kernel) rfl k
            · have k := k.2 c24
              refine Ev_bipush (v := 16) hq_17 (show decode prog_5_method_20_code 69 = .ok (.bipush 16, 2) by decide +kernel) (by decide) ?_
              exact Ev_iret hq_17 (show decode prog_5_method_20_code 71 = .ok (.ireturn, 1) by decide +kernel) rfl k
          · have k := k.2 c20
            refine Ev_bipush (v := 15) hq_17 (show decode prog_5_method_20_code 57 = .ok (.bipush 15, 2) by decide +kernel) (by decide) ?_
            exact Ev_iret hq_17 (show decode prog_5_method_20_code 59 = .ok (.ireturn, 1) by decide +kernel) rfl k
        · have k := k.2 c16
          refine Ev_bipush (v := 14) hq_17 (show decode prog_5_method_20_code 45 = .ok (.bipush 14, 2) by decide +kernel) (by decide) ?_
          exact Ev_iret hq_17 (show decode prog_5_method_20_code 47 = .ok (.ireturn, 1) by decide +kernel) rfl k
      · have k := k.2 c12
        refine Ev_bipush (v := 13) hq_17 (show decode prog_5_method_20_code 33 = .ok (.bipush 13, 2) by decide +kernel) (by decide) ?_
        exact Ev_iret hq_17 (show decode prog_5_method_20_code 35 = .ok (.ireturn, 1) by decide +kernel) rfl k
    · have k := k.2 c8
      refine Ev_bipush (v := 12) hq_17 (show decode prog_5_method_20_code 21 = .ok (.bipush 12, 2) by decide +kernel) (by decide) ?_
      exact Ev_iret hq_17 (show decode prog_5_method_20_code 23 = .ok (.ireturn, 1) by decide +kernel) rfl k
  · have k := k.2 c4
    refine Ev_bipush (v := 11) hq_17 (show decode prog_5_method_20_code 9 = .ok (.bipush 11, 2) by decide +kernel) (by decide) ?_
    exact Ev_iret hq_17 (show decode prog_5_method_20_code 11 = .ok (.ireturn, 1) by decide +kernel) rfl k
set_option maxRecDepth 20000 in
theorem w5_R_advance {X : Nat × (Nat → Int32)} {d : Nat} {G : zG} {I : zI} {res : Option Value × zG × zI}  (hS : S5 G) 
    (k : (∀ I1 : zI, I1 = z_up I 39 2 (I 39 3) → Ev X d 14 10 [.ref 39, .int 0] [] G I1 res)) :
    Ev X d 14 0 [.ref 39, zU] [] G I res := by
  refine Ev_aload_n hq_14 (show decode prog_5_method_14_code 0 = .ok (.aload_n 0, 1) by decide +kernel) rfl ?_
  refine Ev_aload_n hq_14 (show decode prog_5_method_14_code 1 = .ok (.aload_n 0, 1) by decide +kernel) rfl ?_
  refine Ev_getI hq_14 (show decode prog_5_method_14_code 2 = .ok (.getfield 22, 3) by decide +kernel) rfl (S5n hS (by decide)) (S5k hS rfl) (by decide) rfl ?_
  refine Ev_putI hq_14 (show decode prog_5_method_14_code 5 = .ok (.putfield 19, 3) by decide +kernel) rfl (S5n hS (by decide)) (S5k hS rfl) (by decide) (by decide) rfl (fun hz => by cases hz) ?_
  obtain ⟨I1, eI1⟩ : ∃ I1 : zI, I1 = z_up I 39 2 (I 39 3) := ⟨_, rfl⟩
  have k := k I1 eI1
  rw [← eI1]
  refine Ev_iconst (v := 0) hq_14 (show decode prog_5_method_14_code 8 = .ok (.iconst 0, 1) by decide +kernel) (by decide) ?_
  refine Ev_istore_n (lo2 := [.ref 39, .int 0]) hq_14 (show decode prog_5_method_14_code 9 = .ok (.istore_n 1, 1) by decide +kernel) (z_le rfl) rfl ?_
  exact k
set_option maxRecDepth 20000 in
theorem w5_R_advance_10 {X : Nat × (Nat → Int32)} {d : Nat} {G : zG} {I : zI} {res : Option Value × zG × zI} (x1 : Int32) (hS : S5 G) 
    (k : (160 ≤ x1 → (∀ I2 : zI, I2 = z_up I 39 3 (I 39 2) → ((I2 39 2) < (I2 39 1) → z_inr (I2 39 2) 160 ∧ (((f_R_isLetter (I2 44 (I2 39 2).toNatClampNeg)) = 0 → z_inr (I2 39 2) 160 ∧ (((f_R_isDigit (I2 44 (I2 39 2).toNatClampNeg)) = 0 → z_inr (I2 39 2) 160 ∧ ((∀ I9 : zI, I9 = z_up I2 39 4 (f_R_signOf (I2 44 (I2 39 2).toNatClampNeg)) → (∀ I10 : zI, I10 = z_up I9 39 3 ((I9 39 2) + 1) → res = (none, G, I10))))) ∧ (¬ (f_R_isDigit (I2 44 (I2 39 2).toNatClampNeg)) = 0 → ∃ (I11 : zI), Cv X d 20 [.ref 39] G I2 (none, G, I11) ∧ (res = (none, G, I11))))) ∧ (¬ (f_R_isLetter (I2 44 (I2 39 2).toNatClampNeg)) = 0 → Ev X (d + 1) 14 103 [.ref 39, .int 0] [] G I2 res))) ∧ (¬ (I2 39 2) < (I2 39 1) → (∀ I13 : zI, I13 = z_up I2 39 4 0 → res = (none, G, I13))))) ∧ (¬ 160 ≤ x1 → ((I 39 1) ≤ (I 39 2) → (∀ I15 : zI, I15 = z_up I 39 3 (I 39 2) → ((I15 39 2) < (I15 39 1) → z_inr (I15 39 2) 160 ∧ (((f_R_isLetter (I15 44 (I15 39 2).toNatClampNeg)) = 0 → z_inr (I15 39 2) 160 ∧ (((f_R_isDigit (I15 44 (I15 39 2).toNatClampNeg)) = 0 → z_inr (I15 39 2) 160 ∧ ((∀ I22 : zI, I22 = z_up I15 39 4 (f_R_signOf (I15 44 (I15 39 2).toNatClampNeg)) → (∀ I23 : zI, I23 = z_up I22 39 3 ((I22 39 2) + 1) → res = (none, G, I23))))) ∧ (¬ (f_R_isDigit (I15 44 (I15 39 2).toNatClampNeg)) = 0 → ∃ (I24 : zI), Cv X d 20 [.ref 39] G I15 (none, G, I24) ∧ (res = (none, G, I24))))) ∧ (¬ (f_R_isLetter (I15 44 (I15 39 2).toNatClampNeg)) = 0 → Ev X (d + 1) 14 103 [.ref 39, .int 0] [] G I15 res))) ∧ (¬ (I15 39 2) < (I15 39 1) → (∀ I26 : zI, I26 = z_up I15 39 4 0 → res = (none, G, I26))))) ∧ (¬ (I 39 1) ≤ (I 39 2) → z_inr (I 39 2) 160 ∧ (((f_R_isBlank (I 44 (I 39 2).toNatClampNeg)) = 0 → (∀ I29 : zI, I29 = z_up I 39 3 (I 39 2) → ((I29 39 2) < (I29 39 1) → z_inr (I29 39 2) 160 ∧ (((f_R_isLetter (I29 44 (I29 39 2).toNatClampNeg)) = 0 → z_inr (I29 39 2) 160 ∧ (((f_R_isDigit (I29 44 (I29 39 2).toNatClampNeg)) = 0 → z_inr (I29 39 2) 160 ∧ ((∀ I36 : zI, I36 = z_up I29 39 4 (f_R_signOf (I29 44 (I29 39 2).toNatClampNeg)) → (∀ I37 : zI, I37 = z_up I36 39 3 ((I36 39 2) + 1) → res = (none, G, I37))))) ∧ (¬ (f_R_isDigit (I29 44 (I29 39 2).toNatClampNeg)) = 0 → ∃ (I38 : zI), Cv X d 20 [.ref 39] G I29 (none, G, I38) ∧ (res = (none, G, I38))))) ∧ (¬ (f_R_isLetter (I29 44 (I29 39 2).toNatClampNeg)) = 0 → Ev X (d + 1) 14 103 [.ref 39, .int 0] [] G I29 res))) ∧ (¬ (I29 39 2) < (I29 39 1) → (∀ I40 : zI, I40 = z_up I29 39 4 0 → res = (none, G, I40))))) ∧ (¬ (f_R_isBlank (I 44 (I 39 2).toNatClampNeg)) = 0 → (∀ I41 : zI, I41 = z_up I 39 2 ((I 39 2) + 1) → ∀ y42 : Int32, y42 = x1 + 1 → Ev X (d + 1) 14 10 [.ref 39, .int y42] [] G I41 res)))))) :
    Ev X (d + 1) 14 10 [.ref 39, .int x1] [] G I res := by
  refine Ev_iload_n hq_14 (show decode prog_5_method_14_code 10 = .ok (.iload_n 1, 1) by decide +kernel) rfl ?_
  refine Ev_sipush (v := 160) hq_14 (show decode prog_5_method_14_code 11 = .ok (.sipush 160, 3) by decide +kernel) (by decide) ?_
  refine Ev_icmp_ge (tgt := 59) hq_14 (show decode prog_5_method_14_code 14 = .ok (.if_icmp .ge 45, 3) by decide +kernel) (by decide) (fun c1 => ?_) (fun c1 => ?_)
  · have k := k.1 c1
    refine Ev_aload_n hq_14 (show decode prog_5_method_14_code 59 = .ok (.aload_n 0, 1) by decide +kernel) rfl ?_
    refine Ev_aload_n hq_14 (show decode prog_5_method_14_code 60 = .ok (.aload_n 0, 1) by decide +kernel) rfl ?_
    refine Ev_getI hq_14 (show decode prog_5_method_14_code 61 = .ok (.getfield 19, 3) by decide +kernel) rfl (S5n hS (by decide)) (S5k hS rfl) (by decide) rfl ?_
    refine Ev_putI hq_14 (show decode prog_5_method_14_code 64 = .ok (.putfield 22, 3) by decide +kernel) rfl (S5n hS (by decide)) (S5k hS rfl) (by decide) (by decide) rfl (fun hz => by cases hz) ?_
    obtain ⟨I2, eI2⟩ : ∃ I2 : zI, I2 = z_up I 39 3 (I 39 2) := ⟨_, rfl⟩
    have k := k I2 eI2
    rw [← eI2]
    refine Ev_aload_n hq_14 (show decode prog_5_method_14_code 67 = .ok (.aload_n 0, 1) by decide +kernel) rfl ?_
    refine Ev_getI hq_14 (show decode prog_5_method_14_code 68 = .ok (.getfield 19, 3) by decide +kernel) rfl (S5n hS (by decide)) (S5k hS rfl) (by decide) rfl ?_
    refine Ev_aload_n hq_14 (show decode prog_5_method_14_code 71 = .ok (.aload_n 0, 1) by decide +kernel) rfl ?_
    refine Ev_getI hq_14 (show decode prog_5_method_14_code 72 = .ok (.getfield 15, 3) by decide +kernel) rfl (S5n hS (by decide)) (S5k hS rfl) (by decide) rfl ?_
    refine Ev_icmp_lt (tgt := 86) hq_14 (show decode prog_5_method_14_code 75 = .ok (.if_icmp .lt 11, 3) by decide +kernel) (by decide) (fun c3 => ?_) (fun c3 => ?_)
    · have k := k.1 c3
      refine Ev_aload_n hq_14 (show decode prog_5_method_14_code 86 = .ok (.aload_n 0, 1) by decide +kernel) rfl ?_
      refine Ev_getR hq_14 (show decode prog_5_method_14_code 87 = .ok (.getfield 9, 3) by decide +kernel) rfl (S5n hS (by decide)) (S5k hS rfl) (by decide) rfl (S5r hS rfl) ?_
      refine Ev_aload_n hq_14 (show decode prog_5_method_14_code 90 = .ok (.aload_n 0, 1) by decide +kernel) rfl ?_
      refine Ev_getI hq_14 (show decode prog_5_method_14_code 91 = .ok (.getfield 19, 3) by decide +kernel) rfl (S5n hS (by decide)) (S5k hS rfl) (by decide) rfl ?_
      obtain ⟨h4, k⟩ := k
      refine Ev_iald hq_14 (show decode prog_5_method_14_code 94 = .ok (.iaload, 1) by decide +kernel) (S5n hS (by decide)) (S5k hS rfl) (S5i hS rfl h4) ?_
      refine Ev_stat (as := [.int (I2 44 (I2 39 2).toNatClampNeg)]) hq_14 (show decode prog_5_method_14_code 95 = .ok (.invokestatic 111, 3) by decide +kernel) rfl (Or.inl rfl) hq_16 rfl (z_le rfl) (c_R_isLetter (I2 44 (I2 39 2).toNatClampNeg)) ?_
      refine Ev_if_eq (tgt := 163) hq_14 (show decode prog_5_method_14_code 98 = .ok (.ifCond .eq 65, 3) by decide +kernel) (by decide) (fun c5 => ?_) (fun c5 => ?_)
      · have k := k.1 c5
        refine Ev_aload_n hq_14 (show decode prog_5_method_14_code 163 = .ok (.aload_n 0, 1) by decide +kernel) rfl ?_
        refine Ev_getR hq_14 (show decode prog_5_method_14_code 164 = .ok (.getfield 9, 3) by decide +kernel) rfl (S5n hS (by decide)) (S5k hS rfl) (by decide) rfl (S5r hS rfl) ?_
        refine Ev_aload_n hq_14 (show decode prog_5_method_14_code 167 = .ok (.aload_n 0, 1) by decide +kernel) rfl ?_
        refine Ev_getI hq_14 (show decode prog_5_method_14_code 168 = .ok (.getfield 19, 3) by decide +kernel) rfl (S5n hS (by decide)) (S5k hS rfl) (by decide) rfl ?_
        obtain ⟨h6, k⟩ := k
        refine Ev_iald hq_14 (show decode prog_5_method_14_code 171 = .ok (.iaload, 1) by decide +kernel) (S5n hS (by decide)) (S5k hS rfl) (S5i hS rfl h6) ?_
        refine Ev_stat (as := [.int (I2 44 (I2 39 2).toNatClampNeg)]) hq_14 (show decode prog_5_method_14_code 172 = .ok (.invokestatic 118, 3) by decide +kernel) rfl (Or.inl rfl) hq_19 rfl (z_le rfl) (c_R_isDigit (I2 44 (I2 39 2).toNatClampNeg)) ?_
        refine Ev_if_eq (tgt := 185) hq_14 (show decode prog_5_method_14_code 175 = .ok (.ifCond .eq 10, 3) by decide +kernel) (by decide) (fun c7 => ?_) (fun c7 => ?_)
        · have k := k.1 c7
          refine Ev_aload_n hq_14 (show decode prog_5_method_14_code 185 = .ok (.aload_n 0, 1) by decide +kernel) rfl ?_
          refine Ev_aload_n hq_14 (show decode prog_5_method_14_code 186 = .ok (.aload_n 0, 1) by decide +kernel) rfl ?_
          refine Ev_getR hq_14 (show decode prog_5_method_14_code 187 = .ok (.getfield 9, 3) by decide +kernel) rfl (S5n hS (by decide)) (S5k hS rfl) (by decide) rfl (S5r hS rfl) ?_
          refine Ev_aload_n hq_14 (show decode prog_5_method_14_code 190 = .ok (.aload_n 0, 1) by decide +kernel) rfl ?_
          refine Ev_getI hq_14 (show decode prog_5_method_14_code 191 = .ok (.getfield 19, 3) by decide +kernel) rfl (S5n hS (by decide)) (S5k hS rfl) (by decide) rfl ?_
          obtain ⟨h8, k⟩ := k
          refine Ev_iald hq_14 (show decode prog_5_method_14_code 194 = .ok (.iaload, 1) by decide +kernel) (S5n hS (by decide)) (S5k hS rfl) (S5i hS rfl h8) ?_
          refine Ev_stat (as := [.int (I2 44 (I2 39 2).toNatClampNeg)]) hq_14 (show decode prog_5_method_14_code 195 = .ok (.invokestatic 124, 3) by decide +kernel) rfl (Or.inl rfl) hq_21 rfl (z_le rfl) (c_R_signOf (I2 44 (I2 39 2).toNatClampNeg)) ?_
          refine Ev_putI hq_14 (show decode prog_5_method_14_code 198 = .ok (.putfield 25, 3) by decide +kernel) rfl (S5n hS (by decide)) (S5k hS rfl) (by decide) (by decide) rfl (fun hz => by cases hz) ?_
          obtain ⟨I9, eI9⟩ : ∃ I9 : zI, I9 = z_up I2 39 4 (f_R_signOf (I2 44 (I2 39 2).toNatClampNeg)) := ⟨_, rfl⟩
          have k := k I9 eI9
          rw [← eI9]
          refine Ev_aload_n hq_14 (show decode prog_5_method_14_code 201 = .ok (.aload_n 0, 1) by decide +kernel) rfl ?_
          refine Ev_aload_n hq_14 (show decode prog_5_method_14_code 202 = .ok (.aload_n 0, 1) by decide +kernel) rfl ?_
          refine Ev_getI hq_14 (show decode prog_5_method_14_code 203 = .ok (.getfield 19, 3) by decide +kernel) rfl (S5n hS (by decide)) (S5k hS rfl) (by decide) rfl ?_
          refine Ev_iconst (v := 1) hq_14 (show decode prog_5_method_14_code 206 = .ok (.iconst 1, 1) by decide +kernel) (by decide) ?_
          refine Ev_iadd hq_14 (show decode prog_5_method_14_code 207 = .ok (.iadd, 1) by decide +kernel) ?_
          refine Ev_putI hq_14 (show decode prog_5_method_14_code 208 = .ok (.putfield 22, 3) by decide +kernel) rfl (S5n hS (by decide)) (S5k hS rfl) (by decide) (by decide) rfl (fun hz => by cases hz) ?_
          obtain ⟨I10, eI10⟩ : ∃ I10 : zI, I10 = z_up I9 39 3 ((I9 39 2) + 1) := ⟨_, rfl⟩
          have k := k I10 eI10
          rw [← eI10]
          exact Ev_vret hq_14 (show decode prog_5_method_14_code 211 = .ok (.return_, 1) by decide +kernel) k
        · have k := k.2 c7
          refine Ev_aload_n hq_14 (show decode prog_5_method_14_code 178 = .ok (.aload_n 0, 1) by decide +kernel) rfl ?_
          obtain ⟨I11, h12, k⟩ := k
          refine Ev_virt (as := []) hq_14 (show decode prog_5_method_14_code 179 = .ok (.invokevirtual 121, 3) by decide +kernel) rfl hq_20 rfl (z_le rfl) ⟨(S5n hS (by decide)), (S5k hS rfl), by decide⟩ h12 ?_
          refine Ev_goto (tgt := 211) hq_14 (show decode prog_5_method_14_code 182 = .ok (.goto 29, 3) by decide +kernel) (by decide) ?_
          exact Ev_vret hq_14 (show decode prog_5_method_14_code 211 = .ok (.return_, 1) by decide +kernel) k
      · have k := k.2 c5
        refine Ev_iconst (v := 0) hq_14 (show decode prog_5_method_14_code 101 = .ok (.iconst 0, 1) by decide +kernel) (by decide) ?_
        refine Ev_istore_n (lo2 := [.ref 39, .int 0]) hq_14 (show decode prog_5_method_14_code 102 = .ok (.istore_n 1, 1) by decide +kernel) (z_le rfl) rfl ?_
        exact k
    · have k := k.2 c3
      refine Ev_aload_n hq_14 (show decode prog_5_method_14_code 78 = .ok (.aload_n 0, 1) by decide +kernel) rfl ?_
      refine Ev_iconst (v := 0) hq_14 (show decode prog_5_method_14_code 79 = .ok (.iconst 0, 1) by decide +kernel) (by decide) ?_
      refine Ev_putI hq_14 (show decode prog_5_method_14_code 80 = .ok (.putfield 25, 3) by decide +kernel) rfl (S5n hS (by decide)) (S5k hS rfl) (by decide) (by decide) rfl (fun hz => by cases hz) ?_
      obtain ⟨I13, eI13⟩ : ∃ I13 : zI, I13 = z_up I2 39 4 0 := ⟨_, rfl⟩
      have k := k I13 eI13
      rw [← eI13]
      refine Ev_goto (tgt := 211) hq_14 (show decode prog_5_method_14_code 83 = .ok (.goto 128, 3) by decide +kernel) (by decide) ?_
      exact Ev_vret hq_14 (show decode prog_5_method_14_code 211 = .ok (.return_, 1) by decide +kernel) k
  · have k := k.2 c1
    refine Ev_aload_n hq_14 (show decode prog_5_method_14_code 17 = .ok (.aload_n 0, 1) by decide +kernel) rfl ?_
    refine Ev_getI hq_14 (show decode prog_5_method_14_code 18 = .ok (.getfield 19, 3) by decide +kernel) rfl (S5n hS (by decide)) (S5k hS rfl) (by decide) rfl ?_
    refine Ev_aload_n hq_14 (show decode prog_5_method_14_code 21 = .ok (.aload_n 0, 1) by decide +kernel) rfl ?_
    refine Ev_getI hq_14 (show decode prog_5_method_14_code 22 = .ok (.getfield 15, 3) by decide +kernel) rfl (S5n hS (by decide)) (S5k hS rfl) (by decide) rfl ?_
    refine Ev_icmp_ge (tgt := 59) hq_14 (show decode prog_5_method_14_code 25 = .ok (.if_icmp .ge 34, 3) by decide +kernel) (by decide) (fun c14 => ?_) (fun c14 => ?_)
    · have k := k.1 c14
      refine Ev_aload_n hq_14 (show decode prog_5_method_14_code 59 = .ok (.aload_n 0, 1) by decide +kernel) rfl ?_
      refine Ev_aload_n hq_14 (show decode prog_5_method_14_code 60 = .ok (.aload_n 0, 1) by decide +kernel) rfl ?_
      refine Ev_getI hq_14 (show decode prog_5_method_14_code 61 = .ok (.getfield 19, 3) by decide +kernel) rfl (S5n hS (by decide)) (S5k hS rfl) (by decide) rfl ?_
      refine Ev_putI hq_14 (show decode prog_5_method_14_code 64 = .ok (.putfield 22, 3) by decide +kernel) rfl (S5n hS (by decide)) (S5k hS rfl) (by decide) (by decide) rfl (fun hz => by cases hz) ?_
      obtain ⟨I15, eI15⟩ : ∃ I15 : zI, I15 = z_up I 39 3 (I 39 2) := ⟨_, rfl⟩
      have k := k I15 eI15
      rw [← eI15]
      refine Ev_aload_n hq_14 (show decode prog_5_method_14_code 67 = .ok (.aload_n 0, 1) by decide +kernel) rfl ?_
      refine Ev_getI hq_14 (show decode prog_5_method_14_code 68 = .ok (.getfield 19, 3) by decide +kernel) rfl (S5n hS (by decide)) (S5k hS rfl) (by decide) rfl ?_
      refine Ev_aload_n hq_14 (show decode prog_5_method_14_code 71 = .ok (.aload_n 0, 1) by decide +kernel) rfl ?_
      refine Ev_getI hq_14 (show decode prog_5_method_14_code 72 = .ok (.getfield 15, 3) by decide +kernel) rfl (S5n hS (by decide)) (S5k hS rfl) (by decide) rfl ?_
      refine Ev_icmp_lt (tgt := 86) hq_14 (show decode prog_5_method_14_code 75 = .ok (.if_icmp .lt 11, 3) by decide +kernel) (by decide) (fun c16 => ?_) (fun c16 => ?_)
      · have k := k.1 c16
        refine Ev_aload_n hq_14 (show decode prog_5_method_14_code 86 = .ok (.aload_n 0, 1) by decide +kernel) rfl ?_
        refine Ev_getR hq_14 (show decode prog_5_method_14_code 87 = .ok (.getfield 9, 3) by decide +kernel) rfl (S5n hS (by decide)) (S5k hS rfl) (by decide) rfl (S5r hS rfl) ?_
        refine Ev_aload_n hq_14 (show decode prog_5_method_14_code 90 = .ok (.aload_n 0, 1) by decide +kernel) rfl ?_
        refine Ev_getI hq_14 (show decode prog_5_method_14_code 91 = .ok (.getfield 19, 3) by decide +kernel) rfl (S5n hS (by decide)) (S5k hS rfl) (by decide) rfl ?_
        obtain ⟨h17, k⟩ := k
        refine Ev_iald hq_14 (show decode prog_5_method_14_code 94 = .ok (.iaload, 1) by decide +kernel) (S5n hS (by decide)) (S5k hS rfl) (S5i hS rfl h17) ?_
        refine Ev_stat (as := [.int (I15 44 (I15 39 2).toNatClampNeg)]) hq_14 (show decode prog_5_method_14_code 95 = .ok (.invokestatic 111, 3) by decide +kernel) rfl (Or.inl rfl) hq_16 rfl (z_le rfl) (c_R_isLetter (I15 44 (I15 39 2).toNatClampNeg)) ?_
        refine Ev_if_eq (tgt := 163) hq_14 (show decode prog_5_method_14_code 98 = .ok (.ifCond .eq 65, 3) by decide +kernel) (by decide) (fun c18 => ?_) (fun c18 => ?_)
        · have k := k.1 c18
          refine Ev_aload_n hq_14 (show decode prog_5_method_14_code 163 = .ok (.aload_n 0, 1) by decide +kernel) rfl ?_
          refine Ev_getR hq_14 (show decode prog_5_method_14_code 164 = .ok (.getfield 9, 3) by decide +kernel) rfl (S5n hS (by decide)) (S5k hS rfl) (by decide) rfl (S5r hS rfl) ?_
          refine Ev_aload_n hq_14 (show decode prog_5_method_14_code 167 = .ok (.aload_n 0, 1) by decide +kernel) rfl ?_
          refine Ev_getI hq_14 (show decode prog_5_method_14_code 168 = .ok (.getfield 19, 3) by decide +kernel) rfl (S5n hS (by decide)) (S5k hS rfl) (by decide) rfl ?_
          obtain ⟨h19, k⟩ := k
          refine Ev_iald hq_14 (show decode prog_5_method_14_code 171 = .ok (.iaload, 1) by decide +kernel) (S5n hS (by decide)) (S5k hS rfl) (S5i hS rfl h19) ?_
          refine Ev_stat (as := [.int (I15 44 (I15 39 2).toNatClampNeg)]) hq_14 (show decode prog_5_method_14_code 172 = .ok (.invokestatic 118, 3) by decide +kernel) rfl (Or.inl rfl) hq_19 rfl (z_le rfl) (c_R_isDigit (I15 44 (I15 39 2).toNatClampNeg)) ?_
          refine Ev_if_eq (tgt := 185) hq_14 (show decode prog_5_method_14_code 175 = .ok (.ifCond .eq 10, 3) by decide +kernel) (by decide) (fun c20 => ?_) (fun c20 => ?_)
          · have k := k.1 c20
            refine Ev_aload_n hq_14 (show decode prog_5_method_14_code 185 = .ok (.aload_n 0, 1) by decide +kernel) rfl ?_
            refine Ev_aload_n hq_14 (show decode prog_5_method_14_code 186 = .ok (.aload_n 0, 1) by decide +kernel) rfl ?_
            refine Ev_getR hq_14 (show decode prog_5_method_14_code 187 = .ok (.getfield 9, 3) by decide +kernel) rfl (S5n hS (by decide)) (S5k hS rfl) (by decide) rfl (S5r hS rfl) ?_
            refine Ev_aload_n hq_14 (show decode prog_5_method_14_code 190 = .ok (.aload_n 0, 1) by decide +kernel) rfl ?_
            refine Ev_getI hq_14 (show decode prog_5_method_14_code 191 = .ok (.getfield 19, 3) by decide +kernel) rfl (S5n hS (by decide)) (S5k hS rfl) (by decide) rfl ?_
            obtain ⟨h21, k⟩ := k
            refine Ev_iald hq_14 (show decode prog_5_method_14_code 194 = .ok (.iaload, 1) by decide +kernel) (S5n hS (by decide)) (S5k hS rfl) (S5i hS rfl h21) ?_
            refine Ev_stat (as := [.int (I15 44 (I15 39 2).toNatClampNeg)]) hq_14 (show decode prog_5_method_14_code 195 = .ok (.invokestatic 124, 3) by decide +kernel) rfl (Or.inl rfl) hq_21 rfl (z_le rfl) (c_R_signOf (I15 44 (I15 39 2).toNatClampNeg)) ?_
            refine Ev_putI hq_14 (show decode prog_5_method_14_code 198 = .ok (.putfield 25, 3) by decide +kernel) rfl (S5n hS (by decide)) (S5k hS rfl) (by decide) (by decide) rfl (fun hz => by cases hz) ?_
            obtain ⟨I22, eI22⟩ : ∃ I22 : zI, I22 = z_up I15 39 4 (f_R_signOf (I15 44 (I15 39 2).toNatClampNeg)) := ⟨_, rfl⟩
            have k := k I22 eI22
            rw [← eI22]
            refine Ev_aload_n hq_14 (show decode prog_5_method_14_code 201 = .ok (.aload_n 0, 1) by decide +kernel) rfl ?_
            refine Ev_aload_n hq_14 (show decode prog_5_method_14_code 202 = .ok (.aload_n 0, 1) by decide +kernel) rfl ?_
            refine Ev_getI hq_14 (show decode prog_5_method_14_code 203 = .ok (.getfield 19, 3) by decide +kernel) rfl (S5n hS (by decide)) (S5k hS rfl) (by decide) rfl ?_
            refine Ev_iconst (v := 1) hq_14 (show decode prog_5_method_14_code 206 = .ok (.iconst 1, 1) by decide +kernel) (by decide) ?_
            refine Ev_iadd hq_14 (show decode prog_5_method_14_code 207 = .ok (.iadd, 1) by decide +kernel) ?_
            refine Ev_putI hq_14 (show decode prog_5_method_14_code 208 = .ok (.putfield 22, 3) by decide +kernel) rfl (S5n hS (by decide)) (S5k hS rfl) (by decide) (by decide) rfl (fun hz => by cases hz) ?_
            obtain ⟨I23, eI23⟩ : ∃ I23 : zI, I23 = z_up I22 39 3 ((I22 39 2) + 1) := ⟨_, rfl⟩
            have k := k I23 eI23
            rw [← eI23]
            exact Ev_vret hq_14 (show decode prog_5_method_14_code 211 = .ok (.return_, 1) by decide +kernel) k
          · have k := k.2 c20
            refine Ev_aload_n hq_14 (show decode prog_5_method_14_code 178 = .ok (.aload_n 0, 1) by decide +kernel) rfl ?_
            obtain ⟨I24, h25, k⟩ := k
            refine Ev_virt (as := []) hq_14 (show decode prog_5_method_14_code 179 = .ok (.invokevirtual 121, 3) by decide +kernel) rfl hq_20 rfl (z_le rfl) ⟨(S5n hS (by decide)), (S5k hS rfl), by decide⟩ h25 ?_
            refine Ev_goto (tgt := 211) hq_14 (show decode prog_5_method_14_code 182 = .ok (.goto 29, 3) by decide +kernel) (by decide) ?_
            exact Ev_vret hq_14 (show decode prog_5_method_14_code 211 = .ok (.return_, 1) by decide +kernel) k
        · have k := k.2 c18
          refine Ev_iconst (v := 0) hq_14 (show decode prog_5_method_14_code 101 = .ok (.iconst 0, 1) by decide +kernel) (by decide) ?_
          refine Ev_istore_n (lo2 := [.ref 39, .int 0]) hq_14 (show decode prog_5_method_14_code 102 = .ok (.istore_n 1, 1) by decide +kernel) (z_le rfl) rfl ?_
          exact k
      · have k := k.2 c16
        refine Ev_aload_n hq_14 (show decode prog_5_method_14_code 78 = .ok (.aload_n 0, 1) by decide +kernel) rfl ?_
        refine Ev_iconst (v := 0) hq_14 (show decode prog_5_method_14_code 79 = .ok (.iconst 0, 1) by decide +kernel) (by decide) ?_
        refine Ev_putI hq_14 (show decode prog_5_method_14_code 80 = .ok (.putfield 25, 3) by decide +kernel) rfl (S5n hS (by decide)) (S5k hS rfl) (by decide) (by decide) rfl (fun hz => by cases hz) ?_
        obtain ⟨I26, eI26⟩ : ∃ I26 : zI, I26 = z_up I15 39 4 0 := ⟨_, rfl⟩
        have k := k I26 eI26
        rw [← eI26]
        refine Ev_goto (tgt := 211) hq_14 (show decode prog_5_method_14_code 83 = .ok (.goto 128, 3) by decide +kernel) (by decide) ?_
        exact Ev_vret hq_14 (show decode prog_5_method_14_code 211 = .ok (.return_, 1) by decide +kernel) k
    · have k := k.2 c14
      refine Ev_aload_n hq_14 (show decode prog_5_method_14_code 28 = .ok (.aload_n 0, 1) by decide +kernel) rfl ?_
      refine Ev_getR hq_14 (show decode prog_5_method_14_code 29 = .ok (.getfield 9, 3) by decide +kernel) rfl (S5n hS (by decide)) (S5k hS rfl) (by decide) rfl (S5r hS rfl) ?_
      refine Ev_aload_n hq_14 (show decode prog_5_method_14_code 32 = .ok (.aload_n 0, 1) by decide +kernel) rfl ?_
      refine Ev_getI hq_14 (show decode prog_5_method_14_code 33 = .ok (.getfield 19, 3) by decide +kernel) rfl (S5n hS (by decide)) (S5k hS rfl) (by decide) rfl ?_
      obtain ⟨h27, k⟩ := k
      refine Ev_iald hq_14 (show decode prog_5_method_14_code 36 = .ok (.iaload, 1) by decide +kernel) (S5n hS (by decide)) (S5k hS rfl) (S5i hS rfl h27) ?_
      refine Ev_stat (as := [.int (I 44 (I 39 2).toNatClampNeg)]) hq_14 (show decode prog_5_method_14_code 37 = .ok (.invokestatic 108, 3) by decide +kernel) rfl (Or.inl rfl) hq_15 rfl (z_le rfl) (c_R_isBlank (I 44 (I 39 2).toNatClampNeg)) ?_
      refine Ev_if_eq (tgt := 59) hq_14 (show decode prog_5_method_14_code 40 = .ok (.ifCond .eq 19, 3) by decide +kernel) (by decide) (fun c28 => ?_) (fun c28 => ?_)
      · have k := k.1 c28
        refine Ev_aload_n hq_14 (show decode prog_5_method_14_code 59 = .ok (.aload_n 0, 1) by decide +kernel) rfl ?_
        refine Ev_aload_n hq_14 (show decode prog_5_method_14_code 60 = .ok (.aload_n 0, 1) by decide +kernel) rfl ?_
        refine Ev_getI hq_14 (show decode prog_5_method_14_code 61 = .ok (.getfield 19, 3) by decide +kernel) rfl (S5n hS (by decide)) (S5k hS rfl) (by decide) rfl ?_
        refine Ev_putI hq_14 (show decode prog_5_method_14_code 64 = .ok (.putfield 22, 3) by decide +kernel) rfl (S5n hS (by decide)) (S5k hS rfl) (by decide) (by decide) rfl (fun hz => by cases hz) ?_
        obtain ⟨I29, eI29⟩ : ∃ I29 : zI, I29 = z_up I 39 3 (I 39 2) := ⟨_, rfl⟩
        have k := k I29 eI29
        rw [← eI29]
        refine Ev_aload_n hq_14 (show decode prog_5_method_14_code 67 = .ok (.aload_n 0, 1) by decide +kernel) rfl ?_
        refine Ev_getI hq_14 (show decode prog_5_method_14_code 68 = .ok (.getfield 19, 3) by decide +kernel) rfl (S5n hS (by decide)) (S5k hS rfl) (by decide) rfl ?_
        refine Ev_aload_n hq_14 (show decode prog_5_method_14_code 71 = .ok (.aload_n 0, 1) by decide +kernel) rfl ?_
        refine Ev_getI hq_14 (show decode prog_5_method_14_code 72 = .ok (.getfield 15, 3) by decide +kernel) rfl (S5n hS (by decide)) (S5k hS rfl) (by decide) rfl ?_
        refine Ev_icmp_lt (tgt := 86) hq_14 (show decode prog_5_method_14_code 75 = .ok (.if_icmp .lt 11, 3) by decide +kernel) (by decide) (fun c30 => ?_) (fun c30 => ?_)
        · have k := k.1 c30
          refine Ev_aload_n hq_14 (show decode prog_5_method_14_code 86 = .ok (.aload_n 0, 1) by decide +kernel) rfl ?_
          refine Ev_getR hq_14 (show decode prog_5_method_14_code 87 = .ok (.getfield 9, 3) by decide +kernel) rfl (S5n hS (by decide)) (S5k hS rfl) (by decide) rfl (S5r hS rfl) ?_
          refine Ev_aload_n hq_14 (show decode prog_5_method_14_code 90 = .ok (.aload_n 0, 1) by decide +kernel) rfl ?_
          refine Ev_getI hq_14 (show decode prog_5_method_14_code 91 = .ok (.getfield 19, 3) by decide +kernel) rfl (S5n hS (by decide)) (S5k hS rfl) (by decide) rfl ?_
          obtain ⟨h31, k⟩ := k
          refine Ev_iald hq_14 (show decode prog_5_method_14_code 94 = .ok (.iaload, 1) by decide +kernel) (S5n hS (by decide)) (S5k hS rfl) (S5i hS rfl h31) ?_
          refine Ev_stat (as := [.int (I29 44 (I29 39 2).toNatClampNeg)]) hq_14 (show decode prog_5_method_14_code 95 = .ok (.invokestatic 111, 3) by decide +kernel) rfl (Or.inl rfl) hq_16 rfl (z_le rfl) (c_R_isLetter (I29 44 (I29 39 2).toNatClampNeg)) ?_
          refine Ev_if_eq (tgt := 163) hq_14 (show decode prog_5_method_14_code 98 = .ok (.ifCond .eq 65, 3) by decide +kernel) (by decide) (fun c32 => ?_) (fun c32 => ?_)
          · have k := k.1 c32
            refine Ev_aload_n hq_14 (show decode prog_5_method_14_code 163 = .ok (.aload_n 0, 1) by decide +kernel) rfl ?_
            refine Ev_getR hq_14 (show decode prog_5_method_14_code 164 = .ok (.getfield 9, 3) by decide +kernel) rfl (S5n hS (by decide)) (S5k hS rfl) (by decide) rfl (S5r hS rfl) ?_
            refine Ev_aload_n hq_14 (show decode prog_5_method_14_code 167 = .ok (.aload_n 0, 1) by decide +kernel) rfl ?_
            refine Ev_getI hq_14 (show decode prog_5_method_14_code 168 = .ok (.getfield 19, 3) by decide +kernel) rfl (S5n hS (by decide)) (S5k hS rfl) (by decide) rfl ?_
            obtain ⟨h33, k⟩ := k
            refine Ev_iald hq_14 (show decode prog_5_method_14_code 171 = .ok (.iaload, 1) by decide +kernel) (S5n hS (by decide)) (S5k hS rfl) (S5i hS rfl h33) ?_
            refine Ev_stat (as := [.int (I29 44 (I29 39 2).toNatClampNeg)]) hq_14 (show decode prog_5_method_14_code 172 = .ok (.invokestatic 118, 3) by decide +kernel) rfl (Or.inl rfl) hq_19 rfl (z_le rfl) (c_R_isDigit (I29 44 (I29 39 2).toNatClampNeg)) ?_
            refine Ev_if_eq (tgt := 185) hq_14 (show decode prog_5_method_14_code 175 = .ok (.ifCond .eq 10, 3) by decide +kernel) (by decide) (fun c34 => ?_) (fun c34 => ?_)
            · have k := k.1 c34
              refine Ev_aload_n hq_14 (show decode prog_5_method_14_code 185 = .ok (.aload_n 0, 1) by decide +kernel) rfl ?_
              refine Ev_aload_n hq_14 (show decode prog_5_method_14_code 186 = .ok (.aload_n 0, 1) by decide +kernel) rfl ?_
              refine Ev_getR hq_14 (show decode prog_5_method_14_code 187 = .ok (.getfield 9, 3) by decide +kernel) rfl (S5n hS (by decide)) (S5k hS rfl) (by decide) rfl (S5r hS rfl) ?_
              refine Ev_aload_n hq_14 (show decode prog_5_method_14_code 190 = .ok (.aload_n 0, 1) by decide +kernel) rfl ?_
              refine Ev_getI hq_14 (show decode prog_5_method_14_code 191 = .ok (.getfield 19, 3) by decide +kernel) rfl (S5n hS (by decide)) (S5k hS rfl) (by decide) rfl ?_
              obtain ⟨h35, k⟩ := k
              refine Ev_iald hq_14 (show decode prog_5_method_14_code 194 = .ok (.iaload, 1) by decide +kernel) (S5n hS (by decide)) (S5k hS rfl) (S5i hS rfl h35) ?_
              refine Ev_stat (as := [.int (I29 44 (I29 39 2).toNatClampNeg)]) hq_14 (show decode prog_5_method_14_code 195 = .ok (.invokestatic 124, 3) by decide +kernel) rfl (Or.inl rfl) hq_21 rfl (z_le rfl) (c_R_signOf (I29 44 (I29 39 2).toNatClampNeg)) ?_
              refine Ev_putI hq_14 (show decode prog_5_method_14_code 198 = .ok (.putfield 25, 3) by decide +kernel) rfl (S5n hS (by decide)) (S5k hS rfl) (by decide) (by decide) rfl (fun hz => by cases hz) ?_
              obtain ⟨I36, eI36⟩ : ∃ I36 : zI, I36 = z_up I29 39 4 (f_R_signOf (I29 44 (I29 39 2).toNatClampNeg)) := ⟨_, rfl⟩
              have k := k I36 eI36
              rw [← eI36]
              refine Ev_aload_n hq_14 (show decode prog_5_method_14_code 201 = .ok (.aload_n 0, 1) by decide +kernel) rfl ?_
              refine Ev_aload_n hq_14 (show decode prog_5_method_14_code 202 = .ok (.aload_n 0, 1) by decide +kernel) rfl ?_
              refine Ev_getI hq_14 (show decode prog_5_method_14_code 203 = .ok (.getfield 19, 3) by decide +kernel) rfl (S5n hS (by decide)) (S5k hS rfl) (by decide) rfl ?_
              refine Ev_iconst (v := 1) hq_14 (show decode prog_5_method_14_code 206 = .ok (.iconst 1, 1) by decide +kernel) (by decide) ?_
              refine Ev_iadd hq_14 (show decode prog_5_method_14_code 207 = .ok (.iadd, 1) by decide +kernel) ?_
              refine Ev_putI hq_14 (show decode prog_5_method_14_code 208 = .ok (.putfield 22, 3) by decide +kernel) rfl (S5n hS (by decide)) (S5k hS rfl) (by decide) (by decide) rfl (fun hz => by cases hz) ?_
              obtain ⟨I37, eI37⟩ : ∃ I37 : zI, I37 = z_up I36 39 3 ((I36 39 2) + 1) := ⟨_, rfl⟩
              have k := k I37 eI37
              rw [← eI37]
              exact Ev_vret hq_14 (show decode prog_5_method_14_code 211 = .ok (.return_, 1) by decide +kernel) k
            · have k := k.2 c34
              refine Ev_aload_n hq_14 (show decode prog_5_method_14_code 178 = .ok (.aload_n 0, 1) by decide +kernel) rfl ?_
              obtain ⟨I38, h39, k⟩ := k
              refine Ev_virt (as := []) hq_14 (show decode prog_5_method_14_code 179 = .ok (.invokevirtual 121, 3) by decide +kernel) rfl hq_20 rfl (z_le rfl) ⟨(S5n hS (by decide)), (S5k hS rfl), by decide⟩ h39 ?_
              refine Ev_goto (tgt := 211) hq_14 (show decode prog_5_method_14_code 182 = .ok (.goto 29, 3) by decide +kernel) (by decide) ?_
              exact Ev_vret hq_14 (show decode prog_5_method_14_code 211 = .ok (.return_, 1) by decide +kernel) k
          · have k := k.2 c32
            refine Ev_iconst (v := 0) hq_14 (show decode prog_5_method_14_code 101 = .ok (.iconst 0, 1) by decide +kernel) (by decide) ?_
            refine Ev_istore_n (lo2 := [.ref 39, .int 0]) hq_14 (show decode prog_5_method_14_code 102 = .ok (.istore_n 1, 1) by decide +kernel) (z_le rfl) rfl ?_
            exact k
        · have k := k.2 c30
          refine Ev_aload_n hq_14 (show decode prog_5_method_14_code 78 = .ok (.aload_n 0, 1) by decide +kernel) rfl ?_
          refine Ev_iconst (v := 0) hq_14 (show decode prog_5_method_14_code 79 = .ok (.iconst 0, 1) by decide +kernel) (by decide) ?_
          refine Ev_putI hq_14 (show decode prog_5_method_14_code 80 = .ok (.putfield 25, 3) by decide +kernel) rfl (S5n hS (by decide)) (S5k hS rfl) (by decide) (by decide) rfl (fun hz => by cases hz) ?_
          obtain ⟨I40, eI40⟩ : ∃ I40 : zI, I40 = z_up I29 39 4 0 := ⟨_, rfl⟩
          have k := k I40 eI40
          rw [← eI40]
          refine Ev_goto (tgt := 211) hq_14 (show decode prog_5_method_14_code 83 = .ok (.goto 128, 3) by decide +kernel) (by decide) ?_
          exact Ev_vret hq_14 (show decode prog_5_method_14_code 211 = .ok (.return_, 1) by decide +kernel) k
      · have k := k.2 c28
        refine Ev_aload_n hq_14 (show decode prog_5_method_14_code 43 = .ok (.aload_n 0, 1) by decide +kernel) rfl ?_
        refine Ev_dup hq_14 (show decode prog_5_method_14_code 44 = .ok (.dup, 1) by decide +kernel) rfl ?_
        refine Ev_getI hq_14 (show decode prog_5_method_14_code 45 = .ok (.getfield 19, 3) by decide +kernel) rfl (S5n hS (by decide)) (S5k hS rfl) (by decide) rfl ?_
        refine Ev_iconst (v := 1) hq_14 (show decode prog_5_method_14_code 48 = .ok (.iconst 1, 1) by decide +kernel) (by decide) ?_
        refine Ev_iadd hq_14 (show decode prog_5_method_14_code 49 = .ok (.iadd, 1) by decide +kernel) ?_
        refine Ev_putI hq_14 (show decode prog_5_method_14_code 50 = .ok (.putfield 19, 3) by decide +kernel) rfl (S5n hS (by decide)) (S5k hS rfl) (by decide) (by decide) rfl (fun hz => by cases hz) ?_
        obtain ⟨I41, eI41⟩ : ∃ I41 : zI, I41 = z_up I 39 2 ((I 39 2) + 1) := ⟨_, rfl⟩
        have k := k I41 eI41
        rw [← eI41]
        obtain ⟨y42, ey42⟩ : ∃ y42 : Int32, y42 = x1 + 1 := ⟨_, rfl⟩
        have k := k y42 ey42
        refine Ev_iinc (v := y42) (lo2 := [.ref 39, .int y42]) hq_14 (show decode prog_5_method_14_code 53 = .ok (.iinc 1 1, 3) by decide +kernel) rfl (by rw [ey42]; rfl) rfl ?_
        refine Ev_goto (tgt := 10) hq_14 (show decode prog_5_method_14_code 56 = .ok (.goto (-46), 3) by decide +kernel) (by decide) ?_
        exact k
set_option maxRecDepth 20000 in
theorem w5_R_advance_103 {X : Nat × (Nat → Int32)} {d : Nat} {G : zG} {I : zI} {res : Option Value × zG × zI} (x1 : Int32) (hS : S5 G) 
    (k : (160 ≤ x1 → ∃ (r4 : Int32) (I2 : zI), Cv X d 17 [.ref 39] G I (some (.int r4), G, I2) ∧ ((∀ I5 : zI, I5 = z_up I2 39 4 r4 → res = (none, G, I5)))) ∧ (¬ 160 ≤ x1 → ((I 39 1) ≤ (I 39 3) → ∃ (r9 : Int32) (I7 : zI), Cv X d 17 [.ref 39] G I (some (.int r9), G, I7) ∧ ((∀ I10 : zI, I10 = z_up I7 39 4 r9 → res = (none, G, I10)))) ∧ (¬ (I 39 1) ≤ (I 39 3) → z_inr (I 39 3) 160 ∧ (((f_R_isLetter (I 44 (I 39 3).toNatClampNeg)) = 0 → ∃ (r15 : Int32) (I13 : zI), Cv X d 17 [.ref 39] G I (some (.int r15), G, I13) ∧ ((∀ I16 : zI, I16 = z_up I13 39 4 r15 → res = (none, G, I16)))) ∧ (¬ (f_R_isLetter (I 44 (I 39 3).toNatClampNeg)) = 0 → (∀ I17 : zI, I17 = z_up I 39 3 ((I 39 3) + 1) → ∀ y18 : Int32, y18 = x1 + 1 → Ev X (d + 1) 14 103 [.ref 39, .int y18] [] G I17 res)))))) :
    Ev X (d + 1) 14 103 [.ref 39, .int x1] [] G I res := by
  refine Ev_iload_n hq_14 (show decode prog_5_method_14_code 103 = .ok (.iload_n 1, 1) by decide +kernel) rfl ?_
  refine Ev_sipush (v := 160) hq_14 (show decode prog_5_method_14_code 104 = .ok (.sipush 160, 3) by decide +kernel) (by decide) ?_
  refine Ev_icmp_ge (tgt := 152) hq_14 (show decode prog_5_method_14_code 107 = .ok (.if_icmp .ge 45, 3) by decide +kernel) (by decide) (fun c1 => ?_) (fun c1 => ?_)
  · have k := k.1 c1
    refine Ev_aload_n hq_14 (show decode prog_5_method_14_code 152 = .ok (.aload_n 0, 1) by decide +kernel) rfl ?_
    refine Ev_aload_n hq_14 (show decode prog_5_method_14_code 153 = .ok (.aload_n 0, 1) by decide +kernel) rfl ?_
    obtain ⟨r4, I2, h3, k⟩ := k
    refine Ev_virt (as := []) hq_14 (show decode prog_5_method_14_code 154 = .ok (.invokevirtual 114, 3) by decide +kernel) rfl hq_17 rfl (z_le rfl) ⟨(S5n hS (by decide)), (S5k hS rfl), by decide⟩ h3 ?_
    refine Ev_putI hq_14 (show decode prog_5_method_14_code 157 = .ok (.putfield 25, 3) by decide +kernel) rfl (S5n hS (by decide)) (S5k hS rfl) (by decide) (by decide) rfl (fun hz => by cases hz) ?_
    obtain ⟨I5, eI5⟩ : ∃ I5 : zI, I5 = z_up I2 39 4 r4 := ⟨_, rfl⟩
    have k := k I5 eI5
    rw [← eI5]
    refine Ev_goto (tgt := 211) hq_14 (show decode prog_5_method_14_code 160 = .ok (.goto 51, 3) by decide +kernel) (by decide) ?_
    exact Ev_vret hq_14 (show decode prog_5_method_14_code 211 = .ok (.return_, 1) by decide +kernel) k
  · have k := k.2 c1
    refine Ev_aload_n hq_14 (show decode prog_5_method_14_code 110 = .ok (.aload_n 0, 1) by decide +kernel) rfl ?_
    refine Ev_getI hq_14 (show decode prog_5_method_14_code 111 = .ok (.getfield 22, 3) by decide +kernel) rfl (S5n hS (by decide)) (S5k hS rfl) (by decide) rfl ?_
    refine Ev_aload_n hq_14 (show decode prog_5_method_14_code 114 = .ok (.aload_n 0, 1) by decide +kernel) rfl ?_
    refine Ev_getI hq_14 (show decode prog_5_method_14_code 115 = .ok (.getfield 15, 3) by decide +kernel) rfl (S5n hS (by decide)) (S5k hS rfl) (by decide) rfl ?_
    refine Ev_icmp_ge (tgt := 152) hq_14 (show decode prog_5_method_14_code 118 = .ok (.if_icmp .ge 34, 3) by decide +kernel) (by decide) (fun c6 => ?_) (fun c6 => ?_)
    · have k := k.1 c6
      refine Ev_aload_n hq_14 (show decode prog_5_method_14_code 152 = .ok (.aload_n 0, 1) by decide +kernel) rfl ?_
      refine Ev_aload_n hq_14 (show decode prog_5_method_14_code 153 = .ok (.aload_n 0, 1) by decide +kernel) rfl ?_
      obtain ⟨r9, I7, h8, k⟩ := k
      refine Ev_virt (as := []) hq_14 (show decode prog_5_method_14_code 154 = .ok (.invokevirtual 114, 3) by decide +kernel) rfl hq_17 rfl (z_le rfl) ⟨(S5n hS (by decide)), (S5k hS rfl), by decide⟩ h8 ?_
      refine Ev_putI hq_14 (show decode prog_5_method_14_code 157 = .ok (.putfield 25, 3) by decide +kernel) rfl (S5n hS (by decide)) (S5k hS rfl) (by decide) (by decide) rfl (fun hz => by cases hz) ?_
      obtain ⟨I10, eI10⟩ : ∃ I10 : zI, I10 = z_up I7 39 4 r9 := ⟨_, rfl⟩
      have k := k I10 eI10
      rw [← eI10]
      refine Ev_goto (tgt := 211) hq_14 (show decode prog_5_method_14_code 160 = .ok (.goto 51, 3) by decide +kernel) (by decide) ?_
      exact Ev_vret hq_14 (show decode prog_5_method_14_code 211 = .ok (.return_, 1) by decide +kernel) k
    · have k := k.2 c6
      refine Ev_aload_n hq_14 (show decode prog_5_method_14_code 121 = .ok (.aload_n 0, 1) by decide +kernel) rfl ?_
      refine Ev_getR hq_14 (show decode prog_5_method_14_code 122 = .ok (.getfield 9, 3) by decide +kernel) rfl (S5n hS (by decide)) (S5k hS rfl) (by decide) rfl (S5r hS rfl) ?_
      refine Ev_aload_n hq_14 (show decode prog_5_method_14_code 125 = .ok (.aload_n 0, 1) by decide +kernel) rfl ?_
      refine Ev_getI hq_14 (show decode prog_5_method_14_code 126 = .ok (.getfield 22, 3) by decide +kernel) rfl (S5n hS (by decide)) (S5k hS rfl) (by decide) rfl ?_
      obtain ⟨h11, k⟩ := k
      refine Ev_iald hq_14 (show decode prog_5_method_14_code 129 = .ok (.iaload, 1) by decide +kernel) (S5n hS (by decide)) (S5k hS rfl) (S5i hS rfl h11) ?_
      refine Ev_stat (as := [.int (I 44 (I 39 3).toNatClampNeg)]) hq_14 (show decode prog_5_method_14_code 130 = .ok (.invokestatic 111, 3) by decide +kernel) rfl (Or.inl rfl) hq_16 rfl (z_le rfl) (c_R_isLetter (I 44 (I 39 3).toNatClampNeg)) ?_
      refine Ev_if_eq (tgt := 152) hq_14 (show decode prog_5_method_14_code 133 = .ok (.ifCond .eq 19, 3) by decide +kernel) (by decide) (fun c12 => ?_) (fun c12 => ?_)
      · have k := k.1 c12
        refine Ev_aload_n hq_14 (show decode prog_5_method_14_code 152 = .ok (.aload_n 0, 1) by decide +kernel) rfl ?_
        refine Ev_aload_n hq_14 (show decode prog_5_method_14_code 153 = .ok (.aload_n 0, 1) by decide +kernel) rfl ?_
        obtain ⟨r15, I13, h14, k⟩ := k
        refine Ev_virt (as := []) hq_14 (show decode prog_5_method_14_code 154 = .ok (.invokevirtual 114, 3) by decide +kernel) rfl hq_17 rfl (z_le rfl) ⟨(S5n hS (by decide)), (S5k hS rfl), by decide⟩ h14 ?_
        refine Ev_putI hq_14 (show decode prog_5_method_14_code 157 = .ok (.putfield 25, 3) by decide +kernel) rfl (S5n hS (by decide)) (S5k hS rfl) (by decide) (by decide) rfl (fun hz => by cases hz) ?_
        obtain ⟨I16, eI16⟩ : ∃ I16 : zI, I16 = z_up I13 39 4 r15 := ⟨_, rfl⟩
        have k := k I16 eI16
        rw [← eI16]
        refine Ev_goto (tgt := 211) hq_14 (show decode prog_5_method_14_code 160 = .ok (.goto 51, 3) by decide +kernel) (by decide) ?_
        exact Ev_vret hq_14 (show decode prog_5_method_14_code 211 = .ok (.return_, 1) by decide +kernel) k
      · have k := k.2 c12
        refine Ev_aload_n hq_14 (show decode prog_5_method_14_code 136 = .ok (.aload_n 0, 1) by decide +kernel) rfl ?_
        refine Ev_dup hq_14 (show decode prog_5_method_14_code 137 = .ok (.dup, 1) by decide +kernel) rfl ?_
        refine Ev_getI hq_14 (show decode prog_5_method_14_code 138 = .ok (.getfield 22, 3) by decide +kernel) rfl (S5n hS (by decide)) (S5k hS rfl) (by decide) rfl ?_
        refine Ev_iconst (v := 1) hq_14 (show decode prog_5_method_14_code 141 = .ok (.iconst 1, 1) by decide +kernel) (by decide) ?_
        refine Ev_iadd hq_14 (show decode prog_5_method_14_code 142 = .ok (.iadd, 1) by decide +kernel) ?_
        refine Ev_putI hq_14 (show decode prog_5_method_14_code 143 = .ok (.putfield 22, 3) by decide +kernel) rfl (S5n hS (by decide)) (S5k hS rfl) (by decide) (by decide) rfl (fun hz => by cases hz) ?_
        obtain ⟨I17, eI17⟩ : ∃ I17 : zI, I17 = z_up I 39 3 ((I 39 3) + 1) := ⟨_, rfl⟩
        have k := k I17 eI17
        rw [← eI17]
        obtain ⟨y18, ey18⟩ : ∃ y18 : Int32, y18 = x1 + 1 := ⟨_, rfl⟩
        have k := k y18 ey18
        refine Ev_iinc (v := y18) (lo2 := [.ref 39, .int y18]) hq_14 (show decode prog_5_method_14_code 146 = .ok (.iinc 1 1, 3) by decide +kernel) rfl (by rw [ey18]; rfl) rfl ?_
        refine Ev_goto (tgt := 103) hq_14 (show decode prog_5_method_14_code 149 = .ok (.goto (-46), 3) by decide +kernel) (by decide) ?_
        exact k
set_option maxRecDepth 20000 in
theorem w5_R_skip {X : Nat × (Nat → Int32)} {d : Nat} {G : zG} {I : zI} {res : Option Value × zG × zI} (x1 : Int32) (hS : S5 G) 
    (k : ((I 39 4) = x1 → ∃ (I2 : zI), Cv X d 14 [.ref 39] G I (none, G, I2) ∧ (res = (some (.int 1), G, I2))) ∧ (¬ (I 39 4) = x1 → res = (some (.int 0), G, I))) :
    Ev X (d + 1) 22 0 [.ref 39, .int x1] [] G I res := by
  refine Ev_aload_n hq_22 (show decode prog_5_method_4_code 0 = .ok (.aload_n 0, 1) by decide +kernel) rfl ?_
  refine Ev_getI hq_22 (show decode prog_5_method_4_code 1 = .ok (.getfield 25, 3) by decide +kernel) rfl (S5n hS (by decide)) (S5k hS rfl) (by decide) rfl ?_
  refine Ev_iload_n hq_22 (show decode prog_5_method_4_code 4 = .ok (.iload_n 1, 1) by decide +kernel) rfl ?_
  refine Ev_icmp_eq (tgt := 10) hq_22 (show decode prog_5_method_4_code 5 = .ok (.if_icmp .eq 5, 3) by decide +kernel) (by decide) (fun c1 => ?_) (fun c1 => ?_)
  · have k := k.1 c1
    refine Ev_aload_n hq_22 (show decode prog_5_method_4_code 10 = .ok (.aload_n 0, 1) by decide +kernel) rfl ?_
    obtain ⟨I2, h3, k⟩ := k
    refine Ev_virt (as := []) hq_22 (show decode prog_5_method_4_code 11 = .ok (.invokevirtual 49, 3) by decide +kernel) rfl hq_14 rfl (z_le rfl) ⟨(S5n hS (by decide)), (S5k hS rfl), by decide⟩ h3 ?_
    refine Ev_iconst (v := 1) hq_22 (show decode prog_5_method_4_code 14 = .ok (.iconst 1, 1) by decide +kernel) (by decide) ?_
    exact Ev_iret hq_22 (show decode prog_5_method_4_code 15 = .ok (.ireturn, 1) by decide +kernel) rfl k
  · have k := k.2 c1
    refine Ev_iconst (v := 0) hq_22 (show decode prog_5_method_4_code 8 = .ok (.iconst 0, 1) by decide +kernel) (by decide) ?_
    exact Ev_iret hq_22 (show decode prog_5_method_4_code 9 = .ok (.ireturn, 1) by decide +kernel) rfl k
set_option maxRecDepth 20000 in
theorem w5_R_opens {X : Nat × (Nat → Int32)} {d : Nat} {G : zG} {I : zI} {res : Option Value × zG × zI}  (hS : S5 G) 
    (k : ((I 39 6) < 5 → (∀ I2 : zI, I2 = z_up I 39 6 ((I 39 6) + 1) → ∃ (I3 : zI), Cv X d 14 [.ref 39] G I2 (none, G, I3) ∧ (res = (some (.int 1), G, I3)))) ∧ (¬ (I 39 6) < 5 → res = (some (.int 0), G, I))) :
    Ev X (d + 1) 26 0 [.ref 39] [] G I res := by
  refine Ev_aload_n hq_26 (show decode prog_5_method_12_code 0 = .ok (.aload_n 0, 1) by decide +kernel) rfl ?_
  refine Ev_getI hq_26 (show decode prog_5_method_12_code 1 = .ok (.getfield 31, 3) by decide +kernel) rfl (S5n hS (by decide)) (S5k hS rfl) (by decide) rfl ?_
  refine Ev_iconst (v := 5) hq_26 (show decode prog_5_method_12_code 4 = .ok (.iconst 5, 1) by decide +kernel) (by decide) ?_
  refine Ev_icmp_lt (tgt := 10) hq_26 (show decode prog_5_method_12_code 5 = .ok (.if_icmp .lt 5, 3) by decide +kernel) (by decide) (fun c1 => ?_) (fun c1 => ?_)
  · have k := k.1 c1
    refine Ev_aload_n hq_26 (show decode prog_5_method_12_code 10 = .ok (.aload_n 0, 1) by decide +kernel) rfl ?_
    refine Ev_dup hq_26 (show decode prog_5_method_12_code 11 = .ok (.dup, 1) by decide +kernel) rfl ?_
    refine Ev_getI hq_26 (show decode prog_5_method_12_code 12 = .ok (.getfield 31, 3) by decide +kernel) rfl (S5n hS (by decide)) (S5k hS rfl) (by decide) rfl ?_
    refine Ev_iconst (v := 1) hq_26 (show decode prog_5_method_12_code 15 = .ok (.iconst 1, 1) by decide +kernel) (by decide) ?_
    refine Ev_iadd hq_26 (show decode prog_5_method_12_code 16 = .ok (.iadd, 1) by decide +kernel) ?_
    refine Ev_putI hq_26 (show decode prog_5_method_12_code 17 = .ok (.putfield 31, 3) by decide +kernel) rfl (S5n hS (by decide)) (S5k hS rfl) (by decide) (by decide) rfl (fun hz => by cases hz) ?_
    obtain ⟨I2, eI2⟩ : ∃ I2 : zI, I2 = z_up I 39 6 ((I 39 6) + 1) := ⟨_, rfl⟩
    have k := k I2 eI2
    rw [← eI2]
    refine Ev_aload_n hq_26 (show decode prog_5_method_12_code 20 = .ok (.aload_n 0, 1) by decide +kernel) rfl ?_
    obtain ⟨I3, h4, k⟩ := k
    refine Ev_virt (as := []) hq_26 (show decode prog_5_method_12_code 21 = .ok (.invokevirtual 49, 3) by decide +kernel) rfl hq_14 rfl (z_le rfl) ⟨(S5n hS (by decide)), (S5k hS rfl), by decide⟩ h4 ?_
    refine Ev_iconst (v := 1) hq_26 (show decode prog_5_method_12_code 24 = .ok (.iconst 1, 1) by decide +kernel) (by decide) ?_
    exact Ev_iret hq_26 (show decode prog_5_method_12_code 25 = .ok (.ireturn, 1) by decide +kernel) rfl k
  · have k := k.2 c1
    refine Ev_iconst (v := 0) hq_26 (show decode prog_5_method_12_code 8 = .ok (.iconst 0, 1) by decide +kernel) (by decide) ?_
    exact Ev_iret hq_26 (show decode prog_5_method_12_code 9 = .ok (.ireturn, 1) by decide +kernel) rfl k
set_option maxRecDepth 20000 in
theorem w5_R_closes {X : Nat × (Nat → Int32)} {d : Nat} {G : zG} {I : zI} {res : Option Value × zG × zI}  (hS : S5 G) 
    (k : (∀ I1 : zI, I1 = z_up I 39 6 ((I 39 6) - 1) → res = (some (.int 1), G, I1))) :
    Ev X d 27 0 [.ref 39] [] G I res := by
  refine Ev_aload_n hq_27 (show decode prog_5_method_13_code 0 = .ok (.aload_n 0, 1) by decide +kernel) rfl ?_
  refine Ev_dup hq_27 (show decode prog_5_method_13_code 1 = .ok (.dup, 1) by decide +kernel) rfl ?_
  refine Ev_getI hq_27 (show decode prog_5_method_13_code 2 = .ok (.getfield 31, 3) by decide +kernel) rfl (S5n hS (by decide)) (S5k hS rfl) (by decide) rfl ?_
  refine Ev_iconst (v := 1) hq_27 (show decode prog_5_method_13_code 5 = .ok (.iconst 1, 1) by decide +kernel) (by decide) ?_
  refine Ev_isub hq_27 (show decode prog_5_method_13_code 6 = .ok (.isub, 1) by decide +kernel) ?_
  refine Ev_putI hq_27 (show decode prog_5_method_13_code 7 = .ok (.putfield 31, 3) by decide +kernel) rfl (S5n hS (by decide)) (S5k hS rfl) (by decide) (by decide) rfl (fun hz => by cases hz) ?_
  obtain ⟨I1, eI1⟩ : ∃ I1 : zI, I1 = z_up I 39 6 ((I 39 6) - 1) := ⟨_, rfl⟩
  have k := k I1 eI1
  rw [← eI1]
  refine Ev_iconst (v := 1) hq_27 (show decode prog_5_method_13_code 10 = .ok (.iconst 1, 1) by decide +kernel) (by decide) ?_
  exact Ev_iret hq_27 (show decode prog_5_method_13_code 11 = .ok (.ireturn, 1) by decide +kernel) rfl k
set_option maxRecDepth 20000 in
theorem w5_R_put {X : Nat × (Nat → Int32)} {d : Nat} {G : zG} {I : zI} {res : Option Value × zG × zI} (x1 : Int32) (hS : S5 G) 
    (k : ((I 39 8) < 160 → (∀ I2 : zI, I2 = z_up I 39 8 ((I 39 8) + 1) → z_inr (I 39 8) 160 ∧ (∀ I4 : zI, I4 = z_up I2 41 (I 39 8).toNatClampNeg x1 → res = (some (.int 1), G, I4)))) ∧ (¬ (I 39 8) < 160 → res = (some (.int 0), G, I))) :
    Ev X d 28 0 [.ref 39, .int x1] [] G I res := by
  refine Ev_aload_n hq_28 (show decode prog_5_method_5_code 0 = .ok (.aload_n 0, 1) by decide +kernel) rfl ?_
  refine Ev_getI hq_28 (show decode prog_5_method_5_code 1 = .ok (.getfield 37, 3) by decide +kernel) rfl (S5n hS (by decide)) (S5k hS rfl) (by decide) rfl ?_
  refine Ev_sipush (v := 160) hq_28 (show decode prog_5_method_5_code 4 = .ok (.sipush 160, 3) by decide +kernel) (by decide) ?_
  refine Ev_icmp_lt (tgt := 12) hq_28 (show decode prog_5_method_5_code 7 = .ok (.if_icmp .lt 5, 3) by decide +kernel) (by decide) (fun c1 => ?_) (fun c1 => ?_)
  · have k := k.1 c1
    refine Ev_aload_n hq_28 (show decode prog_5_method_5_code 12 = .ok (.aload_n 0, 1) by decide +kernel) rfl ?_
    refine Ev_getR hq_28 (show decode prog_5_method_5_code 13 = .ok (.getfield 34, 3) by decide +kernel) rfl (S5n hS (by decide)) (S5k hS rfl) (by decide) rfl (S5r hS rfl) ?_
    refine Ev_aload_n hq_28 (show decode prog_5_method_5_code 16 = .ok (.aload_n 0, 1) by decide +kernel) rfl ?_
    refine Ev_dup hq_28 (show decode prog_5_method_5_code 17 = .ok (.dup, 1) by decide +kernel) rfl ?_
    refine Ev_getI hq_28 (show decode prog_5_method_5_code 18 = .ok (.getfield 37, 3) by decide +kernel) rfl (S5n hS (by decide)) (S5k hS rfl) (by decide) rfl ?_
    refine Ev_dup_x1 hq_28 (show decode prog_5_method_5_code 21 = .ok (.dup_x1, 1) by decide +kernel) ⟨rfl, rfl⟩ ?_
    refine Ev_iconst (v := 1) hq_28 (show decode prog_5_method_5_code 22 = .ok (.iconst 1, 1) by decide +kernel) (by decide) ?_
    refine Ev_iadd hq_28 (show decode prog_5_method_5_code 23 = .ok (.iadd, 1) by decide +kernel) ?_
    refine Ev_putI hq_28 (show decode prog_5_method_5_code 24 = .ok (.putfield 37, 3) by decide +kernel) rfl (S5n hS (by decide)) (S5k hS rfl) (by decide) (by decide) rfl (fun hz => by cases hz) ?_
    obtain ⟨I2, eI2⟩ : ∃ I2 : zI, I2 = z_up I 39 8 ((I 39 8) + 1) := ⟨_, rfl⟩
    have k := k I2 eI2
    rw [← eI2]
    refine Ev_iload_n hq_28 (show decode prog_5_method_5_code 27 = .ok (.iload_n 1, 1) by decide +kernel) rfl ?_
    obtain ⟨h3, k⟩ := k
    refine Ev_iast hq_28 (show decode prog_5_method_5_code 28 = .ok (.iastore, 1) by decide +kernel) (S5n hS (by decide)) (S5k hS rfl) (S5i hS rfl h3) ?_
    obtain ⟨I4, eI4⟩ : ∃ I4 : zI, I4 = z_up I2 41 (I 39 8).toNatClampNeg x1 := ⟨_, rfl⟩
    have k := k I4 eI4
    rw [← eI4]
    refine Ev_iconst (v := 1) hq_28 (show decode prog_5_method_5_code 29 = .ok (.iconst 1, 1) by decide +kernel) (by decide) ?_
    exact Ev_iret hq_28 (show decode prog_5_method_5_code 30 = .ok (.ireturn, 1) by decide +kernel) rfl k
  · have k := k.2 c1
    refine Ev_iconst (v := 0) hq_28 (show decode prog_5_method_5_code 10 = .ok (.iconst 0, 1) by decide +kernel) (by decide) ?_
    exact Ev_iret hq_28 (show decode prog_5_method_5_code 11 = .ok (.ireturn, 1) by decide +kernel) rfl k
set_option maxRecDepth 20000 in
theorem w5_R_readOne {X : Nat × (Nat → Int32)} {d : Nat} {G : zG} {I : zI} {res : Option Value × zG × zI}  (hS : S5 G) 
    (k : (¬ (I 39 4) = 2 → ((f_T_within (I 39 4) 17 22) = 0 → (¬ (I 39 4) = 7 → (¬ (I 39 4) = 3 → res = (some (.int 0), G, I)) ∧ ((I 39 4) = 3 → ∃ (r7 : Int32) (I5 : zI), Cv X d 26 [.ref 39] G I (some (.int r7), G, I5) ∧ ((¬ r7 = 0 → ∃ (r11 : Int32) (I9 : zI), Cv X d 23 [.ref 39] G I5 (some (.int r11), G, I9) ∧ ((r11 = 0 → res = (some (.int 0), G, I9)) ∧ (¬ r11 = 0 → ∃ (r15 : Int32) (I13 : zI), Cv X d 22 [.ref 39, .int 4] G I9 (some (.int r15), G, I13) ∧ ((r15 = 0 → res = (some (.int 0), G, I13)) ∧ (¬ r15 = 0 → ∃ (r19 : Int32) (I17 : zI), Cv X d 27 [.ref 39] G I13 (some (.int r19), G, I17) ∧ ((r19 = 0 → res = (some (.int 0), G, I17)) ∧ (¬ r19 = 0 → res = (some (.int 1), G, I17)))))))) ∧ (r7 = 0 → res = (some (.int 0), G, I5))))) ∧ ((I 39 4) = 7 → ∃ (r23 : Int32) (I21 : zI), Cv X d 26 [.ref 39] G I (some (.int r23), G, I21) ∧ ((¬ r23 = 0 → ∃ (r27 : Int32) (I25 : zI), Cv X d 31 [.ref 39] G I21 (some (.int r27), G, I25) ∧ ((r27 = 0 → res = (some (.int 0), G, I25)) ∧ (¬ r27 = 0 → ∃ (r31 : Int32) (I29 : zI), Cv X d 27 [.ref 39] G I25 (some (.int r31), G, I29) ∧ ((r31 = 0 → res = (some (.int 0), G, I29)) ∧ (¬ r31 = 0 → ∃ (r35 : Int32) (I33 : zI), Cv X d 28 [.ref 39, .int 20008] G I29 (some (.int r35), G, I33) ∧ ((r35 = 0 → res = (some (.int 0), G, I33)) ∧ (¬ r35 = 0 → res = (some (.int 1), G, I33)))))))) ∧ (r23 = 0 → res = (some (.int 0), G, I21))))) ∧ (¬ (f_T_within (I 39 4) 17 22) = 0 → ∃ (r39 : Int32) (I37 : zI), Cv X d 28 [.ref 39, .int ((10000 + (I 39 4)) - 17)] G I (some (.int r39), G, I37) ∧ ((r39 = 0 → res = (some (.int 0), G, I37)) ∧ (¬ r39 = 0 → ∃ (r43 : Int32) (I41 : zI), Cv X d 22 [.ref 39, .int (I37 39 4)] G I37 (some (.int r43), G, I41) ∧ ((r43 = 0 → res = (some (.int 0), G, I41)) ∧ (¬ r43 = 0 → res = (some (.int 1), G, I41))))))) ∧ ((I 39 4) = 2 → ∃ (r47 : Int32) (I45 : zI), Cv X d 28 [.ref 39, .int (I 39 5)] G I (some (.int r47), G, I45) ∧ ((r47 = 0 → res = (some (.int 0), G, I45)) ∧ (¬ r47 = 0 → ∃ (r51 : Int32) (I49 : zI), Cv X d 22 [.ref 39, .int 2] G I45 (some (.int r51), G, I49) ∧ ((r51 = 0 → res = (some (.int 0), G, I49)) ∧ (¬ r51 = 0 → res = (some (.int 1), G, I49))))))) :
    Ev X (d + 1) 31 0 [.ref 39] [] G I res := by
  refine Ev_aload_n hq_31 (show decode prog_5_method_11_code 0 = .ok (.aload_n 0, 1) by decide +kernel) rfl ?_
  refine Ev_getI hq_31 (show decode prog_5_method_11_code 1 = .ok (.getfield 25, 3) by decide +kernel) rfl (S5n hS (by decide)) (S5k hS rfl) (by decide) rfl ?_
  refine Ev_iconst (v := 2) hq_31 (show decode prog_5_method_11_code 4 = .ok (.iconst 2, 1) by decide +kernel) (by decide) ?_
  refine Ev_icmp_ne (tgt := 33) hq_31 (show decode prog_5_method_11_code 5 = .ok (.if_icmp .ne 28, 3) by decide +kernel) (by decide) (fun c1 => ?_) (fun c1 => ?_)
  · have k := k.1 c1
    refine Ev_aload_n hq_31 (show decode prog_5_method_11_code 33 = .ok (.aload_n 0, 1) by decide +kernel) rfl ?_
    refine Ev_getI hq_31 (show decode prog_5_method_11_code 34 = .ok (.getfield 25, 3) by decide +kernel) rfl (S5n hS (by decide)) (S5k hS rfl) (by decide) rfl ?_
    refine Ev_bipush (v := 17) hq_31 (show decode prog_5_method_11_code 37 = .ok (.bipush 17, 2) by decide +kernel) (by decide) ?_
    refine Ev_bipush (v := 22) hq_31 (show decode prog_5_method_11_code 39 = .ok (.bipush 22, 2) by decide +kernel) (by decide) ?_
    refine Ev_stat (as := [.int (I 39 4), .int 17, .int 22]) hq_31 (show decode prog_5_method_11_code 41 = .ok (.invokestatic 104, 3) by decide +kernel) rfl (Or.inr rfl) hq_32 rfl (z_le rfl) (c_T_within (I 39 4) 17 22) ?_
    refine Ev_if_eq (tgt := 82) hq_31 (show decode prog_5_method_11_code 44 = .ok (.ifCond .eq 38, 3) by decide +kernel) (by decide) (fun c2 => ?_) (fun c2 => ?_)
    · have k := k.1 c2
      refine Ev_aload_n hq_31 (show decode prog_5_method_11_code 82 = .ok (.aload_n 0, 1) by decide +kernel) rfl ?_
      refine Ev_getI hq_31 (show decode prog_5_method_11_code 83 = .ok (.getfield 25, 3) by decide +kernel) rfl (S5n hS (by decide)) (S5k hS rfl) (by decide) rfl ?_
      refine Ev_bipush (v := 7) hq_31 (show decode prog_5_method_11_code 86 = .ok (.bipush 7, 2) by decide +kernel) (by decide) ?_
      refine Ev_icmp_ne (tgt := 130) hq_31 (show decode prog_5_method_11_code 88 = .ok (.if_icmp .ne 42, 3) by decide +kernel) (by decide) (fun c3 => ?_) (fun c3 => ?_)
      · have k := k.1 c3
        refine Ev_aload_n hq_31 (show decode prog_5_method_11_code 130 = .ok (.aload_n 0, 1) by decide +kernel) rfl ?_
        refine Ev_getI hq_31 (show decode prog_5_method_11_code 131 = .ok (.getfield 25, 3) by decide +kernel) rfl (S5n hS (by decide)) (S5k hS rfl) (by decide) rfl ?_
        refine Ev_iconst (v := 3) hq_31 (show decode prog_5_method_11_code 134 = .ok (.iconst 3, 1) by decide +kernel) (by decide) ?_
        refine Ev_icmp_ne (tgt := 145) hq_31 (show decode prog_5_method_11_code 135 = .ok (.if_icmp .ne 10, 3) by decide +kernel) (by decide) (fun c4 => ?_) (fun c4 => ?_)
        · have k := k.1 c4
          refine Ev_iconst (v := 0) hq_31 (show decode prog_5_method_11_code 145 = .ok (.iconst 0, 1) by decide +kernel) (by decide) ?_
          exact Ev_iret hq_31 (show decode prog_5_method_11_code 146 = .ok (.ireturn, 1) by decide +kernel) rfl k
        · have k := k.2 (Classical.not_not.mp c4)
          refine Ev_aload_n hq_31 (show decode prog_5_method_11_code 138 = .ok (.aload_n 0, 1) by decide +kernel) rfl ?_
          obtain ⟨r7, I5, h6, k⟩ := k
          refine Ev_virt (as := []) hq_31 (show decode prog_5_method_11_code 139 = .ok (.invokevirtual 89, 3) by decide +kernel) rfl hq_26 rfl (z_le rfl) ⟨(S5n hS (by decide)), (S5k hS rfl), by decide⟩ h6 ?_
          refine Ev_if_ne (tgt := 147) hq_31 (show decode prog_5_method_11_code 142 = .ok (.ifCond .ne 5, 3) by decide +kernel) (by decide) (fun c8 => ?_) (fun c8 => ?_)
          · have k := k.1 c8
            refine Ev_aload_n hq_31 (show decode prog_5_method_11_code 147 = .ok (.aload_n 0, 1) by decide +kernel) rfl ?_
            obtain ⟨r11, I9, h10, k⟩ := k
            refine Ev_virt (as := []) hq_31 (show decode prog_5_method_11_code 148 = .ok (.invokevirtual 56, 3) by decide +kernel) rfl hq_23 rfl (z_le rfl) ⟨(S5n hS (by decide)), (S5k hS rfl), by decide⟩ h10 ?_
            refine Ev_if_eq (tgt := 173) hq_31 (show decode prog_5_method_11_code 151 = .ok (.ifCond .eq 22, 3) by decide +kernel) (by decide) (fun c12 => ?_) (fun c12 => ?_)
            · have k := k.1 c12
              refine Ev_iconst (v := 0) hq_31 (show decode prog_5_method_11_code 173 = .ok (.iconst 0, 1) by decide +kernel) (by decide) ?_
              exact Ev_iret hq_31 (show decode prog_5_method_11_code 174 = .ok (.ireturn, 1) by decide +kernel) rfl k
            · have k := k.2 c12
              refine Ev_aload_n hq_31 (show decode prog_5_method_11_code 154 = .ok (.aload_n 0, 1) by decide +kernel) rfl ?_
              refine Ev_iconst (v := 4) hq_31 (show decode prog_5_method_11_code 155 = .ok (.iconst 4, 1) by decide +kernel) (by decide) ?_
              obtain ⟨r15, I13, h14, k⟩ := k
              refine Ev_virt (as := [.int 4]) hq_31 (show decode prog_5_method_11_code 156 = .ok (.invokevirtual 52, 3) by decide +kernel) rfl hq_22 rfl (z_le rfl) ⟨(S5n hS (by decide)), (S5k hS rfl), by decide⟩ h14 ?_
              refine Ev_if_eq (tgt := 173) hq_31 (show decode prog_5_method_11_code 159 = .ok (.ifCond .eq 14, 3) by decide +kernel) (by decide) (fun c16 => ?_) (fun c16 => ?_)
              · have k := k.1 c16
                refine Ev_iconst (v := 0) hq_31 (show decode prog_5_method_11_code 173 = .ok (.iconst 0, 1) by decide +kernel) (by decide) ?_
                exact Ev_iret hq_31 (show decode prog_5_method_11_code 174 = .ok (.ireturn, 1) by decide +kernel) rfl k
              · have k := k.2 c16
                refine Ev_aload_n hq_31 (show decode prog_5_method_11_code 162 = .ok (.aload_n 0, 1) by decide +kernel) rfl ?_
                obtain ⟨r19, I17, h18, k⟩ := k
                refine Ev_virt (as := []) hq_31 (show decode prog_5_method_11_code 163 = .ok (.invokevirtual 92, 3) by decide +kernel) rfl hq_27 rfl (z_le rfl) ⟨(S5n hS (by decide)), (S5k hS rfl), by decide⟩ h18 ?_
                refine Ev_if_eq (tgt := 173) hq_31 (show decode prog_5_method_11_code 166 = .ok (.ifCond .eq 7, 3) by decide +kernel) (by decide) (fun c20 => ?_) (fun c20 => ?_)
                · have k := k.1 c20
                  refine Ev_iconst (v := 0) hq_31 (show decode prog_5_method_11_code 173 = .ok (.iconst 0, 1) by decide +kernel) (by decide) ?_
                  exact Ev_iret hq_31 (show decode prog_5_method_11_code 174 = .ok (.ireturn, 1) by decide +kernel) rfl k
                · have k := k.2 c20
                  refine Ev_iconst (v := 1) hq_31 (show decode prog_5_method_11_code 169 = .ok (.iconst 1, 1) by decide +kernel) (by decide) ?_
                  refine Ev_goto (tgt := 174) hq_31 (show decode prog_5_method_11_code 170 = .ok (.goto 4, 3) by decide +kernel) (by decide) ?_
                  exact Ev_iret hq_31 (show decode prog_5_method_11_code 174 = .ok (.ireturn, 1) by decide +kernel) rfl k
          · have k := k.2 (Classical.not_not.mp c8)
            refine Ev_iconst (v := 0) hq_31 (show decode prog_5_method_11_code 145 = .ok (.iconst 0, 1) by decide +kernel) (by decide) ?_
            exact Ev_iret hq_31 (show decode prog_5_method_11_code 146 = .ok (.ireturn, 1) by decide +kernel) rfl k
      · have k := k.2 (Classical.not_not.mp c3)
        refine Ev_aload_n hq_31 (show decode prog_5_method_11_code 91 = .ok (.aload_n 0, 1) by decide +kernel) rfl ?_
        obtain ⟨r23, I21, h22, k⟩ := k
        refine Ev_virt (as := []) hq_31 (show decode prog_5_method_11_code 92 = .ok (.invokevirtual 89, 3) by decide +kernel) rfl hq_26 rfl (z_le rfl) ⟨(S5n hS (by decide)), (S5k hS rfl), by decide⟩ h22 ?_
        refine Ev_if_ne (tgt := 100) hq_31 (show decode prog_5_method_11_code 95 = .ok (.ifCond .ne 5, 3) by decide +kernel) (by decide) (fun c24 => ?_) (fun c24 => ?_)
        · have k := k.1 c24
          refine Ev_aload_n hq_31 (show decode prog_5_method_11_code 100 = .ok (.aload_n 0, 1) by decide +kernel) rfl ?_
          obtain ⟨r27, I25, h26, k⟩ := k
          refine Ev_virt (as := []) hq_31 (show decode prog_5_method_11_code 101 = .ok (.invokevirtual 101, 3) by decide +kernel) rfl hq_31 rfl (z_le rfl) ⟨(S5n hS (by decide)), (S5k hS rfl), by decide⟩ h26 ?_
          refine Ev_if_eq (tgt := 128) hq_31 (show decode prog_5_method_11_code 104 = .ok (.ifCond .eq 24, 3) by decide +kernel) (by decide) (fun c28 => ?_) (fun c28 => ?_)
          · have k := k.1 c28
            refine Ev_iconst (v := 0) hq_31 (show decode prog_5_method_11_code 128 = .ok (.iconst 0, 1) by decide +kernel) (by decide) ?_
            exact Ev_iret hq_31 (show decode prog_5_method_11_code 129 = .ok (.ireturn, 1) by decide +kernel) rfl k
          · have k := k.2 c28
            refine Ev_aload_n hq_31 (show decode prog_5_method_11_code 107 = .ok (.aload_n 0, 1) by decide +kernel) rfl ?_
            obtain ⟨r31, I29, h30, k⟩ := k
            refine Ev_virt (as := []) hq_31 (show decode prog_5_method_11_code 108 = .ok (.invokevirtual 92, 3) by decide +kernel) rfl hq_27 rfl (z_le rfl) ⟨(S5n hS (by decide)), (S5k hS rfl), by decide⟩ h30 ?_
            refine Ev_if_eq (tgt := 128) hq_31 (show decode prog_5_method_11_code 111 = .ok (.ifCond .eq 17, 3) by decide +kernel) (by decide) (fun c32 => ?_) (fun c32 => ?_)
            · have k := k.1 c32
              refine Ev_iconst (v := 0) hq_31 (show decode prog_5_method_11_code 128 = .ok (.iconst 0, 1) by decide +kernel) (by decide) ?_
              exact Ev_iret hq_31 (show decode prog_5_method_11_code 129 = .ok (.ireturn, 1) by decide +kernel) rfl k
            · have k := k.2 c32
              refine Ev_aload_n hq_31 (show decode prog_5_method_11_code 114 = .ok (.aload_n 0, 1) by decide +kernel) rfl ?_
              refine Ev_sipush (v := 20008) hq_31 (show decode prog_5_method_11_code 115 = .ok (.sipush 20008, 3) by decide +kernel) (by decide) ?_
              obtain ⟨r35, I33, h34, k⟩ := k
              refine Ev_virt (as := [.int 20008]) hq_31 (show decode prog_5_method_11_code 118 = .ok (.invokevirtual 83, 3) by decide +kernel) rfl hq_28 rfl (z_le rfl) ⟨(S5n hS (by decide)), (S5k hS rfl), by decide⟩ h34 ?_
              refine Ev_if_eq (tgt := 128) hq_31 (show decode prog_5_method_11_code 121 = .ok (.ifCond .eq 7, 3) by decide +kernel) (by decide) (fun c36 => ?_) (fun c36 => ?_)
              · have k := k.1 c36
                refine Ev_iconst (v := 0) hq_31 (show decode prog_5_method_11_code 128 = .ok (.iconst 0, 1) by decide +kernel) (by decide) ?_
                exact Ev_iret hq_31 (show decode prog_5_method_11_code 129 = .ok (.ireturn, 1) by decide +kernel) rfl k
              · have k := k.2 c36
                refine Ev_iconst (v := 1) hq_31 (show decode prog_5_method_11_code 124 = .ok (.iconst 1, 1) by decide +kernel) (by decide) ?_
                refine Ev_goto (tgt := 129) hq_31 (show decode prog_5_method_11_code 125 = .ok (.goto 4, 3) by decide +kernel) (by decide) ?_
                exact Ev_iret hq_31 (show decode prog_5_method_11_code 129 = .ok (.ireturn, 1) by decide +kernel) rfl k
        · have k := k.2 (Classical.not_not.mp c24)
          refine Ev_iconst (v := 0) hq_31 (show decode prog_5_method_11_code 98 = .ok (.iconst 0, 1) by decide +kernel) (by decide) ?_
          exact Ev_iret hq_31 (show decode prog_5_method_11_code 99 = .ok (.ireturn, 1) by decide +kernel) rfl k
    · have k := k.2 c2
      refine Ev_aload_n hq_31 (show decode prog_5_method_11_code 47 = .ok (.aload_n 0, 1) by decide +kernel) rfl ?_
      refine Ev_sipush (v := 10000) hq_31 (show decode prog_5_method_11_code 48 = .ok (.sipush 10000, 3) by decide +kernel) (by decide) ?_
      refine Ev_aload_n hq_31 (show decode prog_5_method_11_code 51 = .ok (.aload_n 0, 1) by decide +kernel) rfl ?_
      refine Ev_getI hq_31 (show decode prog_5_method_11_code 52 = .ok (.getfield 25, 3) by decide +kernel) rfl (S5n hS (by decide)) (S5k hS rfl) (by decide) rfl ?_
      refine Ev_iadd hq_31 (show decode prog_5_method_11_code 55 = .ok (.iadd, 1) by decide +kernel) ?_
      refine Ev_bipush (v := 17) hq_31 (show decode prog_5_method_11_code 56 = .ok (.bipush 17, 2) by decide +kernel) (by decide) ?_
      refine Ev_isub hq_31 (show decode prog_5_method_11_code 58 = .ok (.isub, 1) by decide +kernel) ?_
      obtain ⟨r39, I37, h38, k⟩ := k
      refine Ev_virt (as := [.int ((10000 + (I 39 4)) - 17)]) hq_31 (show decode prog_5_method_11_code 59 = .ok (.invokevirtual 83, 3) by decide +kernel) rfl hq_28 rfl (z_le rfl) ⟨(S5n hS (by decide)), (S5k hS rfl), by decide⟩ h38 ?_
      refine Ev_if_eq (tgt := 80) hq_31 (show decode prog_5_method_11_code 62 = .ok (.ifCond .eq 18, 3) by decide +kernel) (by decide) (fun c40 => ?_) (fun c40 => ?_)
      · have k := k.1 c40
        refine Ev_iconst (v := 0) hq_31 (show decode prog_5_method_11_code 80 = .ok (.iconst 0, 1) by decide +kernel) (by decide) ?_
        exact Ev_iret hq_31 (show decode prog_5_method_11_code 81 = .ok (.ireturn, 1) by decide +kernel) rfl k
      · have k := k.2 c40
        refine Ev_aload_n hq_31 (show decode prog_5_method_11_code 65 = .ok (.aload_n 0, 1) by decide +kernel) rfl ?_
        refine Ev_aload_n hq_31 (show decode prog_5_method_11_code 66 = .ok (.aload_n 0, 1) by decide +kernel) rfl ?_
        refine Ev_getI hq_31 (show decode prog_5_method_11_code 67 = .ok (.getfield 25, 3) by decide +kernel) rfl (S5n hS (by decide)) (S5k hS rfl) (by decide) rfl ?_
        obtain ⟨r43, I41, h42, k⟩ := k
        refine Ev_virt (as := [.int (I37 39 4)]) hq_31 (show decode prog_5_method_11_code 70 = .ok (.invokevirtual 52, 3) by decide +kernel) rfl hq_22 rfl (z_le rfl) ⟨(S5n hS (by decide)), (S5k hS rfl), by decide⟩ h42 ?_
        refine Ev_if_eq (tgt := 80) hq_31 (show decode prog_5_method_11_code 73 = .ok (.ifCond .eq 7, 3) by decide +kernel) (by decide) (fun c44 => ?_) (fun c44 => ?_)
        · have k := k.1 c44
          refine Ev_iconst (v := 0) hq_31 (show decode prog_5_method_11_code 80 = .ok (.iconst 0, 1) by decide +kernel) (by decide) ?_
          exact Ev_iret hq_31 (show decode prog_5_method_11_code 81 = .ok (.ireturn, 1) by decide +kernel) rfl k
        · have k := k.2 c44
          refine Ev_iconst (v := 1) hq_31 (show decode prog_5_method_11_code 76 = .ok (.iconst 1, 1) by decide +kernel) (by decide) ?_
          refine Ev_goto (tgt := 81) hq_31 (show decode prog_5_method_11_code 77 = .ok (.goto 4, 3) by decide +kernel) (by decide) ?_
          exact Ev_iret hq_31 (show decode prog_5_method_11_code 81 = .ok (.ireturn, 1) by decide +kernel) rfl k
  · have k := k.2 (Classical.not_not.mp c1)
    refine Ev_aload_n hq_31 (show decode prog_5_method_11_code 8 = .ok (.aload_n 0, 1) by decide +kernel) rfl ?_
    refine Ev_aload_n hq_31 (show decode prog_5_method_11_code 9 = .ok (.aload_n 0, 1) by decide +kernel) rfl ?_
    refine Ev_getI hq_31 (show decode prog_5_method_11_code 10 = .ok (.getfield 28, 3) by decide +kernel) rfl (S5n hS (by decide)) (S5k hS rfl) (by decide) rfl ?_
    obtain ⟨r47, I45, h46, k⟩ := k
    refine Ev_virt (as := [.int (I 39 5)]) hq_31 (show decode prog_5_method_11_code 13 = .ok (.invokevirtual 83, 3) by decide +kernel) rfl hq_28 rfl (z_le rfl) ⟨(S5n hS (by decide)), (S5k hS rfl), by decide⟩ h46 ?_
    refine Ev_if_eq (tgt := 31) hq_31 (show decode prog_5_method_11_code 16 = .ok (.ifCond .eq 15, 3) by decide +kernel) (by decide) (fun c48 => ?_) (fun c48 => ?_)
    · have k := k.1 c48
      refine Ev_iconst (v := 0) hq_31 (show decode prog_5_method_11_code 31 = .ok (.iconst 0, 1) by decide +kernel) (by decide) ?_
      exact Ev_iret hq_31 (show decode prog_5_method_11_code 32 = .ok (.ireturn, 1) by decide +kernel) rfl k
    · have k := k.2 c48
      refine Ev_aload_n hq_31 (show decode prog_5_method_11_code 19 = .ok (.aload_n 0, 1) by decide +kernel) rfl ?_
      refine Ev_iconst (v := 2) hq_31 (show decode prog_5_method_11_code 20 = .ok (.iconst 2, 1) by decide +kernel) (by decide) ?_
      obtain ⟨r51, I49, h50, k⟩ := k
      refine Ev_virt (as := [.int 2]) hq_31 (show decode prog_5_method_11_code 21 = .ok (.invokevirtual 52, 3) by decide +kernel) rfl hq_22 rfl (z_le rfl) ⟨(S5n hS (by decide)), (S5k hS rfl), by decide⟩ h50 ?_
      refine Ev_if_eq (tgt := 31) hq_31 (show decode prog_5_method_11_code 24 = .ok (.ifCond .eq 7, 3) by decide +kernel) (by decide) (fun c52 => ?_) (fun c52 => ?_)
      · have k := k.1 c52
        refine Ev_iconst (v := 0) hq_31 (show decode prog_5_method_11_code 31 = .ok (.iconst 0, 1) by decide +kernel) (by decide) ?_
        exact Ev_iret hq_31 (show decode prog_5_method_11_code 32 = .ok (.ireturn, 1) by decide +kernel) rfl k
      · have k := k.2 c52
        refine Ev_iconst (v := 1) hq_31 (show decode prog_5_method_11_code 27 = .ok (.iconst 1, 1) by decide +kernel) (by decide) ?_
        refine Ev_goto (tgt := 32) hq_31 (show decode prog_5_method_11_code 28 = .ok (.goto 4, 3) by decide +kernel) (by decide) ?_
        exact Ev_iret hq_31 (show decode prog_5_method_11_code 32 = .ok (.ireturn, 1) by decide +kernel) rfl k
set_option maxRecDepth 20000 in
theorem w5_R_readTerm {X : Nat × (Nat → Int32)} {d : Nat} {G : zG} {I : zI} {res : Option Value × zG × zI}  (hS : S5 G) 
    (k : ∃ (r3 : Int32) (I1 : zI), Cv X d 31 [.ref 39] G I (some (.int r3), G, I1) ∧ ((¬ r3 = 0 → Ev X (d + 1) 30 11 [.ref 39, .int 0] [] G I1 res) ∧ (r3 = 0 → res = (some (.int 0), G, I1)))) :
    Ev X (d + 1) 30 0 [.ref 39, zU] [] G I res := by
  refine Ev_aload_n hq_30 (show decode prog_5_method_10_code 0 = .ok (.aload_n 0, 1) by decide +kernel) rfl ?_
  obtain ⟨r3, I1, h2, k⟩ := k
  refine Ev_virt (as := []) hq_30 (show decode prog_5_method_10_code 1 = .ok (.invokevirtual 101, 3) by decide +kernel) rfl hq_31 rfl (z_le rfl) ⟨(S5n hS (by decide)), (S5k hS rfl), by decide⟩ h2 ?_
  refine Ev_if_ne (tgt := 9) hq_30 (show decode prog_5_method_10_code 4 = .ok (.ifCond .ne 5, 3) by decide +kernel) (by decide) (fun c4 => ?_) (fun c4 => ?_)
  · have k := k.1 c4
    refine Ev_iconst (v := 0) hq_30 (show decode prog_5_method_10_code 9 = .ok (.iconst 0, 1) by decide +kernel) (by decide) ?_
    refine Ev_istore_n (lo2 := [.ref 39, .int 0]) hq_30 (show decode prog_5_method_10_code 10 = .ok (.istore_n 1, 1) by decide +kernel) (z_le rfl) rfl ?_
    exact k
  · have k := k.2 (Classical.not_not.mp c4)
    refine Ev_iconst (v := 0) hq_30 (show decode prog_5_method_10_code 7 = .ok (.iconst 0, 1) by decide +kernel) (by decide) ?_
    exact Ev_iret hq_30 (show decode prog_5_method_10_code 8 = .ok (.ireturn, 1) by decide +kernel) rfl k
set_option maxRecDepth 20000 in
theorem w5_R_readTerm_11 {X : Nat × (Nat → Int32)} {d : Nat} {G : zG} {I : zI} {res : Option Value × zG × zI} (x1 : Int32) (hS : S5 G) 
    (k : (160 ≤ x1 → res = (some (.int 1), G, I)) ∧ (¬ 160 ≤ x1 → (¬ (I 39 4) = 8 → res = (some (.int 1), G, I)) ∧ ((I 39 4) = 8 → ∃ (I3 : zI), Cv X d 14 [.ref 39] G I (none, G, I3) ∧ (∃ (r7 : Int32) (I5 : zI), Cv X d 31 [.ref 39] G I3 (some (.int r7), G, I5) ∧ ((r7 = 0 → res = (some (.int 0), G, I5)) ∧ (¬ r7 = 0 → ∃ (r11 : Int32) (I9 : zI), Cv X d 28 [.ref 39, .int 20006] G I5 (some (.int r11), G, I9) ∧ ((¬ r11 = 0 → ∀ y13 : Int32, y13 = x1 + 1 → Ev X (d + 1) 30 11 [.ref 39, .int y13] [] G I9 res) ∧ (r11 = 0 → res = (some (.int 0), G, I9))))))))) :
    Ev X (d + 1) 30 11 [.ref 39, .int x1] [] G I res := by
  refine Ev_iload_n hq_30 (show decode prog_5_method_10_code 11 = .ok (.iload_n 1, 1) by decide +kernel) rfl ?_
  refine Ev_sipush (v := 160) hq_30 (show decode prog_5_method_10_code 12 = .ok (.sipush 160, 3) by decide +kernel) (by decide) ?_
  refine Ev_icmp_ge (tgt := 56) hq_30 (show decode prog_5_method_10_code 15 = .ok (.if_icmp .ge 41, 3) by decide +kernel) (by decide) (fun c1 => ?_) (fun c1 => ?_)
  · have k := k.1 c1
    refine Ev_iconst (v := 1) hq_30 (show decode prog_5_method_10_code 56 = .ok (.iconst 1, 1) by decide +kernel) (by decide) ?_
    exact Ev_iret hq_30 (show decode prog_5_method_10_code 57 = .ok (.ireturn, 1) by decide +kernel) rfl k
  · have k := k.2 c1
    refine Ev_aload_n hq_30 (show decode prog_5_method_10_code 18 = .ok (.aload_n 0, 1) by decide +kernel) rfl ?_
    refine Ev_getI hq_30 (show decode prog_5_method_10_code 19 = .ok (.getfield 25, 3) by decide +kernel) rfl (S5n hS (by decide)) (S5k hS rfl) (by decide) rfl ?_
    refine Ev_bipush (v := 8) hq_30 (show decode prog_5_method_10_code 22 = .ok (.bipush 8, 2) by decide +kernel) (by decide) ?_
    refine Ev_icmp_ne (tgt := 56) hq_30 (show decode prog_5_method_10_code 24 = .ok (.if_icmp .ne 32, 3) by decide +kernel) (by decide) (fun c2 => ?_) (fun c2 => ?_)
    · have k := k.1 c2
      refine Ev_iconst (v := 1) hq_30 (show decode prog_5_method_10_code 56 = .ok (.iconst 1, 1) by decide +kernel) (by decide) ?_
      exact Ev_iret hq_30 (show decode prog_5_method_10_code 57 = .ok (.ireturn, 1) by decide +kernel) rfl k
    · have k := k.2 (Classical.not_not.mp c2)
      refine Ev_aload_n hq_30 (show decode prog_5_method_10_code 27 = .ok (.aload_n 0, 1) by decide +kernel) rfl ?_
      obtain ⟨I3, h4, k⟩ := k
      refine Ev_virt (as := []) hq_30 (show decode prog_5_method_10_code 28 = .ok (.invokevirtual 49, 3) by decide +kernel) rfl hq_14 rfl (z_le rfl) ⟨(S5n hS (by decide)), (S5k hS rfl), by decide⟩ h4 ?_
      refine Ev_aload_n hq_30 (show decode prog_5_method_10_code 31 = .ok (.aload_n 0, 1) by decide +kernel) rfl ?_
      obtain ⟨r7, I5, h6, k⟩ := k
      refine Ev_virt (as := []) hq_30 (show decode prog_5_method_10_code 32 = .ok (.invokevirtual 101, 3) by decide +kernel) rfl hq_31 rfl (z_le rfl) ⟨(S5n hS (by decide)), (S5k hS rfl), by decide⟩ h6 ?_
      refine Ev_if_eq (tgt := 48) hq_30 (show decode prog_5_method_10_code 35 = .ok (.ifCond .eq 13, 3) by decide +kernel) (by decide) (fun c8 => ?_) (fun c8 => ?_)
      · have k := k.1 c8
        refine Ev_iconst (v := 0) hq_30 (show decode prog_5_method_10_code 48 = .ok (.iconst 0, 1) by decide +kernel) (by decide) ?_
        exact Ev_iret hq_30 (show decode prog_5_method_10_code 49 = .ok (.ireturn, 1) by decide +kernel) rfl k
      · have k := k.2 c8
        refine Ev_aload_n hq_30 (show decode prog_5_method_10_code 38 = .ok (.aload_n 0, 1) by decide +kernel) rfl ?_
        refine Ev_sipush (v := 20006) hq_30 (show decode prog_5_method_10_code 39 = .ok (.sipush 20006, 3) by decide +kernel) (by decide) ?_
        obtain ⟨r11, I9, h10, k⟩ := k
        refine Ev_virt (as := [.int 20006]) hq_30 (show decode prog_5_method_10_code 42 = .ok (.invokevirtual 83, 3) by decide +kernel) rfl hq_28 rfl (z_le rfl) ⟨(S5n hS (by decide)), (S5k hS rfl), by decide⟩ h10 ?_
        refine Ev_if_ne (tgt := 50) hq_30 (show decode prog_5_method_10_code 45 = .ok (.ifCond .ne 5, 3) by decide +kernel) (by decide) (fun c12 => ?_) (fun c12 => ?_)
        · have k := k.1 c12
          obtain ⟨y13, ey13⟩ : ∃ y13 : Int32, y13 = x1 + 1 := ⟨_, rfl⟩
          have k := k y13 ey13
          refine Ev_iinc (v := y13) (lo2 := [.ref 39, .int y13]) hq_30 (show decode prog_5_method_10_code 50 = .ok (.iinc 1 1, 3) by decide +kernel) rfl (by rw [ey13]; rfl) rfl ?_
          refine Ev_goto (tgt := 11) hq_30 (show decode prog_5_method_10_code 53 = .ok (.goto (-42), 3) by decide +kernel) (by decide) ?_
          exact k
        · have k := k.2 (Classical.not_not.mp c12)
          refine Ev_iconst (v := 0) hq_30 (show decode prog_5_method_10_code 48 = .ok (.iconst 0, 1) by decide +kernel) (by decide) ?_
          exact Ev_iret hq_30 (show decode prog_5_method_10_code 49 = .ok (.ireturn, 1) by decide +kernel) rfl k
set_option maxRecDepth 20000 in
theorem w5_R_readSum {X : Nat × (Nat → Int32)} {d : Nat} {G : zG} {I : zI} {res : Option Value × zG × zI}  (hS : S5 G) 
    (k : ∃ (r3 : Int32) (I1 : zI), Cv X d 30 [.ref 39] G I (some (.int r3), G, I1) ∧ ((¬ r3 = 0 → Ev X (d + 1) 29 11 [.ref 39, .int 0, zU] [] G I1 res) ∧ (r3 = 0 → res = (some (.int 0), G, I1)))) :
    Ev X (d + 1) 29 0 [.ref 39, zU, zU] [] G I res := by
  refine Ev_aload_n hq_29 (show decode prog_5_method_9_code 0 = .ok (.aload_n 0, 1) by decide +kernel) rfl ?_
  obtain ⟨r3, I1, h2, k⟩ := k
  refine Ev_virt (as := []) hq_29 (show decode prog_5_method_9_code 1 = .ok (.invokevirtual 98, 3) by decide +kernel) rfl hq_30 rfl (z_le rfl) ⟨(S5n hS (by decide)), (S5k hS rfl), by decide⟩ h2 ?_
  refine Ev_if_ne (tgt := 9) hq_29 (show decode prog_5_method_9_code 4 = .ok (.ifCond .ne 5, 3) by decide +kernel) (by decide) (fun c4 => ?_) (fun c4 => ?_)
  · have k := k.1 c4
    refine Ev_iconst (v := 0) hq_29 (show decode prog_5_method_9_code 9 = .ok (.iconst 0, 1) by decide +kernel) (by decide) ?_
    refine Ev_istore_n (lo2 := [.ref 39, .int 0, zU]) hq_29 (show decode prog_5_method_9_code 10 = .ok (.istore_n 1, 1) by decide +kernel) (z_le rfl) rfl ?_
    exact k
  · have k := k.2 (Classical.not_not.mp c4)
    refine Ev_iconst (v := 0) hq_29 (show decode prog_5_method_9_code 7 = .ok (.iconst 0, 1) by decide +kernel) (by decide) ?_
    exact Ev_iret hq_29 (show decode prog_5_method_9_code 8 = .ok (.ireturn, 1) by decide +kernel) rfl k
set_option maxRecDepth 20000 in
theorem w5_R_readSum_11 {X : Nat × (Nat → Int32)} {d : Nat} {G : zG} {I : zI} {res : Option Value × zG × zI} (x1 : Int32) (v2 : Value) (cv2 : v2.category = 1) (hS : S5 G) 
    (k : (160 ≤ x1 → res = (some (.int 1), G, I)) ∧ (¬ 160 ≤ x1 → ((I 39 4) = 6 → (¬ (I 39 4) = 6 → ∃ (I4 : zI), Cv X d 14 [.ref 39] G I (none, G, I4) ∧ (∃ (r8 : Int32) (I6 : zI), Cv X d 30 [.ref 39] G I4 (some (.int r8), G, I6) ∧ ((r8 = 0 → res = (some (.int 0), G, I6)) ∧ (¬ r8 = 0 → ∃ (r12 : Int32) (I10 : zI), Cv X d 28 [.ref 39, .int 20005] G I6 (some (.int r12), G, I10) ∧ ((¬ r12 = 0 → ∀ y14 : Int32, y14 = x1 + 1 → Ev X (d + 1) 29 11 [.ref 39, .int y14, .int 20005] [] G I10 res) ∧ (r12 = 0 → res = (some (.int 0), G, I10))))))) ∧ ((I 39 4) = 6 → ∃ (I15 : zI), Cv X d 14 [.ref 39] G I (none, G, I15) ∧ (∃ (r19 : Int32) (I17 : zI), Cv X d 30 [.ref 39] G I15 (some (.int r19), G, I17) ∧ ((r19 = 0 → res = (some (.int 0), G, I17)) ∧ (¬ r19 = 0 → ∃ (r23 : Int32) (I21 : zI), Cv X d 28 [.ref 39, .int 20004] G I17 (some (.int r23), G, I21) ∧ ((¬ r23 = 0 → ∀ y25 : Int32, y25 = x1 + 1 → Ev X (d + 1) 29 11 [.ref 39, .int y25, .int 20004] [] G I21 res) ∧ (r23 = 0 → res = (some (.int 0), G, I21)))))))) ∧ (¬ (I 39 4) = 6 → (¬ (I 39 4) = 7 → res = (some (.int 1), G, I)) ∧ ((I 39 4) = 7 → (¬ (I 39 4) = 6 → ∃ (I28 : zI), Cv X d 14 [.ref 39] G I (none, G, I28) ∧ (∃ (r32 : Int32) (I30 : zI), Cv X d 30 [.ref 39] G I28 (some (.int r32), G, I30) ∧ ((r32 = 0 → res = (some (.int 0), G, I30)) ∧ (¬ r32 = 0 → ∃ (r36 : Int32) (I34 : zI), Cv X d 28 [.ref 39, .int 20005] G I30 (some (.int r36), G, I34) ∧ ((¬ r36 = 0 → ∀ y38 : Int32, y38 = x1 + 1 → Ev X (d + 1) 29 11 [.ref 39, .int y38, .int 20005] [] G I34 res) ∧ (r36 = 0 → res = (some (.int 0), G, I34))))))) ∧ ((I 39 4) = 6 → ∃ (I39 : zI), Cv X d 14 [.ref 39] G I (none, G, I39) ∧ (∃ (r43 : Int32) (I41 : zI), Cv X d 30 [.ref 39] G I39 (some (.int r43), G, I41) ∧ ((r43 = 0 → res = (some (.int 0), G, I41)) ∧ (¬ r43 = 0 → ∃ (r47 : Int32) (I45 : zI), Cv X d 28 [.ref 39, .int 20004] G I41 (some (.int r47), G, I45) ∧ ((¬ r47 = 0 → ∀ y49 : Int32, y49 = x1 + 1 → Ev X (d + 1) 29 11 [.ref 39, .int y49, .int 20004] [] G I45 res) ∧ (r47 = 0 → res = (some (.int 0), G, I45))))))))))) :
    Ev X (d + 1) 29 11 [.ref 39, .int x1, v2] [] G I res := by
  refine Ev_iload_n hq_29 (show decode prog_5_method_9_code 11 = .ok (.iload_n 1, 1) by decide +kernel) rfl ?_
  refine Ev_sipush (v := 160) hq_29 (show decode prog_5_method_9_code 12 = .ok (.sipush 160, 3) by decide +kernel) (by decide) ?_
  refine Ev_icmp_ge (tgt := 82) hq_29 (show decode prog_5_method_9_code 15 = .ok (.if_icmp .ge 67, 3) by decide +kernel) (by decide) (fun c1 => ?_) (fun c1 => ?_)
  · have k := k.1 c1
    refine Ev_iconst (v := 1) hq_29 (show decode prog_5_method_9_code 82 = .ok (.iconst 1, 1) by decide +kernel) (by decide) ?_
    exact Ev_iret hq_29 (show decode prog_5_method_9_code 83 = .ok (.ireturn, 1) by decide +kernel) rfl k
  · have k := k.2 c1
    refine Ev_aload_n hq_29 (show decode prog_5_method_9_code 18 = .ok (.aload_n 0, 1) by decide +kernel) rfl ?_
    refine Ev_getI hq_29 (show decode prog_5_method_9_code 19 = .ok (.getfield 25, 3) by decide +kernel) rfl (S5n hS (by decide)) (S5k hS rfl) (by decide) rfl ?_
    refine Ev_bipush (v := 6) hq_29 (show decode prog_5_method_9_code 22 = .ok (.bipush 6, 2) by decide +kernel) (by decide) ?_
    refine Ev_icmp_eq (tgt := 36) hq_29 (show decode prog_5_method_9_code 24 = .ok (.if_icmp .eq 12, 3) by decide +kernel) (by decide) (fun c2 => ?_) (fun c2 => ?_)
    · have k := k.1 c2
      refine Ev_aload_n hq_29 (show decode prog_5_method_9_code 36 = .ok (.aload_n 0, 1) by decide +kernel) rfl ?_
      refine Ev_getI hq_29 (show decode prog_5_method_9_code 37 = .ok (.getfield 25, 3) by decide +kernel) rfl (S5n hS (by decide)) (S5k hS rfl) (by decide) rfl ?_
      refine Ev_bipush (v := 6) hq_29 (show decode prog_5_method_9_code 40 = .ok (.bipush 6, 2) by decide +kernel) (by decide) ?_
      refine Ev_icmp_ne (tgt := 51) hq_29 (show decode prog_5_method_9_code 42 = .ok (.if_icmp .ne 9, 3) by decide +kernel) (by decide) (fun c3 => ?_) (fun c3 => ?_)
      · have k := k.1 c3
        refine Ev_sipush (v := 20005) hq_29 (show decode prog_5_method_9_code 51 = .ok (.sipush 20005, 3) by decide +kernel) (by decide) ?_
        refine Ev_istore_n (lo2 := [.ref 39, .int x1, .int 20005]) hq_29 (show decode prog_5_method_9_code 54 = .ok (.istore_n 2, 1) by decide +kernel) (z_le rfl) rfl ?_
        refine Ev_aload_n hq_29 (show decode prog_5_method_9_code 55 = .ok (.aload_n 0, 1) by decide +kernel) rfl ?_
        obtain ⟨I4, h5, k⟩ := k
        refine Ev_virt (as := []) hq_29 (show decode prog_5_method_9_code 56 = .ok (.invokevirtual 49, 3) by decide +kernel) rfl hq_14 rfl (z_le rfl) ⟨(S5n hS (by decide)), (S5k hS rfl), by decide⟩ h5 ?_
        refine Ev_aload_n hq_29 (show decode prog_5_method_9_code 59 = .ok (.aload_n 0, 1) by decide +kernel) rfl ?_
        obtain ⟨r8, I6, h7, k⟩ := k
        refine Ev_virt (as := []) hq_29 (show decode prog_5_method_9_code 60 = .ok (.invokevirtual 98, 3) by decide +kernel) rfl hq_30 rfl (z_le rfl) ⟨(S5n hS (by decide)), (S5k hS rfl), by decide⟩ h7 ?_
        refine Ev_if_eq (tgt := 74) hq_29 (show decode prog_5_method_9_code 63 = .ok (.ifCond .eq 11, 3) by decide +kernel) (by decide) (fun c9 => ?_) (fun c9 => ?_)
        · have k := k.1 c9
          refine Ev_iconst (v := 0) hq_29 (show decode prog_5_method_9_code 74 = .ok (.iconst 0, 1) by decide +kernel) (by decide) ?_
          exact Ev_iret hq_29 (show decode prog_5_method_9_code 75 = .ok (.ireturn, 1) by decide +kernel) rfl k
        · have k := k.2 c9
          refine Ev_aload_n hq_29 (show decode prog_5_method_9_code 66 = .ok (.aload_n 0, 1) by decide +kernel) rfl ?_
          refine Ev_iload_n hq_29 (show decode prog_5_method_9_code 67 = .ok (.iload_n 2, 1) by decide +kernel) rfl ?_
          obtain ⟨r12, I10, h11, k⟩ := k
          refine Ev_virt (as := [.int 20005]) hq_29 (show decode prog_5_method_9_code 68 = .ok (.invokevirtual 83, 3) by decide +kernel) rfl hq_28 rfl (z_le rfl) ⟨(S5n hS (by decide)), (S5k hS rfl), by decide⟩ h11 ?_
          refine Ev_if_ne (tgt := 76) hq_29 (show decode prog_5_method_9_code 71 = .ok (.ifCond .ne 5, 3) by decide +kernel) (by decide) (fun c13 => ?_) (fun c13 => ?_)
          · have k := k.1 c13
            obtain ⟨y14, ey14⟩ : ∃ y14 : Int32, y14 = x1 + 1 := ⟨_, rfl⟩
            have k := k y14 ey14
            refine Ev_iinc (v := y14) (lo2 := [.ref 39, .int y14, .int 20005]) hq_29 (show decode prog_5_method_9_code 76 = .ok (.iinc 1 1, 3) by decide +kernel) rfl (by rw [ey14]; rfl) rfl ?_
            refine Ev_goto (tgt := 11) hq_29 (show decode prog_5_method_9_code 79 = .ok (.goto (-68), 3) by decide +kernel) (by decide) ?_
            exact k
          · have k := k.2 (Classical.not_not.mp c13)
            refine Ev_iconst (v := 0) hq_29 (show decode prog_5_method_9_code 74 = .ok (.iconst 0, 1) by decide +kernel) (by decide) ?_
            exact Ev_iret hq_29 (show decode prog_5_method_9_code 75 = .ok (.ireturn, 1) by decide +kernel) rfl k
      · have k := k.2 (Classical.not_not.mp c3)
        refine Ev_sipush (v := 20004) hq_29 (show decode prog_5_method_9_code 45 = .ok (.sipush 20004, 3) by decide +kernel) (by decide) ?_
        refine Ev_goto (tgt := 54) hq_29 (show decode prog_5_method_9_code 48 = .ok (.goto 6, 3) by decide +kernel) (by decide) ?_
        refine Ev_istore_n (lo2 := [.ref 39, .int x1, .int 20004]) hq_29 (show decode prog_5_method_9_code 54 = .ok (.istore_n 2, 1) by decide +kernel) (z_le rfl) rfl ?_
        refine Ev_aload_n hq_29 (show decode prog_5_method_9_code 55 = .ok (.aload_n 0, 1) by decide +kernel) rfl ?_
        obtain ⟨I15, h16, k⟩ := k
        refine Ev_virt (as := []) hq_29 (show decode prog_5_method_9_code 56 = .ok (.invokevirtual 49, 3) by decide +kernel) rfl hq_14 rfl (z_le rfl) ⟨(S5n hS (by decide)), (S5k hS rfl), by decide⟩ h16 ?_
        refine Ev_aload_n hq_29 (show decode prog_5_method_9_code 59 = .ok (.aload_n 0, 1) by decide +kernel) rfl ?_
        obtain ⟨r19, I17, h18, k⟩ := k
        refine Ev_virt (as := []) hq_29 (show decode prog_5_method_9_code 60 = .ok (.invokevirtual 98, 3) by decide +kernel) rfl hq_30 rfl (z_le rfl) ⟨(S5n hS (by decide)), (S5k hS rfl), by decide⟩ h18 ?_
        refine Ev_if_eq (tgt := 74) hq_29 (show decode prog_5_method_9_code 63 = .ok (.ifCond .eq 11, 3) by decide +kernel) (by decide) (fun c20 => ?_) (fun c20 => ?_)
        · have k := k.1 c20
          refine Ev_iconst (v := 0) hq_29 (show decode prog_5_method_9_code 74 = .ok (.iconst 0, 1) by decide +kernel) (by decide) ?_
          exact Ev_iret hq_29 (show decode prog_5_method_9_code 75 = .ok (.ireturn, 1) by decide +kernel) rfl k
        · have k := k.2 c20
          refine Ev_aload_n hq_29 (show decode prog_5_method_9_code 66 = .ok (.aload_n 0, 1) by decide +kernel) rfl ?_
          refine Ev_iload_n hq_29 (show decode prog_5_method_9_code 67 = .ok (.iload_n 2, 1) by decide +kernel) rfl ?_
          obtain ⟨r23, I21, h22, k⟩ := k
          refine Ev_virt (as := [.int 20004]) hq_29 (show decode prog_5_method_9_code 68 = .ok (.invokevirtual 83, 3) by decide +kernel) rfl hq_28 rfl (z_le rfl) ⟨(S5n hS (by decide)), (S5k hS rfl), by decide⟩ h22 ?_
          refine Ev_if_ne (tgt := 76) hq_29 (show decode prog_5_method_9_code 71 = .ok (.ifCond .ne 5, 3) by decide +kernel) (by decide) (fun c24 => ?_) (fun c24 => ?_)
          · have k := k.1 c24
            obtain ⟨y25, ey25⟩ : ∃ y25 : Int32, y25 = x1 + 1 := ⟨_, rfl⟩
            have k := k y25 ey25
            refine Ev_iinc (v := y25) (lo2 := [.ref 39, .int y25, .int 20004]) hq_29 (show decode prog_5_method_9_code 76 = .ok (.iinc 1 1, 3) by decide +kernel) rfl (by rw [ey25]; rfl) rfl ?_
            refine Ev_goto (tgt := 11) hq_29 (show decode prog_5_method_9_code 79 = .ok (.goto (-68), 3) by decide +kernel) (by decide) ?_
            exact k
          · have k := k.2 (Classical.not_not.mp c24)
            refine Ev_iconst (v := 0) hq_29 (show decode prog_5_method_9_code 74 = .ok (.iconst 0, 1) by decide +kernel) (by decide) ?_
            exact Ev_iret hq_29 (show decode prog_5_method_9_code 75 = .ok (.ireturn, 1) by decide +kernel) rfl k
    · have k := k.2 c2
      refine Ev_aload_n hq_29 (show decode prog_5_method_9_code 27 = .ok (.aload_n 0, 1) by decide +kernel) rfl ?_
      refine Ev_getI hq_29 (show decode prog_5_method_9_code 28 = .ok (.getfield 25, 3) by decide +kernel) rfl (S5n hS (by decide)) (S5k hS rfl) (by decide) rfl ?_
      refine Ev_bipush (v := 7) hq_29 (show decode prog_5_method_9_code 31 = .ok (.bipush 7, 2) by decide +kernel) (by decide) ?_
      refine Ev_icmp_ne (tgt := 82) hq_29 (show decode prog_5_method_9_code 33 = .ok (.if_icmp .ne 49, 3) by decide +kernel) (by decide) (fun c26 => ?_) (fun c26 => ?_)
      · have k := k.1 c26
        refine Ev_iconst (v := 1) hq_29 (show decode prog_5_method_9_code 82 = .ok (.iconst 1, 1) by decide +kernel) (by decide) ?_
        exact Ev_iret hq_29 (show decode prog_5_method_9_code 83 = .ok (.ireturn, 1) by decide +kernel) rfl k
      · have k := k.2 (Classical.not_not.mp c26)
        refine Ev_aload_n hq_29 (show decode prog_5_method_9_code 36 = .ok (.aload_n 0, 1) by decide +kernel) rfl ?_
        refine Ev_getI hq_29 (show decode prog_5_method_9_code 37 = .ok (.getfield 25, 3) by decide +kernel) rfl (S5n hS (by decide)) (S5k hS rfl) (by decide) rfl ?_
        refine Ev_bipush (v := 6) hq_29 (show decode prog_5_method_9_code 40 = .ok (.bipush 6, 2) by decide +kernel) (by decide) ?_
        refine Ev_icmp_ne (tgt := 51) hq_29 (show decode prog_5_method_9_code 42 = .ok (.if_icmp .ne 9, 3) by decide +kernel) (by decide) (fun c27 => ?_) (fun c27 => ?_)
        · have k := k.1 c27
          refine Ev_sipush (v := 20005) hq_29 (show decode prog_5_method_9_code 51 = .ok (.sipush 20005, 3) by decide +kernel) (by decide) ?_
          refine Ev_istore_n (lo2 := [.ref 39, .int x1, .int 20005]) hq_29 (show decode prog_5_method_9_code 54 = .ok (.istore_n 2, 1) by decide +kernel) (z_le rfl) rfl ?_
          refine Ev_aload_n hq_29 (show decode prog_5_method_9_code 55 = .ok (.aload_n 0, 1) by decide +kernel) rfl ?_
          obtain ⟨I28, h29, k⟩ := k
          refine Ev_virt (as := []) hq_29 (show decode prog_5_method_9_code 56 = .ok (.invokevirtual 49, 3) by decide +kernel) rfl hq_14 rfl (z_le rfl) ⟨(S5n hS (by decide)), (S5k hS rfl), by decide⟩ h29 ?_
          refine Ev_aload_n hq_29 (show decode prog_5_method_9_code 59 = .ok (.aload_n 0, 1) by decide +kernel) rfl ?_
          obtain ⟨r32, I30, h31, k⟩ := k
          refine Ev_virt (as := []) hq_29 (show decode prog_5_method_9_code 60 = .ok (.invokevirtual 98, 3) by decide +kernel) rfl hq_30 rfl (z_le rfl) ⟨(S5n hS (by decide)), (S5k hS rfl), by decide⟩ h31 ?_
          refine Ev_if_eq (tgt := 74) hq_29 (show decode prog_5_method_9_code 63 = .ok (.ifCond .eq 11, 3) by decide +kernel) (by decide) (fun c33 => ?_) (fun c33 => ?_)
          · have k := k.1 c33
            refine Ev_iconst (v := 0) hq_29 (show decode prog_5_method_9_code 74 = .ok (.iconst 0, 1) by decide +kernel) (by decide) ?_
            exact Ev_iret hq_29 (show decode prog_5_method_9_code 75 = .ok (.ireturn, 1) by decide +kernel) rfl k
          · have k := k.2 c33
            refine Ev_aload_n hq_29 (show decode prog_5_method_9_code 66 = .ok (.aload_n 0, 1) by decide +kernel) rfl ?_
            refine Ev_iload_n hq_29 (show decode prog_5_method_9_code 67 = .ok (.iload_n 2, 1) by decide +kernel) rfl ?_
            obtain ⟨r36, I34, h35, k⟩ := k
            refine Ev_virt (as := [.int 20005]) hq_29 (show decode prog_5_method_9_code 68 = .ok (.invokevirtual 83, 3) by decide +kernel) rfl hq_28 rfl (z_le rfl) ⟨(S5n hS (by decide)), (S5k hS rfl), by decide⟩ h35 ?_
            refine Ev_if_ne (tgt := 76) hq_29 (show decode prog_5_method_9_code 71 = .ok (.ifCond .ne 5, 3) by decide +kernel) (by decide) (fun c37 => ?_) (fun c37 => ?_)
            · have k := k.1 c37
              obtain ⟨y38, ey38⟩ : ∃ y38 : Int32, y38 = x1 + 1 := ⟨_, rfl⟩
              have k := k y38 ey38
              refine Ev_iinc (v := y38) (lo2 := [.ref 39, .int y38, .int 20005]) hq_29 (show decode prog_5_method_9_code 76 = .ok (.iinc 1 1, 3) by decide +kernel) rfl (by rw [ey38]; rfl) rfl ?_
              refine Ev_goto (tgt := 11) hq_29 (show decode prog_5_method_9_code 79 = .ok (.goto (-68), 3) by decide +kernel) (by decide) ?_
              exact k
            · have k := k.2 (Classical.not_not.mp c37)
              refine Ev_iconst (v := 0) hq_29 (show decode prog_5_method_9_code 74 = .ok (.iconst 0, 1) by decide +kernel) (by decide) ?_
              exact Ev_iret hq_29 (show decode prog_5_method_9_code 75 = .ok (.ireturn, 1) by decide +kernel) rfl k
        · have k := k.2 (Classical.not_not.mp c27)
          refine Ev_sipush (v := 20004) hq_29 (show decode prog_5_method_9_code 45 = .ok (.sipush 20004, 3) by decide +kernel) (by decide) ?_
          refine Ev_goto (tgt := 54) hq_29 (show decode prog_5_method_9_code 48 = .ok (.goto 6, 3) by decide +kernel) (by decide) ?_
          refine Ev_istore_n (lo2 := [.ref 39, .int x1, .int 20004]) hq_29 (show decode prog_5_method_9_code 54 = .ok (.istore_n 2, 1) by decide +kernel) (z_le rfl) rfl ?_
          refine Ev_aload_n hq_29 (show decode prog_5_method_9_code 55 = .ok (.aload_n 0, 1) by decide +kernel) rfl ?_
          obtain ⟨I39, h40, k⟩ := k
          refine Ev_virt (as := []) hq_29 (show decode prog_5_method_9_code 56 = .ok (.invokevirtual 49, 3) by decide +kernel) rfl hq_14 rfl (z_le rfl) ⟨(S5n hS (by decide)), (S5k hS rfl), by decide⟩ h40 ?_
          refine Ev_aload_n hq_29 (show decode prog_5_method_9_code 59 = .ok (.aload_n 0, 1) by decide +kernel) rfl ?_
          obtain ⟨r43, I41, h42, k⟩ := k
          refine Ev_virt (as := []) hq_29 (show decode prog_5_method_9_code 60 = .ok (.invokevirtual 98, 3) by decide +kernel) rfl hq_30 rfl (z_le rfl) ⟨(S5n hS (by decide)), (S5k hS rfl), by decide⟩ h42 ?_
          refine Ev_if_eq (tgt := 74) hq_29 (show decode prog_5_method_9_code 63 = .ok (.ifCond .eq 11, 3) by decide +kernel) (by decide) (fun c44 => ?_) (fun c44 => ?_)
          · have k := k.1 c44
            refine Ev_iconst (v := 0) hq_29 (show decode prog_5_method_9_code 74 = .ok (.iconst 0, 1) by decide +kernel) (by decide) ?_
            exact Ev_iret hq_29 (show decode prog_5_method_9_code 75 = .ok (.ireturn, 1) by decide +kernel) rfl k
          · have k := k.2 c44
            refine Ev_aload_n hq_29 (show decode prog_5_method_9_code 66 = .ok (.aload_n 0, 1) by decide +kernel) rfl ?_
            refine Ev_iload_n hq_29 (show decode prog_5_method_9_code 67 = .ok (.iload_n 2, 1) by decide +kernel) rfl ?_
            obtain ⟨r47, I45, h46, k⟩ := k
            refine Ev_virt (as := [.int 20004]) hq_29 (show decode prog_5_method_9_code 68 = .ok (.invokevirtual 83, 3) by decide +kernel) rfl hq_28 rfl (z_le rfl) ⟨(S5n hS (by decide)), (S5k hS rfl), by decide⟩ h46 ?_
            refine Ev_if_ne (tgt := 76) hq_29 (show decode prog_5_method_9_code 71 = .ok (.ifCond .ne 5, 3) by decide +kernel) (by decide) (fun c48 => ?_) (fun c48 => ?_)
            · have k := k.1 c48
              obtain ⟨y49, ey49⟩ : ∃ y49 : Int32, y49 = x1 + 1 := ⟨_, rfl⟩
              have k := k y49 ey49
              refine Ev_iinc (v := y49) (lo2 := [.ref 39, .int y49, .int 20004]) hq_29 (show decode prog_5_method_9_code 76 = .ok (.iinc 1 1, 3) by decide +kernel) rfl (by rw [ey49]; rfl) rfl ?_
              refine Ev_goto (tgt := 11) hq_29 (show decode prog_5_method_9_code 79 = .ok (.goto (-68), 3) by decide +kernel) (by decide) ?_
              exact k
            · have k := k.2 (Classical.not_not.mp c48)
              refine Ev_iconst (v := 0) hq_29 (show decode prog_5_method_9_code 74 = .ok (.iconst 0, 1) by decide +kernel) (by decide) ?_
              exact Ev_iret hq_29 (show decode prog_5_method_9_code 75 = .ok (.ireturn, 1) by decide +kernel) rfl k
set_option maxRecDepth 20000 in
theorem w5_R_readNot {X : Nat × (Nat → Int32)} {d : Nat} {G : zG} {I : zI} {res : Option Value × zG × zI}  (hS : S5 G) 
    (k : (¬ (I 39 4) = 16 → ∃ (r4 : Int32) (I2 : zI), Cv X d 29 [.ref 39] G I (some (.int r4), G, I2) ∧ ((¬ r4 = 0 → ((I2 39 4) = 9 → (¬ (I2 39 4) = 9 → ∃ (I8 : zI), Cv X d 14 [.ref 39] G I2 (none, G, I8) ∧ (∃ (r12 : Int32) (I10 : zI), Cv X d 29 [.ref 39] G I8 (some (.int r12), G, I10) ∧ ((r12 = 0 → res = (some (.int 0), G, I10)) ∧ (¬ r12 = 0 → ∃ (r16 : Int32) (I14 : zI), Cv X d 28 [.ref 39, .int 20003] G I10 (some (.int r16), G, I14) ∧ ((r16 = 0 → res = (some (.int 0), G, I14)) ∧ (¬ r16 = 0 → res = (some (.int 1), G, I14))))))) ∧ ((I2 39 4) = 9 → ∃ (I18 : zI), Cv X d 14 [.ref 39] G I2 (none, G, I18) ∧ (∃ (r22 : Int32) (I20 : zI), Cv X d 29 [.ref 39] G I18 (some (.int r22), G, I20) ∧ ((r22 = 0 → res = (some (.int 0), G, I20)) ∧ (¬ r22 = 0 → ∃ (r26 : Int32) (I24 : zI), Cv X d 28 [.ref 39, .int 20002] G I20 (some (.int r26), G, I24) ∧ ((r26 = 0 → res = (some (.int 0), G, I24)) ∧ (¬ r26 = 0 → res = (some (.int 1), G, I24)))))))) ∧ (¬ (I2 39 4) = 9 → ((I2 39 4) = 10 → (¬ (I2 39 4) = 9 → ∃ (I30 : zI), Cv X d 14 [.ref 39] G I2 (none, G, I30) ∧ (∃ (r34 : Int32) (I32 : zI), Cv X d 29 [.ref 39] G I30 (some (.int r34), G, I32) ∧ ((r34 = 0 → res = (some (.int 0), G, I32)) ∧ (¬ r34 = 0 → ∃ (r38 : Int32) (I36 : zI), Cv X d 28 [.ref 39, .int 20003] G I32 (some (.int r38), G, I36) ∧ ((r38 = 0 → res = (some (.int 0), G, I36)) ∧ (¬ r38 = 0 → res = (some (.int 1), G, I36))))))) ∧ ((I2 39 4) = 9 → ∃ (I40 : zI), Cv X d 14 [.ref 39] G I2 (none, G, I40) ∧ (∃ (r44 : Int32) (I42 : zI), Cv X d 29 [.ref 39] G I40 (some (.int r44), G, I42) ∧ ((r44 = 0 → res = (some (.int 0), G, I42)) ∧ (¬ r44 = 0 → ∃ (r48 : Int32) (I46 : zI), Cv X d 28 [.ref 39, .int 20002] G I42 (some (.int r48), G, I46) ∧ ((r48 = 0 → res = (some (.int 0), G, I46)) ∧ (¬ r48 = 0 → res = (some (.int 1), G, I46)))))))) ∧ (¬ (I2 39 4) = 10 → res = (some (.int 1), G, I2)))) ∧ (r4 = 0 → res = (some (.int 0), G, I2)))) ∧ ((I 39 4) = 16 → ∃ (r52 : Int32) (I50 : zI), Cv X d 26 [.ref 39] G I (some (.int r52), G, I50) ∧ ((¬ r52 = 0 → ∃ (r56 : Int32) (I54 : zI), Cv X d 25 [.ref 39] G I50 (some (.int r56), G, I54) ∧ ((r56 = 0 → res = (some (.int 0), G, I54)) ∧ (¬ r56 = 0 → ∃ (r60 : Int32) (I58 : zI), Cv X d 27 [.ref 39] G I54 (some (.int r60), G, I58) ∧ ((r60 = 0 → res = (some (.int 0), G, I58)) ∧ (¬ r60 = 0 → ∃ (r64 : Int32) (I62 : zI), Cv X d 28 [.ref 39, .int 20007] G I58 (some (.int r64), G, I62) ∧ ((r64 = 0 → res = (some (.int 0), G, I62)) ∧ (¬ r64 = 0 → res = (some (.int 1), G, I62)))))))) ∧ (r52 = 0 → res = (some (.int 0), G, I50))))) :
    Ev X (d + 1) 25 0 [.ref 39, zU] [] G I res := by
  refine Ev_aload_n hq_25 (show decode prog_5_method_8_code 0 = .ok (.aload_n 0, 1) by decide +kernel) rfl ?_
  refine Ev_getI hq_25 (show decode prog_5_method_8_code 1 = .ok (.getfield 25, 3) by decide +kernel) rfl (S5n hS (by decide)) (S5k hS rfl) (by decide) rfl ?_
  refine Ev_bipush (v := 16) hq_25 (show decode prog_5_method_8_code 4 = .ok (.bipush 16, 2) by decide +kernel) (by decide) ?_
  refine Ev_icmp_ne (tgt := 48) hq_25 (show decode prog_5_method_8_code 6 = .ok (.if_icmp .ne 42, 3) by decide +kernel) (by decide) (fun c1 => ?_) (fun c1 => ?_)
  · have k := k.1 c1
    refine Ev_aload_n hq_25 (show decode prog_5_method_8_code 48 = .ok (.aload_n 0, 1) by decide +kernel) rfl ?_
    obtain ⟨r4, I2, h3, k⟩ := k
    refine Ev_virt (as := []) hq_25 (show decode prog_5_method_8_code 49 = .ok (.invokevirtual 95, 3) by decide +kernel) rfl hq_29 rfl (z_le rfl) ⟨(S5n hS (by decide)), (S5k hS rfl), by decide⟩ h3 ?_
    refine Ev_if_ne (tgt := 57) hq_25 (show decode prog_5_method_8_code 52 = .ok (.ifCond .ne 5, 3) by decide +kernel) (by decide) (fun c5 => ?_) (fun c5 => ?_)
    · have k := k.1 c5
      refine Ev_aload_n hq_25 (show decode prog_5_method_8_code 57 = .ok (.aload_n 0, 1) by decide +kernel) rfl ?_
      refine Ev_getI hq_25 (show decode prog_5_method_8_code 58 = .ok (.getfield 25, 3) by decide +kernel) rfl (S5n hS (by decide)) (S5k hS rfl) (by decide) rfl ?_
      refine Ev_bipush (v := 9) hq_25 (show decode prog_5_method_8_code 61 = .ok (.bipush 9, 2) by decide +kernel) (by decide) ?_
      refine Ev_icmp_eq (tgt := 77) hq_25 (show decode prog_5_method_8_code 63 = .ok (.if_icmp .eq 14, 3) by decide +kernel) (by decide) (fun c6 => ?_) (fun c6 => ?_)
      · have k := k.1 c6
        refine Ev_aload_n hq_25 (show decode prog_5_method_8_code 77 = .ok (.aload_n 0, 1) by decide +kernel) rfl ?_
        refine Ev_getI hq_25 (show decode prog_5_method_8_code 78 = .ok (.getfield 25, 3) by decide +kernel) rfl (S5n hS (by decide)) (S5k hS rfl) (by decide) rfl ?_
        refine Ev_bipush (v := 9) hq_25 (show decode prog_5_method_8_code 81 = .ok (.bipush 9, 2) by decide +kernel) (by decide) ?_
        refine Ev_icmp_ne (tgt := 92) hq_25 (show decode prog_5_method_8_code 83 = .ok (.if_icmp .ne 9, 3) by decide +kernel) (by decide) (fun c7 => ?_) (fun c7 => ?_)
        · have k := k.1 c7
          refine Ev_sipush (v := 20003) hq_25 (show decode prog_5_method_8_code 92 = .ok (.sipush 20003, 3) by decide +kernel) (by decide) ?_
          refine Ev_istore_n (lo2 := [.ref 39, .int 20003]) hq_25 (show decode prog_5_method_8_code 95 = .ok (.istore_n 1, 1) by decide +kernel) (z_le rfl) rfl ?_
          refine Ev_aload_n hq_25 (show decode prog_5_method_8_code 96 = .ok (.aload_n 0, 1) by decide +kernel) rfl ?_
          obtain ⟨I8, h9, k⟩ := k
          refine Ev_virt (as := []) hq_25 (show decode prog_5_method_8_code 97 = .ok (.invokevirtual 49, 3) by decide +kernel) rfl hq_14 rfl (z_le rfl) ⟨(S5n hS (by decide)), (S5k hS rfl), by decide⟩ h9 ?_
          refine Ev_aload_n hq_25 (show decode prog_5_method_8_code 100 = .ok (.aload_n 0, 1) by decide +kernel) rfl ?_
          obtain ⟨r12, I10, h11, k⟩ := k
          refine Ev_virt (as := []) hq_25 (show decode prog_5_method_8_code 101 = .ok (.invokevirtual 95, 3) by decide +kernel) rfl hq_29 rfl (z_le rfl) ⟨(S5n hS (by decide)), (S5k hS rfl), by decide⟩ h11 ?_
          refine Ev_if_eq (tgt := 119) hq_25 (show decode prog_5_method_8_code 104 = .ok (.ifCond .eq 15, 3) by decide +kernel) (by decide) (fun c13 => ?_) (fun c13 => ?_)
          · have k := k.1 c13
            refine Ev_iconst (v := 0) hq_25 (show decode prog_5_method_8_code 119 = .ok (.iconst 0, 1) by decide +kernel) (by decide) ?_
            exact Ev_iret hq_25 (show decode prog_5_method_8_code 120 = .ok (.ireturn, 1) by decide +kernel) rfl k
          · have k := k.2 c13
            refine Ev_aload_n hq_25 (show decode prog_5_method_8_code 107 = .ok (.aload_n 0, 1) by decide +kernel) rfl ?_
            refine Ev_iload_n hq_25 (show decode prog_5_method_8_code 108 = .ok (.iload_n 1, 1) by decide +kernel) rfl ?_
            obtain ⟨r16, I14, h15, k⟩ := k
            refine Ev_virt (as := [.int 20003]) hq_25 (show decode prog_5_method_8_code 109 = .ok (.invokevirtual 83, 3) by decide +kernel) rfl hq_28 rfl (z_le rfl) ⟨(S5n hS (by decide)), (S5k hS rfl), by decide⟩ h15 ?_
            refine Ev_if_eq (tgt := 119) hq_25 (show decode prog_5_method_8_code 112 = .ok (.ifCond .eq 7, 3) by decide +kernel) (by decide) (fun c17 => ?_) (fun c17 => ?_)
            · have k := k.1 c17
              refine Ev_iconst (v := 0) hq_25 (show decode prog_5_method_8_code 119 = .ok (.iconst 0, 1) by decide +kernel) (by decide) ?_
              exact Ev_iret hq_25 (show decode prog_5_method_8_code 120 = .ok (.ireturn, 1) by decide +kernel) rfl k
            · have k := k.2 c17
              refine Ev_iconst (v := 1) hq_25 (show decode prog_5_method_8_code 115 = .ok (.iconst 1, 1) by decide +kernel) (by decide) ?_
              refine Ev_goto (tgt := 120) hq_25 (show decode prog_5_method_8_code 116 = .ok (.goto 4, 3) by decide +kernel) (by decide) ?_
              exact Ev_iret hq_25 (show decode prog_5_method_8_code 120 = .ok (.ireturn, 1) by decide +kernel) rfl k
        · have k := k.2 (Classical.not_not.mp c7)
          refine Ev_sipush (v := 20002) hq_25 (show decode prog_5_method_8_code 86 = .ok (.sipush 20002, 3) by decide +kernel) (by decide) ?_
          refine Ev_goto (tgt := 95) hq_25 (show decode prog_5_method_8_code 89 = .ok (.goto 6, 3) by decide +kernel) (by decide) ?_
          refine Ev_istore_n (lo2 := [.ref 39, .int 20002]) hq_25 (show decode prog_5_method_8_code 95 = .ok (.istore_n 1, 1) by decide +kernel) (z_le rfl) rfl ?_
          refine Ev_aload_n hq_25 (show decode prog_5_method_8_code 96 = .ok (.aload_n 0, 1) by decide +kernel) rfl ?_
          obtain ⟨I18, h19, k⟩ := k
          refine Ev_virt (as := []) hq_25 (show decode prog_5_method_8_code 97 = .ok (.invokevirtual 49, 3) by decide +kernel) rfl hq_14 rfl (z_le rfl) ⟨(S5n hS (by decide)), (S5k hS rfl), by decide⟩ h19 ?_
          refine Ev_aload_n hq_25 (show decode prog_5_method_8_code 100 = .ok (.aload_n 0, 1) by decide +kernel) rfl ?_
          obtain ⟨r22, I20, h21, k⟩ := k
          refine Ev_virt (as := []) hq_25 (show decode prog_5_method_8_code 101 = .ok (.invokevirtual 95, 3) by decide +kernel) rfl hq_29 rfl (z_le rfl) ⟨(S5n hS (by decide)), (S5k hS rfl), by decide⟩ h21 ?_
          refine Ev_if_eq (tgt := 119) hq_25 (show decode prog_5_method_8_code 104 = .ok (.ifCond .eq 15, 3) by decide +kernel) (by decide) (fun c23 => ?_) (fun c23 => ?_)
          · have k := k.1 c23
            refine Ev_iconst (v := 0) hq_25 (show decode prog_5_method_8_code 119 = .ok (.iconst 0, 1) by decide +kernel) (by decide) ?_
            exact Ev_iret hq_25 (show decode prog_5_method_8_code 120 = .ok (.ireturn, 1) by decide +kernel) rfl k
          · have k := k.2 c23
            refine Ev_aload_n hq_25 (show decode prog_5_method_8_code 107 = .ok (.aload_n 0, 1) by decide +kernel) rfl ?_
            refine Ev_iload_n hq_25 (show decode prog_5_method_8_code 108 = .ok (.iload_n 1, 1) by decide +kernel) rfl ?_
            obtain ⟨r26, I24, h25, k⟩ := k
            refine Ev_virt (as := [.int 20002]) hq_25 (show decode prog_5_method_8_code 109 = .ok (.invokevirtual 83, 3) by decide +kernel) rfl hq_28 rfl (z_le rfl) ⟨(S5n hS (by decide)), (S5k hS rfl), by decide⟩ h25 ?_
            refine Ev_if_eq (tgt := 119) hq_25 (show decode prog_5_method_8_code 112 = .ok (.ifCond .eq 7, 3) by decide +kernel) (by decide) (fun c27 => ?_) (fun c27 => ?_)
            · have k := k.1 c27
              refine Ev_iconst (v := 0) hq_25 (show decode prog_5_method_8_code 119 = .ok (.iconst 0, 1) by decide +kernel) (by decide) ?_
              exact Ev_iret hq_25 (show decode prog_5_method_8_code 120 = .ok (.ireturn, 1) by decide +kernel) rfl k
            · have k := k.2 c27
              refine Ev_iconst (v := 1) hq_25 (show decode prog_5_method_8_code 115 = .ok (.iconst 1, 1) by decide +kernel) (by decide) ?_
              refine Ev_goto (tgt := 120) hq_25 (show decode prog_5_method_8_code 116 = .ok (.goto 4, 3) by decide +kernel) (by decide) ?_
              exact Ev_iret hq_25 (show decode prog_5_method_8_code 120 = .ok (.ireturn, 1) by decide +kernel) rfl k
      · have k := k.2 c6
        refine Ev_aload_n hq_25 (show decode prog_5_method_8_code 66 = .ok (.aload_n 0, 1) by decide +kernel) rfl ?_
        refine Ev_getI hq_25 (show decode prog_5_method_8_code 67 = .ok (.getfield 25, 3) by decide +kernel) rfl (S5n hS (by decide)) (S5k hS rfl) (by decide) rfl ?_
        refine Ev_bipush (v := 10) hq_25 (show decode prog_5_method_8_code 70 = .ok (.bipush 10, 2) by decide +kernel) (by decide) ?_
        refine Ev_icmp_eq (tgt := 77) hq_25 (show decode prog_5_method_8_code 72 = .ok (.if_icmp .eq 5, 3) by decide +kernel) (by decide) (fun c28 => ?_) (fun c28 => ?_)
        · have k := k.1 c28
          refine Ev_aload_n hq_25 (show decode prog_5_method_8_code 77 = .ok (.aload_n 0, 1) by decide +kernel) rfl ?_
          refine Ev_getI hq_25 (show decode prog_5_method_8_code 78 = .ok (.getfield 25, 3) by decide +kernel) rfl (S5n hS (by decide)) (S5k hS rfl) (by decide) rfl ?_
          refine Ev_bipush (v := 9) hq_25 (show decode prog_5_method_8_code 81 = .ok (.bipush 9, 2) by decide +kernel) (by decide) ?_
          refine Ev_icmp_ne (tgt := 92) hq_25 (show decode prog_5_method_8_code 83 = .ok (.if_icmp .ne 9, 3) by decide +kernel) (by decide) (fun c29 => ?_) (fun c29 => ?_)
          · have k := k.1 c29
            refine Ev_sipush (v := 20003) hq_25 (show decode prog_5_method_8_code 92 = .ok (.sipush 20003, 3) by decide +kernel) (by decide) ?_
            refine Ev_istore_n (lo2 := [.ref 39, .int 20003]) hq_25 (show decode prog_5_method_8_code 95 = .ok (.istore_n 1, 1) by decide +kernel) (z_le rfl) rfl ?_
            refine Ev_aload_n hq_25 (show decode prog_5_method_8_code 96 = .ok (.aload_n 0, 1) by decide +kernel) rfl ?_
            obtain ⟨I30, h31, k⟩ := k
            refine Ev_virt (as := []) hq_25 (show decode prog_5_method_8_code 97 = .ok (.invokevirtual 49, 3) by decide +kernel) rfl hq_14 rfl (z_le rfl) ⟨(S5n hS (by decide)), (S5k hS rfl), by decide⟩ h31 ?_
            refine Ev_aload_n hq_25 (show decode prog_5_method_8_code 100 = .ok (.aload_n 0, 1) by decide +kernel) rfl ?_
            obtain ⟨r34, I32, h33, k⟩ := k
            refine Ev_virt (as := []) hq_25 (show decode prog_5_method_8_code 101 = .ok (.invokevirtual 95, 3) by decide +kernel) rfl hq_29 rfl (z_le rfl) ⟨(S5n hS (by decide)), (S5k hS rfl), by decide⟩ h33 ?_
            refine Ev_if_eq (tgt := 119) hq_25 (show decode prog_5_method_8_code 104 = .ok (.ifCond .eq 15, 3) by decide +kernel) (by decide) (fun c35 => ?_) (fun c35 => ?_)
            · have k := k.1 c35
              refine Ev_iconst (v := 0) hq_25 (show decode prog_5_method_8_code 119 = .ok (.iconst 0, 1) by decide +kernel) (by decide) ?_
              exact Ev_iret hq_25 (show decode prog_5_method_8_code 120 = .ok (.ireturn, 1) by decide +kernel) rfl k
            · have k := k.2 c35
              refine Ev_aload_n hq_25 (show decode prog_5_method_8_code 107 = .ok (.aload_n 0, 1) by decide +kernel) rfl ?_
              refine Ev_iload_n hq_25 (show decode prog_5_method_8_code 108 = .ok (.iload_n 1, 1) by decide +kernel) rfl ?_
              obtain ⟨r38, I36, h37, k⟩ := k
              refine Ev_virt (as := [.int 20003]) hq_25 (show decode prog_5_method_8_code 109 = .ok (.invokevirtual 83, 3) by decide +kernel) rfl hq_28 rfl (z_le rfl) ⟨(S5n hS (by decide)), (S5k hS rfl), by decide⟩ h37 ?_
              refine Ev_if_eq (tgt := 119) hq_25 (show decode prog_5_method_8_code 112 = .ok (.ifCond .eq 7, 3) by decide +kernel) (by decide) (fun c39 => ?_) (fun c39 => ?_)
              · have k := k.1 c39
                refine Ev_iconst (v := 0) hq_25 (show decode prog_5_method_8_code 119 = .ok (.iconst 0, 1) by decide +kernel) (by decide) ?_
                exact Ev_iret hq_25 (show decode prog_5_method_8_code 120 = .ok (.ireturn, 1) by decide +kernel) rfl k
              · have k := k.2 c39
                refine Ev_iconst (v := 1) hq_25 (show decode prog_5_method_8_code 115 = .ok (.iconst 1, 1) by decide +kernel) (by decide) ?_
                refine Ev_goto (tgt := 120) hq_25 (show decode prog_5_method_8_code 116 = .ok (.goto 4, 3) by decide +kernel) (by decide) ?_
                exact Ev_iret hq_25 (show decode prog_5_method_8_code 120 = .ok (.ireturn, 1) by decide +kernel) rfl k
          · have k := k.2 (Classical.not_not.mp c29)
            refine Ev_sipush (v := 20002) hq_25 (show decode prog_5_method_8_code 86 = .ok (.sipush 20002, 3) by decide +kernel) (by decide) ?_
            refine Ev_goto (tgt := 95) hq_25 (show decode prog_5_method_8_code 89 = .ok (.goto 6, 3) by decide +kernel) (by decide) ?_
            refine Ev_istore_n (lo2 := [.ref 39, .int 20002]) hq_25 (show decode prog_5_method_8_code 95 = .ok (.istore_n 1, 1) by decide +kernel) (z_le rfl) rfl ?_
            refine Ev_aload_n hq_25 (show decode prog_5_method_8_code 96 = .ok (.aload_n 0, 1) by decide +kernel) rfl ?_
            obtain ⟨I40, h41, k⟩ := k
            refine Ev_virt (as := []) hq_25 (show decode prog_5_method_8_code 97 = .ok (.invokevirtual 49, 3) by decide +kernel) rfl hq_14 rfl (z_le rfl) ⟨(S5n hS (by decide)), (S5k hS rfl), by decide⟩ h41 ?_
            refine Ev_aload_n hq_25 (show decode prog_5_method_8_code 100 = .ok (.aload_n 0, 1) by decide +kernel) rfl ?_
            obtain ⟨r44, I42, h43, k⟩ := k
            refine Ev_virt (as := []) hq_25 (show decode prog_5_method_8_code 101 = .ok (.invokevirtual 95, 3) by decide +kernel) rfl hq_29 rfl (z_le rfl) ⟨(S5n hS (by decide)), (S5k hS rfl), by decide⟩ h43 ?_
            refine Ev_if_eq (tgt := 119) hq_25 (show decode prog_5_method_8_code 104 = .ok (.ifCond .eq 15, 3) by decide +kernel) (by decide) (fun c45 => ?_) (fun c45 => ?_)
            · have k := k.1 c45
              refine Ev_iconst (v := 0) hq_25 (show decode prog_5_method_8_code 119 = .ok (.iconst 0, 1) by decide +kernel) (by decide) ?_
              exact Ev_iret hq_25 (show decode prog_5_method_8_code 120 = .ok (.ireturn, 1) by decide +kernel) rfl k
            · have k := k.2 c45
              refine Ev_aload_n hq_25 (show decode prog_5_method_8_code 107 = .ok (.aload_n 0, 1) by decide +kernel) rfl ?_
              refine Ev_iload_n hq_25 (show decode prog_5_method_8_code 108 = .ok (.iload_n 1, 1) by decide +kernel) rfl ?_
              obtain ⟨r48, I46, h47, k⟩ := k
              refine Ev_virt (as := [.int 20002]) hq_25 (show decode prog_5_method_8_code 109 = .ok (.invokevirtual 83, 3) by decide +kernel) rfl hq_28 rfl (z_le rfl) ⟨(S5n hS (by decide)), (S5k hS rfl), by decide⟩ h47 ?_
              refine Ev_if_eq (tgt := 119) hq_25 (show decode prog_5_method_8_code 112 = .ok (.ifCond .eq 7, 3) by decide +kernel) (by decide) (fun c49 => ?_) (fun c49 => ?_)
              · have k := k.1 c49
                refine Ev_iconst (v := 0) hq_25 (show decode prog_5_method_8_code 119 = .ok (.iconst 0, 1) by decide +kernel) (by decide) ?_
                exact Ev_iret hq_25 (show decode prog_5_method_8_code 120 = .ok (.ireturn, 1) by decide +kernel) rfl k
              · have k := k.2 c49
                refine Ev_iconst (v := 1) hq_25 (show decode prog_5_method_8_code 115 = .ok (.iconst 1, 1) by decide +kernel) (by decide) ?_
                refine Ev_goto (tgt := 120) hq_25 (show decode prog_5_method_8_code 116 = .ok (.goto 4, 3) by decide +kernel) (by decide) ?_
                exact Ev_iret hq_25 (show decode prog_5_method_8_code 120 = .ok (.ireturn, 1) by decide +kernel) rfl k
        · have k := k.2 c28
          refine Ev_iconst (v := 1) hq_25 (show decode prog_5_method_8_code 75 = .ok (.iconst 1, 1) by decide +kernel) (by decide) ?_
          exact Ev_iret hq_25 (show decode prog_5_method_8_code 76 = .ok (.ireturn, 1) by decide +kernel) rfl k
    · have k := k.2 (Classical.not_not.mp c5)
      refine Ev_iconst (v := 0) hq_25 (show decode prog_5_method_8_code 55 = .ok (.iconst 0, 1) by decide +kernel) (by decide) ?_
      exact Ev_iret hq_25 (show decode prog_5_method_8_code 56 = .ok (.ireturn, 1) by decide +kernel) rfl k
  · have k := k.2 (Classical.not_not.mp c1)
    refine Ev_aload_n hq_25 (show decode prog_5_method_8_code 9 = .ok (.aload_n 0, 1) by decide +kernel) rfl ?_
    obtain ⟨r52, I50, h51, k⟩ := k
    refine Ev_virt (as := []) hq_25 (show decode prog_5_method_8_code 10 = .ok (.invokevirtual 89, 3) by decide +kernel) rfl hq_26 rfl (z_le rfl) ⟨(S5n hS (by decide)), (S5k hS rfl), by decide⟩ h51 ?_
    refine Ev_if_ne (tgt := 18) hq_25 (show decode prog_5_method_8_code 13 = .ok (.ifCond .ne 5, 3) by decide +kernel) (by decide) (fun c53 => ?_) (fun c53 => ?_)
    · have k := k.1 c53
      refine Ev_aload_n hq_25 (show decode prog_5_method_8_code 18 = .ok (.aload_n 0, 1) by decide +kernel) rfl ?_
      obtain ⟨r56, I54, h55, k⟩ := k
      refine Ev_virt (as := []) hq_25 (show decode prog_5_method_8_code 19 = .ok (.invokevirtual 86, 3) by decide +kernel) rfl hq_25 rfl (z_le rfl) ⟨(S5n hS (by decide)), (S5k hS rfl), by decide⟩ h55 ?_
      refine Ev_if_eq (tgt := 46) hq_25 (show decode prog_5_method_8_code 22 = .ok (.ifCond .eq 24, 3) by decide +kernel) (by decide) (fun c57 => ?_) (fun c57 => ?_)
      · have k := k.1 c57
        refine Ev_iconst (v := 0) hq_25 (show decode prog_5_method_8_code 46 = .ok (.iconst 0, 1) by decide +kernel) (by decide) ?_
        exact Ev_iret hq_25 (show decode prog_5_method_8_code 47 = .ok (.ireturn, 1) by decide +kernel) rfl k
      · have k := k.2 c57
        refine Ev_aload_n hq_25 (show decode prog_5_method_8_code 25 = .ok (.aload_n 0, 1) by decide +kernel) rfl ?_
        obtain ⟨r60, I58, h59, k⟩ := k
        refine Ev_virt (as := []) hq_25 (show decode prog_5_method_8_code 26 = .ok (.invokevirtual 92, 3) by decide +kernel) rfl hq_27 rfl (z_le rfl) ⟨(S5n hS (by decide)), (S5k hS rfl), by decide⟩ h59 ?_
        refine Ev_if_eq (tgt := 46) hq_25 (show decode prog_5_method_8_code 29 = .ok (.ifCond .eq 17, 3) by decide +kernel) (by decide) (fun c61 => ?_) (fun c61 => ?_)
        · have k := k.1 c61
          refine Ev_iconst (v := 0) hq_25 (show decode prog_5_method_8_code 46 = .ok (.iconst 0, 1) by decide +kernel) (by decide) ?_
          exact Ev_iret hq_25 (show decode prog_5_method_8_code 47 = .ok (.ireturn, 1) by decide +kernel) rfl k
        · have k := k.2 c61
          refine Ev_aload_n hq_25 (show decode prog_5_method_8_code 32 = .ok (.aload_n 0, 1) by decide +kernel) rfl ?_
          refine Ev_sipush (v := 20007) hq_25 (show decode prog_5_method_8_code 33 = .ok (.sipush 20007, 3) by decide +kernel) (by decide) ?_
          obtain ⟨r64, I62, h63, k⟩ := k
          refine Ev_virt (as := [.int 20007]) hq_25 (show decode prog_5_method_8_code 36 = .ok (.invokevirtual 83, 3) by decide +kernel) rfl hq_28 rfl (z_le rfl) ⟨(S5n hS (by decide)), (S5k hS rfl), by decide⟩ h63 ?_
          refine Ev_if_eq (tgt := 46) hq_25 (show decode prog_5_method_8_code 39 = .ok (.ifCond .eq 7, 3) by decide +kernel) (by decide) (fun c65 => ?_) (fun c65 => ?_)
          · have k := k.1 c65
            refine Ev_iconst (v := 0) hq_25 (show decode prog_5_method_8_code 46 = .ok (.iconst 0, 1) by decide +kernel) (by decide) ?_
            exact Ev_iret hq_25 (show decode prog_5_method_8_code 47 = .ok (.ireturn, 1) by decide +kernel) rfl k
          · have k := k.2 c65
            refine Ev_iconst (v := 1) hq_25 (show decode prog_5_method_8_code 42 = .ok (.iconst 1, 1) by decide +kernel) (by decide) ?_
            refine Ev_goto (tgt := 47) hq_25 (show decode prog_5_method_8_code 43 = .ok (.goto 4, 3) by decide +kernel) (by decide) ?_
            exact Ev_iret hq_25 (show decode prog_5_method_8_code 47 = .ok (.ireturn, 1) by decide +kernel) rfl k
    · have k := k.2 (Classical.not_not.mp c53)
      refine Ev_iconst (v := 0) hq_25 (show decode prog_5_method_8_code 16 = .ok (.iconst 0, 1) by decide +kernel) (by decide) ?_
      exact Ev_iret hq_25 (show decode prog_5_method_8_code 17 = .ok (.ireturn, 1) by decide +kernel) rfl k
set_option maxRecDepth 20000 in
theorem w5_R_readBoth {X : Nat × (Nat → Int32)} {d : Nat} {G : zG} {I : zI} {res : Option Value × zG × zI}  (hS : S5 G) 
    (k : ∃ (r3 : Int32) (I1 : zI), Cv X d 25 [.ref 39] G I (some (.int r3), G, I1) ∧ ((¬ r3 = 0 → Ev X (d + 1) 24 11 [.ref 39, .int 0] [] G I1 res) ∧ (r3 = 0 → res = (some (.int 0), G, I1)))) :
    Ev X (d + 1) 24 0 [.ref 39, zU] [] G I res := by
  refine Ev_aload_n hq_24 (show decode prog_5_method_7_code 0 = .ok (.aload_n 0, 1) by decide +kernel) rfl ?_
  obtain ⟨r3, I1, h2, k⟩ := k
  refine Ev_virt (as := []) hq_24 (show decode prog_5_method_7_code 1 = .ok (.invokevirtual 86, 3) by decide +kernel) rfl hq_25 rfl (z_le rfl) ⟨(S5n hS (by decide)), (S5k hS rfl), by decide⟩ h2 ?_
  refine Ev_if_ne (tgt := 9) hq_24 (show decode prog_5_method_7_code 4 = .ok (.ifCond .ne 5, 3) by decide +kernel) (by decide) (fun c4 => ?_) (fun c4 => ?_)
  · have k := k.1 c4
    refine Ev_iconst (v := 0) hq_24 (show decode prog_5_method_7_code 9 = .ok (.iconst 0, 1) by decide +kernel) (by decide) ?_
    refine Ev_istore_n (lo2 := [.ref 39, .int 0]) hq_24 (show decode prog_5_method_7_code 10 = .ok (.istore_n 1, 1) by decide +kernel) (z_le rfl) rfl ?_
    exact k
  · have k := k.2 (Classical.not_not.mp c4)
    refine Ev_iconst (v := 0) hq_24 (show decode prog_5_method_7_code 7 = .ok (.iconst 0, 1) by decide +kernel) (by decide) ?_
    exact Ev_iret hq_24 (show decode prog_5_method_7_code 8 = .ok (.ireturn, 1) by decide +kernel) rfl k
set_option maxRecDepth 20000 in
theorem w5_R_readBoth_11 {X : Nat × (Nat → Int32)} {d : Nat} {G : zG} {I : zI} {res : Option Value × zG × zI} (x1 : Int32) (hS : S5 G) 
    (k : (160 ≤ x1 → res = (some (.int 1), G, I)) ∧ (¬ 160 ≤ x1 → (¬ (I 39 4) = 15 → res = (some (.int 1), G, I)) ∧ ((I 39 4) = 15 → ∃ (I3 : zI), Cv X d 14 [.ref 39] G I (none, G, I3) ∧ (∃ (r7 : Int32) (I5 : zI), Cv X d 25 [.ref 39] G I3 (some (.int r7), G, I5) ∧ ((r7 = 0 → res = (some (.int 0), G, I5)) ∧ (¬ r7 = 0 → ∃ (r11 : Int32) (I9 : zI), Cv X d 28 [.ref 39, .int 20001] G I5 (some (.int r11), G, I9) ∧ ((¬ r11 = 0 → ∀ y13 : Int32, y13 = x1 + 1 → Ev X (d + 1) 24 11 [.ref 39, .int y13] [] G I9 res) ∧ (r11 = 0 → res = (some (.int 0), G, I9))))))))) :
    Ev X (d + 1) 24 11 [.ref 39, .int x1] [] G I res := by
  refine Ev_iload_n hq_24 (show decode prog_5_method_7_code 11 = .ok (.iload_n 1, 1) by decide +kernel) rfl ?_
  refine Ev_sipush (v := 160) hq_24 (show decode prog_5_method_7_code 12 = .ok (.sipush 160, 3) by decide +kernel) (by decide) ?_
  refine Ev_icmp_ge (tgt := 56) hq_24 (show decode prog_5_method_7_code 15 = .ok (.if_icmp .ge 41, 3) by decide +kernel) (by decide) (fun c1 => ?_) (fun c1 => ?_)
  · have k := k.1 c1
    refine Ev_iconst (v := 1) hq_24 (show decode prog_5_method_7_code 56 = .ok (.iconst 1, 1) by decide +kernel) (by decide) ?_
    exact Ev_iret hq_24 (show decode prog_5_method_7_code 57 = .ok (.ireturn, 1) by decide +kernel) rfl k
  · have k := k.2 c1
    refine Ev_aload_n hq_24 (show decode prog_5_method_7_code 18 = .ok (.aload_n 0, 1) by decide +kernel) rfl ?_
    refine Ev_getI hq_24 (show decode prog_5_method_7_code 19 = .ok (.getfield 25, 3) by decide +kernel) rfl (S5n hS (by decide)) (S5k hS rfl) (by decide) rfl ?_
    refine Ev_bipush (v := 15) hq_24 (show decode prog_5_method_7_code 22 = .ok (.bipush 15, 2) by decide +kernel) (by decide) ?_
    refine Ev_icmp_ne (tgt := 56) hq_24 (show decode prog_5_method_7_code 24 = .ok (.if_icmp .ne 32, 3) by decide +kernel) (by decide) (fun c2 => ?_) (fun c2 => ?_)
    · have k := k.1 c2
      refine Ev_iconst (v := 1) hq_24 (show decode prog_5_method_7_code 56 = .ok (.iconst 1, 1) by decide +kernel) (by decide) ?_
      exact Ev_iret hq_24 (show decode prog_5_method_7_code 57 = .ok (.ireturn, 1) by decide +kernel) rfl k
    · have k := k.2 (Classical.not_not.mp c2)
      refine Ev_aload_n hq_24 (show decode prog_5_method_7_code 27 = .ok (.aload_n 0, 1) by decide +kernel) rfl ?_
      obtain ⟨I3, h4, k⟩ := k
      refine Ev_virt (as := []) hq_24 (show decode prog_5_method_7_code 28 = .ok (.invokevirtual 49, 3) by decide +kernel) rfl hq_14 rfl (z_le rfl) ⟨(S5n hS (by decide)), (S5k hS rfl), by decide⟩ h4 ?_
      refine Ev_aload_n hq_24 (show decode prog_5_method_7_code 31 = .ok (.aload_n 0, 1) by decide +kernel) rfl ?_
      obtain ⟨r7, I5, h6, k⟩ := k
      refine Ev_virt (as := []) hq_24 (show decode prog_5_method_7_code 32 = .ok (.invokevirtual 86, 3) by decide +kernel) rfl hq_25 rfl (z_le rfl) ⟨(S5n hS (by decide)), (S5k hS rfl), by decide⟩ h6 ?_
      refine Ev_if_eq (tgt := 48) hq_24 (show decode prog_5_method_7_code 35 = .ok (.ifCond .eq 13, 3) by decide +kernel) (by decide) (fun c8 => ?_) (fun c8 => ?_)
      · have k := k.1 c8
        refine Ev_iconst (v := 0) hq_24 (show decode prog_5_method_7_code 48 = .ok (.iconst 0, 1) by decide +kernel) (by decide) ?_
        exact Ev_iret hq_24 (show decode prog_5_method_7_code 49 = .ok (.ireturn, 1) by decide +kernel) rfl k
      · have k := k.2 c8
        refine Ev_aload_n hq_24 (show decode prog_5_method_7_code 38 = .ok (.aload_n 0, 1) by decide +kernel) rfl ?_
        refine Ev_sipush (v := 20001) hq_24 (show decode prog_5_method_7_code 39 = .ok (.sipush 20001, 3) by decide +kernel) (by decide) ?_
        obtain ⟨r11, I9, h10, k⟩ := k
        refine Ev_virt (as := [.int 20001]) hq_24 (show decode prog_5_method_7_code 42 = .ok (.invokevirtual 83, 3) by decide +kernel) rfl hq_28 rfl (z_le rfl) ⟨(S5n hS (by decide)), (S5k hS rfl), by decide⟩ h10 ?_
        refine Ev_if_ne (tgt := 50) hq_24 (show decode prog_5_method_7_code 45 = .ok (.ifCond .ne 5, 3) by decide +kernel) (by decide) (fun c12 => ?_) (fun c12 => ?_)
        · have k := k.1 c12
          obtain ⟨y13, ey13⟩ : ∃ y13 : Int32, y13 = x1 + 1 := ⟨_, rfl⟩
          have k := k y13 ey13
          refine Ev_iinc (v := y13) (lo2 := [.ref 39, .int y13]) hq_24 (show decode prog_5_method_7_code 50 = .ok (.iinc 1 1, 3) by decide +kernel) rfl (by rw [ey13]; rfl) rfl ?_
          refine Ev_goto (tgt := 11) hq_24 (show decode prog_5_method_7_code 53 = .ok (.goto (-42), 3) by decide +kernel) (by decide) ?_
          exact k
        · have k := k.2 (Classical.not_not.mp c12)
          refine Ev_iconst (v := 0) hq_24 (show decode prog_5_method_7_code 48 = .ok (.iconst 0, 1) by decide +kernel) (by decide) ?_
          exact Ev_iret hq_24 (show decode prog_5_method_7_code 49 = .ok (.ireturn, 1) by decide +kernel) rfl k
set_option maxRecDepth 20000 in
theorem w5_R_readEither {X : Nat × (Nat → Int32)} {d : Nat} {G : zG} {I : zI} {res : Option Value × zG × zI}  (hS : S5 G) 
    (k : ∃ (r3 : Int32) (I1 : zI), Cv X d 24 [.ref 39] G I (some (.int r3), G, I1) ∧ ((¬ r3 = 0 → Ev X (d + 1) 23 11 [.ref 39, .int 0] [] G I1 res) ∧ (r3 = 0 → res = (some (.int 0), G, I1)))) :
    Ev X (d + 1) 23 0 [.ref 39, zU] [] G I res := by
  refine Ev_aload_n hq_23 (show decode prog_5_method_6_code 0 = .ok (.aload_n 0, 1) by decide +kernel) rfl ?_
  obtain ⟨r3, I1, h2, k⟩ := k
  refine Ev_virt (as := []) hq_23 (show decode prog_5_method_6_code 1 = .ok (.invokevirtual 80, 3) by decide +kernel) rfl hq_24 rfl (z_le rfl) ⟨(S5n hS (by decide)), (S5k hS rfl), by decide⟩ h2 ?_
  refine Ev_if_ne (tgt := 9) hq_23 (show decode prog_5_method_6_code 4 = .ok (.ifCond .ne 5, 3) by decide +kernel) (by decide) (fun c4 => ?_) (fun c4 => ?_)
  · have k := k.1 c4
    refine Ev_iconst (v := 0) hq_23 (show decode prog_5_method_6_code 9 = .ok (.iconst 0, 1) by decide +kernel) (by decide) ?_
    refine Ev_istore_n (lo2 := [.ref 39, .int 0]) hq_23 (show decode prog_5_method_6_code 10 = .ok (.istore_n 1, 1) by decide +kernel) (z_le rfl) rfl ?_
    exact k
  · have k := k.2 (Classical.not_not.mp c4)
    refine Ev_iconst (v := 0) hq_23 (show decode prog_5_method_6_code 7 = .ok (.iconst 0, 1) by decide +kernel) (by decide) ?_
    exact Ev_iret hq_23 (show decode prog_5_method_6_code 8 = .ok (.ireturn, 1) by decide +kernel) rfl k
set_option maxRecDepth 20000 in
theorem w5_R_readEither_11 {X : Nat × (Nat → Int32)} {d : Nat} {G : zG} {I : zI} {res : Option Value × zG × zI} (x1 : Int32) (hS : S5 G) 
    (k : (160 ≤ x1 → res = (some (.int 1), G, I)) ∧ (¬ 160 ≤ x1 → (¬ (I 39 4) = 14 → res = (some (.int 1), G, I)) ∧ ((I 39 4) = 14 → ∃ (I3 : zI), Cv X d 14 [.ref 39] G I (none, G, I3) ∧ (∃ (r7 : Int32) (I5 : zI), Cv X d 24 [.ref 39] G I3 (some (.int r7), G, I5) ∧ ((r7 = 0 → res = (some (.int 0), G, I5)) ∧ (¬ r7 = 0 → ∃ (r11 : Int32) (I9 : zI), Cv X d 28 [.ref 39, .int 20000] G I5 (some (.int r11), G, I9) ∧ ((¬ r11 = 0 → ∀ y13 : Int32, y13 = x1 + 1 → Ev X (d + 1) 23 11 [.ref 39, .int y13] [] G I9 res) ∧ (r11 = 0 → res = (some (.int 0), G, I9))))))))) :
    Ev X (d + 1) 23 11 [.ref 39, .int x1] [] G I res := by
  refine Ev_iload_n hq_23 (show decode prog_5_method_6_code 11 = .ok (.iload_n 1, 1) by decide +kernel) rfl ?_
  refine Ev_sipush (v := 160) hq_23 (show decode prog_5_method_6_code 12 = .ok (.sipush 160, 3) by decide +kernel) (by decide) ?_
  refine Ev_icmp_ge (tgt := 56) hq_23 (show decode prog_5_method_6_code 15 = .ok (.if_icmp .ge 41, 3) by decide +kernel) (by decide) (fun c1 => ?_) (fun c1 => ?_)
  · have k := k.1 c1
    refine Ev_iconst (v := 1) hq_23 (show decode prog_5_method_6_code 56 = .ok (.iconst 1, 1) by decide +kernel) (by decide) ?_
    exact Ev_iret hq_23 (show decode prog_5_method_6_code 57 = .ok (.ireturn, 1) by decide +kernel) rfl k
  · have k := k.2 c1
    refine Ev_aload_n hq_23 (show decode prog_5_method_6_code 18 = .ok (.aload_n 0, 1) by decide +kernel) rfl ?_
    refine Ev_getI hq_23 (show decode prog_5_method_6_code 19 = .ok (.getfield 25, 3) by decide +kernel) rfl (S5n hS (by decide)) (S5k hS rfl) (by decide) rfl ?_
    refine Ev_bipush (v := 14) hq_23 (show decode prog_5_method_6_code 22 = .ok (.bipush 14, 2) by decide +kernel) (by decide) ?_
    refine Ev_icmp_ne (tgt := 56) hq_23 (show decode prog_5_method_6_code 24 = .ok (.if_icmp .ne 32, 3) by decide +kernel) (by decide) (fun c2 => ?_) (fun c2 => ?_)
    · have k := k.1 c2
      refine Ev_iconst (v := 1) hq_23 (show decode prog_5_method_6_code 56 = .ok (.iconst 1, 1) by decide +kernel) (by decide) ?_
      exact Ev_iret hq_23 (show decode prog_5_method_6_code 57 = .ok (.ireturn, 1) by decide +kernel) rfl k
    · have k := k.2 (Classical.not_not.mp c2)
      refine Ev_aload_n hq_23 (show decode prog_5_method_6_code 27 = .ok (.aload_n 0, 1) by decide +kernel) rfl ?_
      obtain ⟨I3, h4, k⟩ := k
      refine Ev_virt (as := []) hq_23 (show decode prog_5_method_6_code 28 = .ok (.invokevirtual 49, 3) by decide +kernel) rfl hq_14 rfl (z_le rfl) ⟨(S5n hS (by decide)), (S5k hS rfl), by decide⟩ h4 ?_
      refine Ev_aload_n hq_23 (show decode prog_5_method_6_code 31 = .ok (.aload_n 0, 1) by decide +kernel) rfl ?_
      obtain ⟨r7, I5, h6, k⟩ := k
      refine Ev_virt (as := []) hq_23 (show decode prog_5_method_6_code 32 = .ok (.invokevirtual 80, 3) by decide +kernel) rfl hq_24 rfl (z_le rfl) ⟨(S5n hS (by decide)), (S5k hS rfl), by decide⟩ h6 ?_
      refine Ev_if_eq (tgt := 48) hq_23 (show decode prog_5_method_6_code 35 = .ok (.ifCond .eq 13, 3) by decide +kernel) (by decide) (fun c8 => ?_) (fun c8 => ?_)
      · have k := k.1 c8
        refine Ev_iconst (v := 0) hq_23 (show decode prog_5_method_6_code 48 = .ok (.iconst 0, 1) by decide +kernel) (by decide) ?_
        exact Ev_iret hq_23 (show decode prog_5_method_6_code 49 = .ok (.ireturn, 1) by decide +kernel) rfl k
      · have k := k.2 c8
        refine Ev_aload_n hq_23 (show decode prog_5_method_6_code 38 = .ok (.aload_n 0, 1) by decide +kernel) rfl ?_
        refine Ev_sipush (v := 20000) hq_23 (show decode prog_5_method_6_code 39 = .ok (.sipush 20000, 3) by decide +kernel) (by decide) ?_
        obtain ⟨r11, I9, h10, k⟩ := k
        refine Ev_virt (as := [.int 20000]) hq_23 (show decode prog_5_method_6_code 42 = .ok (.invokevirtual 83, 3) by decide +kernel) rfl hq_28 rfl (z_le rfl) ⟨(S5n hS (by decide)), (S5k hS rfl), by decide⟩ h10 ?_
        refine Ev_if_ne (tgt := 50) hq_23 (show decode prog_5_method_6_code 45 = .ok (.ifCond .ne 5, 3) by decide +kernel) (by decide) (fun c12 => ?_) (fun c12 => ?_)
        · have k := k.1 c12
          obtain ⟨y13, ey13⟩ : ∃ y13 : Int32, y13 = x1 + 1 := ⟨_, rfl⟩
          have k := k y13 ey13
          refine Ev_iinc (v := y13) (lo2 := [.ref 39, .int y13]) hq_23 (show decode prog_5_method_6_code 50 = .ok (.iinc 1 1, 3) by decide +kernel) rfl (by rw [ey13]; rfl) rfl ?_
          refine Ev_goto (tgt := 11) hq_23 (show decode prog_5_method_6_code 53 = .ok (.goto (-42), 3) by decide +kernel) (by decide) ?_
          exact k
        · have k := k.2 (Classical.not_not.mp c12)
          refine Ev_iconst (v := 0) hq_23 (show decode prog_5_method_6_code 48 = .ok (.iconst 0, 1) by decide +kernel) (by decide) ?_
          exact Ev_iret hq_23 (show decode prog_5_method_6_code 49 = .ok (.ireturn, 1) by decide +kernel) rfl k
