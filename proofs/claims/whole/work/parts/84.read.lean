set_option maxRecDepth 20000 in
theorem w5_R_read_43 {X : Nat × (Nat → Int32)} {d : Nat} {G : zG} {I : zI} {res : Option Value × zG × zI} (x2 : Int32) (x3 : Int32) (hS : S5 G) 
    (k : (3 ≤ x3 → (∀ I2 : zI, I2 = z_up I 42 (3 : Int32).toNatClampNeg (I 39 8) → (¬ (I2 39 4) = 0 → res = (some (.int (I2 39 2)), G, I2)) ∧ ((I2 39 4) = 0 → res = (some (.int (-1)), G, I2)))) ∧ (¬ 3 ≤ x3 → z_inr x3 4 ∧ (∀ I5 : zI, I5 = z_up I 42 x3.toNatClampNeg (I 39 8) → ∃ (r8 : Int32) (I6 : zI), Cv X d 22 [.ref 39, .int (11 + x3)] G I5 (some (.int r8), G, I6) ∧ ((r8 = 0 → res = (some (.int (I6 39 2)), G, I6)) ∧ (¬ r8 = 0 → ∃ (r12 : Int32) (I10 : zI), Cv X d 23 [.ref 39] G I6 (some (.int r12), G, I10) ∧ ((r12 = 0 → res = (some (.int (I10 39 2)), G, I10)) ∧ (¬ r12 = 0 → ∃ (r16 : Int32) (I14 : zI), Cv X d 22 [.ref 39, .int 5] G I10 (some (.int r16), G, I14) ∧ ((¬ r16 = 0 → ∀ y18 : Int32, y18 = x3 + 1 → Ev X (d + 1) 12 43 [.ref 39, .ref 44, .int x2, .int y18] [] G I14 res) ∧ (r16 = 0 → res = (some (.int (I14 39 2)), G, I14)))))))))) :
    Ev X (d + 1) 12 43 [.ref 39, .ref 44, .int x2, .int x3] [] G I res := by
  refine Ev_iload_n hq_12 (show decode prog_5_method_2_code 43 = .ok (.iload_n 3, 1) by decide +kernel) rfl ?_
  refine Ev_iconst (v := 3) hq_12 (show decode prog_5_method_2_code 44 = .ok (.iconst 3, 1) by decide +kernel) (by decide) ?_
  refine Ev_icmp_ge (tgt := 95) hq_12 (show decode prog_5_method_2_code 45 = .ok (.if_icmp .ge 50, 3) by decide +kernel) (by decide) (fun c1 => ?_) (fun c1 => ?_)
  · have k := k.1 c1
    refine Ev_aload_n hq_12 (show decode prog_5_method_2_code 95 = .ok (.aload_n 0, 1) by decide +kernel) rfl ?_
    refine Ev_getR hq_12 (show decode prog_5_method_2_code 96 = .ok (.getfield 42, 3) by decide +kernel) rfl (S5n hS (by decide)) (S5k hS rfl) (by decide) rfl (S5r hS rfl) ?_
    refine Ev_iconst (v := 3) hq_12 (show decode prog_5_method_2_code 99 = .ok (.iconst 3, 1) by decide +kernel) (by decide) ?_
    refine Ev_aload_n hq_12 (show decode prog_5_method_2_code 100 = .ok (.aload_n 0, 1) by decide +kernel) rfl ?_
    refine Ev_getI hq_12 (show decode prog_5_method_2_code 101 = .ok (.getfield 37, 3) by decide +kernel) rfl (S5n hS (by decide)) (S5k hS rfl) (by decide) rfl ?_
    refine Ev_iast hq_12 (show decode prog_5_method_2_code 104 = .ok (.iastore, 1) by decide +kernel) (S5n hS (by decide)) (S5k hS rfl) (S5i hS rfl (by decide)) ?_
    obtain ⟨I2, eI2⟩ : ∃ I2 : zI, I2 = z_up I 42 (3 : Int32).toNatClampNeg (I 39 8) := ⟨_, rfl⟩
    have k := k I2 eI2
    rw [← eI2]
    refine Ev_aload_n hq_12 (show decode prog_5_method_2_code 105 = .ok (.aload_n 0, 1) by decide +kernel) rfl ?_
    refine Ev_getI hq_12 (show decode prog_5_method_2_code 106 = .ok (.getfield 25, 3) by decide +kernel) rfl (S5n hS (by decide)) (S5k hS rfl) (by decide) rfl ?_
    refine Ev_if_ne (tgt := 116) hq_12 (show decode prog_5_method_2_code 109 = .ok (.ifCond .ne 7, 3) by decide +kernel) (by decide) (fun c3 => ?_) (fun c3 => ?_)
    · have k := k.1 c3
      refine Ev_aload_n hq_12 (show decode prog_5_method_2_code 116 = .ok (.aload_n 0, 1) by decide +kernel) rfl ?_
      refine Ev_getI hq_12 (show decode prog_5_method_2_code 117 = .ok (.getfield 19, 3) by decide +kernel) rfl (S5n hS (by decide)) (S5k hS rfl) (by decide) rfl ?_
      exact Ev_iret hq_12 (show decode prog_5_method_2_code 120 = .ok (.ireturn, 1) by decide +kernel) rfl k
    · have k := k.2 (Classical.not_not.mp c3)
      refine Ev_iconst (v := (-1)) hq_12 (show decode prog_5_method_2_code 112 = .ok (.iconst (-1), 1) by decide +kernel) (by decide) ?_
      refine Ev_goto (tgt := 120) hq_12 (show decode prog_5_method_2_code 113 = .ok (.goto 7, 3) by decide +kernel) (by decide) ?_
      exact Ev_iret hq_12 (show decode prog_5_method_2_code 120 = .ok (.ireturn, 1) by decide +kernel) rfl k
  · have k := k.2 c1
    refine Ev_aload_n hq_12 (show decode prog_5_method_2_code 48 = .ok (.aload_n 0, 1) by decide +kernel) rfl ?_
    refine Ev_getR hq_12 (show decode prog_5_method_2_code 49 = .ok (.getfield 42, 3) by decide +kernel) rfl (S5n hS (by decide)) (S5k hS rfl) (by decide) rfl (S5r hS rfl) ?_
    refine Ev_iload_n hq_12 (show decode prog_5_method_2_code 52 = .ok (.iload_n 3, 1) by decide +kernel) rfl ?_
    refine Ev_aload_n hq_12 (show decode prog_5_method_2_code 53 = .ok (.aload_n 0, 1) by decide +kernel) rfl ?_
    refine Ev_getI hq_12 (show decode prog_5_method_2_code 54 = .ok (.getfield 37, 3) by decide +kernel) rfl (S5n hS (by decide)) (S5k hS rfl) (by decide) rfl ?_
    obtain ⟨h4, k⟩ := k
    refine Ev_iast hq_12 (show decode prog_5_method_2_code 57 = .ok (.iastore, 1) by decide +kernel) (S5n hS (by decide)) (S5k hS rfl) (S5i hS rfl h4) ?_
    obtain ⟨I5, eI5⟩ : ∃ I5 : zI, I5 = z_up I 42 x3.toNatClampNeg (I 39 8) := ⟨_, rfl⟩
    have k := k I5 eI5
    rw [← eI5]
    refine Ev_aload_n hq_12 (show decode prog_5_method_2_code 58 = .ok (.aload_n 0, 1) by decide +kernel) rfl ?_
    refine Ev_bipush (v := 11) hq_12 (show decode prog_5_method_2_code 59 = .ok (.bipush 11, 2) by decide +kernel) (by decide) ?_
    refine Ev_iload_n hq_12 (show decode prog_5_method_2_code 61 = .ok (.iload_n 3, 1) by decide +kernel) rfl ?_
    refine Ev_iadd hq_12 (show decode prog_5_method_2_code 62 = .ok (.iadd, 1) by decide +kernel) ?_
    obtain ⟨r8, I6, h7, k⟩ := k
    refine Ev_virt (as := [.int (11 + x3)]) hq_12 (show decode prog_5_method_2_code 63 = .ok (.invokevirtual 52, 3) by decide +kernel) rfl hq_22 rfl (z_le rfl) ⟨(S5n hS (by decide)), (S5k hS rfl), by decide⟩ h7 ?_
    refine Ev_if_eq (tgt := 84) hq_12 (show decode prog_5_method_2_code 66 = .ok (.ifCond .eq 18, 3) by decide +kernel) (by decide) (fun c9 => ?_) (fun c9 => ?_)
    · have k := k.1 c9
      refine Ev_aload_n hq_12 (show decode prog_5_method_2_code 84 = .ok (.aload_n 0, 1) by decide +kernel) rfl ?_
      refine Ev_getI hq_12 (show decode prog_5_method_2_code 85 = .ok (.getfield 19, 3) by decide +kernel) rfl (S5n hS (by decide)) (S5k hS rfl) (by decide) rfl ?_
      exact Ev_iret hq_12 (show decode prog_5_method_2_code 88 = .ok (.ireturn, 1) by decide +kernel) rfl k
    · have k := k.2 c9
      refine Ev_aload_n hq_12 (show decode prog_5_method_2_code 69 = .ok (.aload_n 0, 1) by decide +kernel) rfl ?_
      obtain ⟨r12, I10, h11, k⟩ := k
      refine Ev_virt (as := []) hq_12 (show decode prog_5_method_2_code 70 = .ok (.invokevirtual 56, 3) by decide +kernel) rfl hq_23 rfl (z_le rfl) ⟨(S5n hS (by decide)), (S5k hS rfl), by decide⟩ h11 ?_
      refine Ev_if_eq (tgt := 84) hq_12 (show decode prog_5_method_2_code 73 = .ok (.ifCond .eq 11, 3) by decide +kernel) (by decide) (fun c13 => ?_) (fun c13 => ?_)
      · have k := k.1 c13
        refine Ev_aload_n hq_12 (show decode prog_5_method_2_code 84 = .ok (.aload_n 0, 1) by decide +kernel) rfl ?_
        refine Ev_getI hq_12 (show decode prog_5_method_2_code 85 = .ok (.getfield 19, 3) by decide +kernel) rfl (S5n hS (by decide)) (S5k hS rfl) (by decide) rfl ?_
        exact Ev_iret hq_12 (show decode prog_5_method_2_code 88 = .ok (.ireturn, 1) by decide +kernel) rfl k
      · have k := k.2 c13
        refine Ev_aload_n hq_12 (show decode prog_5_method_2_code 76 = .ok (.aload_n 0, 1) by decide +kernel) rfl ?_
        refine Ev_iconst (v := 5) hq_12 (show decode prog_5_method_2_code 77 = .ok (.iconst 5, 1) by decide +kernel) (by decide) ?_
        obtain ⟨r16, I14, h15, k⟩ := k
        refine Ev_virt (as := [.int 5]) hq_12 (show decode prog_5_method_2_code 78 = .ok (.invokevirtual 52, 3) by decide +kernel) rfl hq_22 rfl (z_le rfl) ⟨(S5n hS (by decide)), (S5k hS rfl), by decide⟩ h15 ?_
        refine Ev_if_ne (tgt := 89) hq_12 (show decode prog_5_method_2_code 81 = .ok (.ifCond .ne 8, 3) by decide +kernel) (by decide) (fun c17 => ?_) (fun c17 => ?_)
        · have k := k.1 c17
          obtain ⟨y18, ey18⟩ : ∃ y18 : Int32, y18 = x3 + 1 := ⟨_, rfl⟩
          have k := k y18 ey18
          refine Ev_iinc (v := y18) (lo2 := [.ref 39, .ref 44, .int x2, .int y18]) hq_12 (show decode prog_5_method_2_code 89 = .ok (.iinc 3 1, 3) by decide +kernel) rfl (by rw [ey18]; rfl) rfl ?_
          refine Ev_goto (tgt := 43) hq_12 (show decode prog_5_method_2_code 92 = .ok (.goto (-49), 3) by decide +kernel) (by decide) ?_
          exact k
        · have k := k.2 (Classical.not_not.mp c17)
          refine Ev_aload_n hq_12 (show decode prog_5_method_2_code 84 = .ok (.aload_n 0, 1) by decide +kernel) rfl ?_
          refine Ev_getI hq_12 (show decode prog_5_method_2_code 85 = .ok (.getfield 19, 3) by decide +kernel) rfl (S5n hS (by decide)) (S5k hS rfl) (by decide) rfl ?_
          exact Ev_iret hq_12 (show decode prog_5_method_2_code 88 = .ok (.ireturn, 1) by decide +kernel) rfl k
/-- what a text does not touch -/
def FrT (I I1 : zI) : Prop := (∀ c, c ≠ 39 → c ≠ 41 → c ≠ 42 → I1 c = I c) ∧ ∀ k, (k < 2 ∨ k = 7 ∨ 8 < k) → I1 39 k = I 39 k
def FT (m : Nat) (J J1 : zI) : Prop := (∀ c, c ≠ 57 → c ≠ 62 → c ≠ 63 → c ≠ 70 → J1 c = J c) ∧ (∀ k, k ≠ 5 → k ≠ 8 → ¬ (18 ≤ k ∧ k ≤ 21) → ¬ (24 ≤ k ∧ k ≤ 26) → J1 57 k = J 57 k) ∧ (∀ k, k < 200 * m → J1 62 k = J 62 k) ∧ ∀ k, k < 4 * m → J1 63 k = J 63 k
theorem FrT.tr {I I1 I2 : zI} (h : FrT I I1) (h2 : FrT I1 I2) : FrT I I2 := ⟨fun c a e f => (h2.1 c a e f).trans (h.1 c a e f), fun k a => (h2.2 k a).trans (h.2 k a)⟩
theorem FrT.of {I I1 : zI} (h : FrD I I1) : FrT I I1 := ⟨fun c a e _ => h.1 c a e, h.2⟩
theorem FT.tr {m : Nat} {J J1 J2 : zI} (h : FT m J J1) (h2 : FT m J1 J2) : FT m J J2 := ⟨fun c a e f g => (h2.1 c a e f g).trans (h.1 c a e f g), fun k a e f g => (h2.2.1 k a e f g).trans (h.2.1 k a e f g), fun k a => (h2.2.2.1 k a).trans (h.2.2.1 k a), fun k a => (h2.2.2.2 k a).trans (h.2.2.2 k a)⟩
theorem FT.of {m : Nat} {J J1 : zI} (h : FE m J J1) : FT m J J1 := ⟨fun c a e _ g => h.1 c a e g, fun k _ _ a e => h.2.1 k a e, h.2.2, fun k _ => by rw [h.1 63 (by decide) (by decide) (by decide)]⟩
/-- where a text's parts begin -/
def stp (ss : List (List Nat)) (k : Nat) : Nat := (ss.take k).flatten.length
/-- a text that stands: the class's steps and the model's codes of its parts -/
def TxR (m : Nat) (I J : zI) (ss : List (List Nat)) : Prop := ss.length = 3 ∧ (∀ t, t ∈ ss → okD t 0 ∧ rnD t 0 = 1) ∧ ss.flatten.length ≤ 160 ∧ StC I ss.flatten ∧ (∀ k, k < 4 → I 42 k = zi (stp ss k) ∧ J 63 (4 * m + k) = zi (stp ss k)) ∧ ∀ k, k < ss.flatten.length → J 62 (200 * m + k) = zi (ss.flatten.getD k 0)
theorem z_failed {X : Nat × (Nat → Int32)} {d : Nat} {G : zG} (hS : SG G) {m : Nat} (hm : m < 6) {J : zI} (h8 : J 57 8 = zi m) (x2 : Int32) :
    ∃ J1 : zI, Ev X (d + 1) 129 26 [.ref 57, .int 0, .int x2] [] G J (some (.int (-100 - J 57 19)), G, J1) ∧ FT m J J1 ∧ J1 57 5 = 0 ∧ J1 57 8 = zi m := by
  have e : (4 : Int32) * J 57 8 + 3 = zi (4 * m + 3) := by
    rw [h8]; show zi 4 * zi m + zi 3 = _
    rw [zi_mul, zi_add]
  have ein : z_inr ((4 : Int32) * J 57 8 + 3) 24 := by rw [e]; exact zi_inr (by omega) (by omega)
  have fin : ∀ A B : zI, A = z_up J 63 ((4 : Int32) * J 57 8 + 3).toNatClampNeg (J 57 26) → B = z_up A 57 5 0 → B = z_up (z_up J 63 (4 * m + 3) (J 57 26)) 57 5 0 := fun A B gA gB => by rw [gB, gA, e, zi_nat (by omega)]
  refine ⟨z_up (z_up J 63 (4 * m + 3) (J 57 26)) 57 5 0, ?_, ⟨fun c a _ b _ => by rw [up_cell a, up_cell b], fun k a _ _ _ => by rw [up_place a, up_cell (by decide)], fun k _ => by rw [up_cell (by decide), up_cell (by decide)], fun k hk => by rw [up_cell (by decide), up_place (by omega)]⟩, up_same, by rw [up_place (by decide), up_cell (by decide)]; exact h8⟩
  have go : ∀ A B : zI, A = z_up J 63 ((4 : Int32) * J 57 8 + 3).toNatClampNeg (J 57 26) → B = z_up A 57 5 0 → (some (Value.int (-100 - J 57 19)), G, z_up (z_up J 63 (4 * m + 3) (J 57 26)) 57 5 0) = (some (Value.int (-100 - B 57 19)), G, B) := fun A B gA gB => by
    rw [fin A B gA gB, up_place (by decide), up_cell (by decide)]
  exact wp_Z_text_26 _ _ hS ⟨fun _ => ⟨fun _ => ⟨ein, fun A gA B gB => ⟨fun h => absurd rfl h, fun _ => go A B gA gB⟩⟩, fun h => absurd rfl h⟩, fun _ => ⟨fun _ => ⟨fun _ => ⟨ein, fun A gA B gB => ⟨fun h => absurd rfl h, fun _ => go A B gA gB⟩⟩, fun h => absurd rfl h⟩, fun h => absurd rfl h⟩⟩
theorem Rs.fr42 {b : Nat → Int32} {n M i o : Nat} {s : List Nat} {I : zI} {k : Nat} {v : Int32} (h : Rs b n M I i o s) : Rs b n M (z_up I 42 k v) i o s :=
  ⟨⟨⟨by rw [up_cell (by decide)]; exact h.1.1.1, fun k hk => by rw [up_cell (by decide)]; exact h.1.1.2 k hk⟩, by rw [up_cell (by decide)]; exact h.1.2.1, by rw [up_cell (by decide)]; exact h.1.2.2.1, by rw [up_cell (by decide)]; exact h.1.2.2.2.1, fun e => by rw [up_cell (by decide)]; exact h.1.2.2.2.2 e⟩, h.2.1, h.2.2.1, by rw [up_cell (by decide)]; exact h.2.2.2.1, ⟨by rw [up_cell (by decide)]; exact h.2.2.2.2.1.1, fun k hk => by rw [up_cell (by decide)]; exact h.2.2.2.2.1.2 k hk⟩, h.2.2.2.2.2⟩
theorem rtk_w : ∀ t, t < 23 → (rtk t = 3 ↔ 11 ≤ t ∧ t ≤ 13) ∧ (rtk t = 0 ↔ t = 0) := by decide +kernel
theorem stp_app {ss : List (List Nat)} {s : List Nat} {k : Nat} (h : k ≤ ss.length) : stp (ss ++ [s]) k = stp ss k := by
  unfold stp; rw [List.take_append_of_le_length h]
theorem stp_all {ss : List (List Nat)} {s : List Nat} : stp (ss ++ [s]) ss.length = ss.flatten.length := by
  rw [stp_app (Nat.le_refl _)]; unfold stp; rw [List.take_length]
theorem stp_self {ss : List (List Nat)} : stp ss ss.length = ss.flatten.length := by
  unfold stp; rw [List.take_length]
