/-! A NEW MODEL -/
set_option maxRecDepth 20000 in
theorem Z_fill {X : Nat × (Nat → Int32)} : ∀ (m c : Nat) (J : zI), c + m = 54 → (∀ k, k < c → J 61 k = b0 k) → (∀ k, k < 54 → J 68 k = b0 k) → ∃ J1 : zI, (∀ k, k < 54 → J1 61 k = b0 k) ∧ (∀ a, a ≠ 61 → J1 a = J a) ∧ ∀ res, Ev X 60 128 1111 [.ref 57, .int (zi 54)] [] mG45 J1 res → Ev X 60 128 1087 [.ref 57, .int (zi c)] [] mG45 J res := by
  intro m
  induction m with
  | zero =>
    intro c J hc h h68
    obtain rfl : c = 54 := by omega
    refine ⟨J, h, fun _ _ => rfl, fun res k => ?_⟩
    refine Ev_iload_n hq_128 (show decode prog_7_method_1_code 1087 = .ok (.iload_n 1, 1) by decide +kernel) rfl ?_
    refine Ev_bipush (v := zi 54) hq_128 (show decode prog_7_method_1_code 1088 = .ok (.bipush 54, 2) by decide +kernel) (by decide) ?_
    exact Ev_icmp_ge (tgt := 1111) hq_128 (show decode prog_7_method_1_code 1090 = .ok (.if_icmp .ge 21, 3) by decide +kernel) (by decide) (fun _ => k) (fun h => absurd (Int32.le_refl _) h)
  | succ m ih =>
    intro c J hc h h68
    have nx : ¬ zi 54 ≤ zi c := fun h => absurd ((zi_le (by omega) (by omega)).1 h) (by omega)
    obtain ⟨J1, a1, a2, go⟩ := ih (c + 1) (z_up J 61 c (b0 c)) (by omega) (fun k hk => by
      by_cases q : k = c
      · subst q; exact up_same
      · rw [up_place q]; exact h k (by omega)) (fun k hk => by rw [up_cell (by decide)]; exact h68 k hk)
    refine ⟨J1, a1, fun a ha => by rw [a2 a ha, up_cell ha], fun res k => ?_⟩
    have go := go res k
    refine Ev_iload_n hq_128 (show decode prog_7_method_1_code 1087 = .ok (.iload_n 1, 1) by decide +kernel) rfl ?_
    refine Ev_bipush (v := zi 54) hq_128 (show decode prog_7_method_1_code 1088 = .ok (.bipush 54, 2) by decide +kernel) (by decide) ?_
    refine Ev_icmp_ge (tgt := 1111) hq_128 (show decode prog_7_method_1_code 1090 = .ok (.if_icmp .ge 21, 3) by decide +kernel) (by decide) (fun h => absurd h nx) (fun _ => ?_)
    refine Ev_aload_n hq_128 (show decode prog_7_method_1_code 1093 = .ok (.aload_n 0, 1) by decide +kernel) rfl ?_
    refine Ev_getR hq_128 (show decode prog_7_method_1_code 1094 = .ok (.getfield 19, 3) by decide +kernel) rfl (by decide +kernel) (by decide +kernel) (by decide) rfl (show zr mG45 57 4 = some 61 by decide +kernel) ?_
    refine Ev_iload_n hq_128 (show decode prog_7_method_1_code 1097 = .ok (.iload_n 1, 1) by decide +kernel) rfl ?_
    refine Ev_aload_n hq_128 (show decode prog_7_method_1_code 1098 = .ok (.aload_n 0, 1) by decide +kernel) rfl ?_
    refine Ev_getR hq_128 (show decode prog_7_method_1_code 1099 = .ok (.getfield 40, 3) by decide +kernel) rfl (by decide +kernel) (by decide +kernel) (by decide) rfl (show zr mG45 57 17 = some 68 by decide +kernel) ?_
    refine Ev_iload_n hq_128 (show decode prog_7_method_1_code 1102 = .ok (.iload_n 1, 1) by decide +kernel) rfl ?_
    refine Ev_iald hq_128 (show decode prog_7_method_1_code 1103 = .ok (.iaload, 1) by decide +kernel) (by decide +kernel) (by decide +kernel) (by rw [show zl mG45 68 = 54 by decide +kernel]; exact zi_inr (by omega) (by omega)) ?_
    rw [zi_nat (show c < _ by omega), h68 c (by omega)]
    refine Ev_iast hq_128 (show decode prog_7_method_1_code 1104 = .ok (.iastore, 1) by decide +kernel) (by decide +kernel) (by decide +kernel) (by rw [show zl mG45 61 = 160 by decide +kernel]; exact zi_inr (by omega) (by omega)) ?_
    rw [zi_nat (show c < _ by omega)]
    refine Ev_iinc (v := zi (c + 1)) (lo2 := [.ref 57, .int (zi (c + 1))]) hq_128 (show decode prog_7_method_1_code 1105 = .ok (.iinc 1 1, 3) by decide +kernel) rfl (zi1 c) rfl ?_
    exact Ev_goto (tgt := 1087) hq_128 (show decode prog_7_method_1_code 1108 = .ok (.goto (-21), 3) by decide +kernel) (by decide) go
theorem mG_SG : SG mG45 := ⟨by decide +kernel, tab_ok (by decide +kernel), tab_ok (by decide +kernel), fun a j b hr => ref_ok (n := 80) (by decide +kernel) (zRf_lt hr).1 hr⟩
theorem mG_LW : LW mG45 52 := ⟨by decide +kernel, by decide +kernel, by decide +kernel⟩
set_option maxRecDepth 20000 in
theorem start_rel {X : Nat × (Nat → Int32)} : ∃ (I4 J4 : zI), Cv X 60 1 [.ref 0] cG1 (cI1 zI0) (none, cT6, I4) ∧ Cv X 60 128 [.ref 57] mG1 (mI1 I4) (none, mG45, J4) ∧ Rel 0 1 mG45 J4 J4 := by
  obtain ⟨ss, Ir, I4, kT, l9, ⟨e07, e09, e03, e17, e18, e50⟩, h53, h54, rm⟩ := c_Tinit (X := X)
  obtain ⟨J0, hJ0⟩ : ∃ J0 : zI, J0 = mI27 I4 := ⟨_, rfl⟩
  have hS := mG_SG
  obtain ⟨J1, a1, a2, go⟩ := Z_fill (X := X) 54 0 J0 rfl (fun k hk => absurd hk (Nat.not_lt_zero _)) (fun k hk => by rw [hJ0, m_68 hk]; exact lawL_b0 k hk)
  obtain ⟨J2, hJ2⟩ : ∃ J2 : zI, J2 = z_up J1 57 5 (zi 54) := ⟨_, rfl⟩
  have f57 : ∀ k, k ≠ 5 → J2 57 k = J0 57 k := fun k hk => by rw [hJ2, up_place hk, a2 57 (by decide)]
  have fc : ∀ c, c ≠ 57 → c ≠ 61 → J2 c = J0 c := fun c h1 h2 => by rw [hJ2, up_cell h1, a2 c h2]
  obtain ⟨J3, b1, b2, b3, F2, goz⟩ := z_text (X := X) (d := 5) hS (m := 0) (n := 54) (by omega) (J := J2) (b := b0) (by rw [f57 8 (by decide), hJ0]; exact m_8) ⟨by rw [hJ2]; exact up_same, fun k hk => by rw [hJ2, up_cell (by decide)]; exact a1 k hk, fun k hk => by rw [fc 69 (by decide) (by decide), hJ0]; exact m_69 hk⟩
  obtain ⟨J4, k1, F1, z5, z8, T⟩ := rm hS J3 b1 b2 b3
  have F := F2.tr F1
  have kz := goz _ k1
  have o : ∀ c, c < 57 → J4 c = I4 c := fun c h => by
    rw [F.1 c (by omega) (by omega) (by omega) (by omega), fc c (by omega) (by omega), hJ0]; exact m_old h
  have p : ∀ k, k ≠ 5 → k ≠ 8 → ¬ (18 ≤ k ∧ k ≤ 21) → ¬ (24 ≤ k ∧ k ≤ 26) → J4 57 k = mI27 I4 57 k := fun k x1 x2 x3 x4 => by
    rw [F.2.1 k x1 x2 x3 x4, f57 k x1, hJ0]
  have r : ∀ c, 63 < c → c ≠ 70 → J4 c = mI27 I4 c := fun c x1 x2 => by
    rw [F.1 c (by omega) (by omega) (by omega) x2, fc c (by omega) (by omega), hJ0]
  refine ⟨I4, J4, kT.deep (by omega), ?_, hS, ⟨(by decide +kernel), (by decide +kernel)⟩, ⟨by omega, by rw [o 1 (by decide)]; exact e17, by rw [p 0 (by decide) (by decide) (by decide) (by decide)]; exact m_0, fun x hx => absurd hx (Nat.not_lt_zero _)⟩, ⟨by omega, by omega, by rw [o 0 (by decide)]; exact e07, z8, fun t ht => ?_⟩, ⟨0, by omega, by rw [o 1 (by decide)]; exact e18, by rw [p 9 (by decide) (by decide) (by decide) (by decide)]; exact m_9⟩, ⟨0, by omega, by rw [o 0 (by decide)]; exact e09, z5, fun i hi => absurd hi (Nat.not_lt_zero _)⟩, fun s hs => ?_, ⟨?_, Or.inl ?_⟩, ?_, fun k hk => by rw [r 69 (by decide) (by decide)]; exact m_69 hk⟩
  · refine Cv.of hq_128 (z_le rfl) rfl (Z_init_1085 (d := 58) ?_)
    rw [← hJ0]
    refine Ev_iconst (v := zi 0) hq_128 (show decode prog_7_method_1_code 1085 = .ok (.iconst 0, 1) by decide +kernel) (by decide) ?_
    refine Ev_istore_n (lo2 := [.ref 57, .int (zi 0)]) hq_128 (show decode prog_7_method_1_code 1086 = .ok (.istore_n 1, 1) by decide +kernel) (z_le rfl) rfl ?_
    refine go _ ?_
    refine Ev_aload_n hq_128 (show decode prog_7_method_1_code 1111 = .ok (.aload_n 0, 1) by decide +kernel) rfl ?_
    refine Ev_bipush (v := zi 54) hq_128 (show decode prog_7_method_1_code 1112 = .ok (.bipush 54, 2) by decide +kernel) (by decide) ?_
    refine Ev_putI hq_128 (show decode prog_7_method_1_code 1114 = .ok (.putfield 80, 3) by decide +kernel) rfl (by decide +kernel) (by decide +kernel) (by decide) (by decide) rfl (fun hz => by cases hz) ?_
    rw [← hJ2]
    refine Ev_aload_n hq_128 (show decode prog_7_method_1_code 1117 = .ok (.aload_n 0, 1) by decide +kernel) rfl ?_
    refine Ev_virt (as := []) hq_128 (show decode prog_7_method_1_code 1118 = .ok (.invokevirtual 83, 3) by decide +kernel) rfl hq_129 rfl (z_le rfl) (by decide +kernel) (kz.deep (by omega)) ?_
    refine Ev_pop hq_128 (show decode prog_7_method_1_code 1121 = .ok (.pop, 1) by decide +kernel) rfl ?_
    exact Ev_vret hq_128 (show decode prog_7_method_1_code 1122 = .ok (.return_, 1) by decide +kernel) rfl
  · obtain rfl : t = 0 := by omega
    obtain ⟨h3, hok, h16, hst, h42, h62⟩ := T
    refine ⟨52, (by decide +kernel), Or.inl rfl, tr_new (ss := ss) mG_LW (by omega) (by rw [l9]; decide +kernel) h3 hok h16 (fun k hk => ?_) (fun k hk => ⟨?_, (h42 k hk).2⟩) h62⟩
    · rw [o 53 (by decide), h53 k (by omega)]
      exact hst.2 k hk
    · rw [o 54 (by decide), h54]
      exact (h42 k hk).1
  · have e : J4 65 s = -1 := by
      rw [r 65 (by decide) (by decide), m_65 hs]
      rcases (show s = 0 ∨ s = 1 ∨ s = 2 ∨ s = 3 by omega) with rfl | rfl | rfl | rfl <;> rfl
    exact ⟨by rw [o 50 (by decide), e]; exact e50 s hs, Or.inl e⟩
  · rw [o 0 (by decide), e03, p 10 (by decide) (by decide) (by decide) (by decide)]; exact m_10.symm
  · rw [p 10 (by decide) (by decide) (by decide) (by decide)]; exact m_10
  · rw [p 34 (by decide) (by decide) (by decide) (by decide)]; exact m_34
