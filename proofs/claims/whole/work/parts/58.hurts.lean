theorem q_hurts (x1 x2 : Int32) : Quiet 93 187 [.int x1, .int x2] := by
  intro X n m G I J R
  have hS := R.S
  have hn := R.H.le
  have es := two_eq R.H x1 x2
  by_cases hs : f_T_areTwo I x1 x2 = 0
  · exact ⟨_, I, J, Cv.of hq_93 (z_le rfl) rfl (wp_T_hurts _ _ (by omega) hS ⟨fun h => absurd hs h, fun _ => rfl⟩), Cv.of hq_187 (z_le rfl) rfl (wp_Z_hurts _ _ (by omega) hS ⟨fun h => absurd (es.trans hs) h, fun _ => rfl⟩), FC.rf, FZ.rf⟩
  have hs' : ¬ f_Z_areTwo J x1 x2 = 0 := fun h => hs (es.symm.trans h)
  obtain ⟨x, y, hx, hy, hxy, rfl, rfl⟩ := two_spec R.H hs
  obtain ⟨r0, hA0⟩ := R.AD
  obtain ⟨I2, J2, k1, k2, k3, k4, -, -, mc⟩ := live_sim (X := X) (d := 92) hS (Or.inl rfl) hA0 R.q
  have R2 := R.fr k3.C k4.Z
  obtain ⟨r, I6, c0, f0, hA, -⟩ := think (X := X) (d := 98) R2
  have hA9 := hA.onUp (x := x) (v := 0) hx (Or.inl rfl)
  obtain ⟨I4, J6, k5, k6, k7, k8, -, -, mc2⟩ := live_sim (X := X) (d := 92) hS (Or.inr rfl) hA9 (by rw [up_cell (by decide)]; exact R2.q)
  have z1 : Cv X 99 179 [.ref 57, .int (zi y)] G J (some (.int (J2 75 y)), G, J2) := Cv.of hq_179 (z_le rfl) rfl (wp_Z_costOf _ hS ⟨J2, k2, zi_inr (by omega) (by omega), by rw [zi_nat (show y < _ by omega)]⟩)
  have z2 : Cv X 99 179 [.ref 57, .int (zi y)] G (z_up J2 60 (5 * x + 4) 0) (some (.int (J6 75 y)), G, J6) := Cv.of hq_179 (z_le rfl) rfl (wp_Z_costOf _ hS ⟨J6, k6, zi_inr (by omega) (by omega), by rw [zi_nat (show y < _ by omega)]⟩)
  refine ⟨.int (J2 75 y - J6 75 y), I4, z_up J6 60 (5 * x + 4) (J2 60 (5 * x + 4)), Cv.of hq_93 (z_le rfl) rfl (wp_T_hurts _ _ (by omega) hS ?_), Cv.of hq_187 (z_le rfl) rfl (wp_Z_hurts _ _ (by omega) hS ?_), ?_, ?_⟩
  · rw [zi_nat (show x < _ by omega), zi_nat (show y < _ by omega)]
    exact ⟨fun _ => ⟨I2, k1.deep (by omega), ⟨zi_inr (by omega) (by omega), fun y5_ e1 => (by subst e1; exact ⟨I6, c0, ⟨zi_inr (by omega) (by omega), fun I9_ e2 => (by subst e2; exact ⟨I4, k5.deep (by omega), ⟨zi_inr (by omega) (by omega), (by rw [(mc y hy).1, (mc2 y hy).1])⟩⟩)⟩⟩)⟩⟩, fun h => absurd h hs⟩
  · rw [show (5 : Int32) * zi x + 4 = zi (5 * x + 4) from z51 x 4, zi_nat (show 5 * x + 4 < _ by omega)]
    exact ⟨fun _ => ⟨_, J2, z1, ⟨zi_inr (by omega) (by omega), fun y6_ e1 => (by subst e1; exact ⟨zi_inr (by omega) (by omega), fun I8_ e2 => (by subst e2; exact ⟨_, J6, z2, ⟨zi_inr (by omega) (by omega), fun I13_ e3 => (by subst e3; exact rfl)⟩⟩)⟩)⟩⟩, fun h => absurd h hs'⟩
  · exact (k3.C.tr f0).tr fun c a b e => by rw [k7 c b e, up_cell (by omega)]
  · refine k4.Z.tr (FZ6.back (p := fun k => k = 5 * x + 4) (((FZ6.up (p := fun k => k = 5 * x + 4) rfl).tr (FrR.Z k8).six).tr (FZ6.up rfl)) (fun k hk => by rw [hk, up_same]))
theorem off_loop {X : Nat × (Nat → Int32)} {G : zG} {n m : Nat} (x1 : Int32) :
    ∀ (j x : Nat) (I J : zI) (L b l : Int32), x + j = n → Rel n m G I J → CT L b l x → (b = -1 → l = -1) →
    ∃ (w : Int32) (I1 J1 : zI), Ev X 100 94 17 [.ref 0, .int x1, .int L, .int (zi x)] [] G I (some (.int w), G, I1) ∧ (∀ v5 v6 : Value, v5.category = 1 → v6.category = 1 → Ev X 100 188 19 [.ref 57, .int x1, .int b, .int l, .int (zi x), v5, v6] [] G J (some (.int w), G, J1)) ∧ FC I I1 ∧ FZ J J1 := by
  intro j
  induction j with
  | zero =>
    intro x I J L b l hk R hC hl
    have hS := R.S
    obtain rfl : x = n := by omega
    have hn := R.H.le
    obtain ⟨n1, n2⟩ := CT_no (by omega) hC
    by_cases hb : b = -1
    · refine ⟨-1, I, J, wp_T_off_17 _ _ _ hS ⟨fun _ => ⟨fun h => absurd (n1 hb) h, fun _ => rfl⟩, fun h => absurd ?_ h⟩, fun v5 v6 c5 c6 => wp_Z_off_19 _ _ _ _ v5 c5 v6 c6 hS ⟨fun _ => ⟨fun _ => by rw [hl hb], fun _ => by rw [hb]⟩, fun h => absurd ?_ h⟩, FC.rf, FZ.rf⟩
      · rw [R.H.ci]; exact Int32.le_refl _
      · rw [R.H.cj]; exact Int32.le_refl _
    · obtain ⟨g0, g1, g2⟩ := CT_end (by omega) hC hb
      refine ⟨f_T_choiceOrCost L x1, I, J, wp_T_off_17 _ _ _ hS ⟨fun _ => ⟨fun _ => rfl, fun h => absurd h g0⟩, fun h => absurd ?_ h⟩, fun v5 v6 c5 c6 => wp_Z_off_19 _ _ _ _ v5 c5 v6 c6 hS ⟨fun _ => ⟨fun h => by rw [g2 _ h], fun h => by rw [g1 _ h]⟩, fun h => absurd ?_ h⟩, FC.rf, FZ.rf⟩
      · rw [R.H.ci]; exact Int32.le_refl _
      · rw [R.H.cj]; exact Int32.le_refl _
  | succ j ih =>
    intro x I J L b l hk R hC hl
    have hS := R.S
    have hn := R.H.le
    have hx : x < n := by omega
    have hX := R.H.at' x hx
    have nx : ¬ zi n ≤ zi x := fun h => absurd ((zi_le (by omega) (by omega)).1 h) (by omega)
    have cO := c_isOn (X := X) (d := 99) hS (J := J) (x := x) (by omega)
    have o8 : I 8 x = J 60 (5 * x + 4) := hX.on
    rcases hX.ro with on0 | on1
    · obtain ⟨w, I9, J9, q1, q2, q3, q4⟩ := ih (x + 1) I J L b l (by omega) R (CT_keep (by omega) hC) hl
      have o1 : I 8 x = 0 := o8.trans on0
      refine ⟨w, I9, J9, wp_T_off_17 _ _ _ hS ?_, fun v5 v6 c5 c6 => wp_Z_off_19 _ _ _ _ v5 c5 v6 c6 hS ?_, q3, q4⟩
      · rw [R.H.ci, zi_nat (show x < _ by omega), o1]
        exact ⟨fun h => absurd h nx, fun _ => ⟨zi_inr (by omega) (by omega), ⟨fun _ => fun y5_ e1 => (by subst e1; exact (by rw [zi1 x]; exact q1)), fun h => absurd h (by decide)⟩⟩⟩
      · rw [R.H.cj, show (5 : Int32) * zi x + 4 = zi (5 * x + 4) from z51 x 4, zi_nat (show 5 * x + 4 < _ by omega)]
        exact ⟨fun h => absurd h nx, fun _ => ⟨_, J, cO, ⟨fun _ => fun y7_ e1 => (by subst e1; exact (by rw [zi1 x]; exact q2 _ _ c5 c6)), fun h => absurd (by rw [on0]; decide) h⟩⟩⟩
    · have o1 : I 8 x = 1 := o8.trans on1
      obtain ⟨r, I3, c0, f0, hA, -⟩ := think (X := X) (d := 97) R
      have hA9 := hA.onUp (x := x) (v := 0) hx (Or.inl rfl)
      obtain ⟨I5, J6, k5, k6, k7, k8, -, -, mc⟩ := live_sim (X := X) (d := 92) hS (Or.inr rfl) hA9 (by rw [up_cell (by decide)]; exact R.q)
      have hA6 := hA9.fr (by omega) k7 k8
      obtain ⟨r9, rc, c1, c2⟩ := cost_sim (X := X) (d := 98) hS (I := I5) (J := J6) hn hA6.1.cj (fun y hy => ⟨(mc y hy).1, (mc y hy).2.2.2⟩)
      obtain ⟨c, hc, rfl⟩ := rg_nat (k := 11880) rc
      have cw : Cv X 99 95 [.ref 0, .int (zi x)] G I (some (.int (zi c)), G, I5) := by
        refine Cv.of hq_95 (z_le rfl) rfl (wp_T_costWithout _ hS ?_)
        rw [zi_nat (show x < _ by omega)]
        exact ⟨I3, c0, ⟨zi_inr (by omega) (by omega), fun I4_ e1 => (by subst e1; exact ⟨I5, k5, ⟨_, I5, (by rw [hA6.1.ci]; exact c1), rfl⟩⟩)⟩⟩
      have cz : Cv X 99 184 [.ref 57] G (z_up J 60 (5 * x + 4) 0) (some (.int (zi c)), G, J6) := Cv.of hq_184 (z_le rfl) rfl (wp_Z_costOfAll hS ⟨J6, k6, _, J6, c2, rfl⟩)
      have fc : FC I I5 := f0.tr fun c a b e => by rw [k7 c b e, up_cell (by omega)]
      have fz : FZ J (z_up J6 60 (5 * x + 4) 1) := FZ6.back (p := fun k => k = 5 * x + 4) (((FZ6.up (p := fun k => k = 5 * x + 4) rfl).tr (FrR.Z k8).six).tr (FZ6.up rfl)) (fun k hk => by rw [hk, up_same, on1])
      have R5 := R.fr fc fz
      obtain ⟨t1, t2, t3⟩ := CT_step (k := x + 1) (c := c) (h := x) (by omega) (by omega) (by omega) hC
      by_cases b1 : b = -1
      · obtain ⟨w, I9, J9, q1, q2, q3, q4⟩ := ih (x + 1) I5 (z_up J6 60 (5 * x + 4) 1) _ _ _ (by omega) R5 (t1 b1) (fun h => absurd h (zi_nm (by omega)))
        refine ⟨w, I9, J9, wp_T_off_17 _ _ _ hS ?_, fun v5 v6 c5 c6 => wp_Z_off_19 _ _ _ _ v5 c5 v6 c6 hS ?_, fc.tr q3, fz.tr q4⟩
        · rw [R.H.ci, zi_nat (show x < _ by omega), o1]
          exact ⟨fun h => absurd h nx, fun _ => ⟨zi_inr (by omega) (by omega), ⟨fun h => absurd rfl h, fun _ => ⟨_, I5, cw, fun y9_ e1 => (by subst e1; exact fun y10_ e2 => (by subst e2; exact (by rw [zi1 x]; exact q1)))⟩⟩⟩⟩
        · rw [R.H.cj, show (5 : Int32) * zi x + 4 = zi (5 * x + 4) from z51 x 4, zi_nat (show 5 * x + 4 < _ by omega)]
          exact ⟨fun h => absurd h nx, fun _ => ⟨_, J, cO, ⟨fun h => absurd h (by rw [on1]; decide), fun _ => ⟨zi_inr (by omega) (by omega), fun I9_ e1 => (by subst e1; exact ⟨_, J6, cz, ⟨zi_inr (by omega) (by omega), fun I14_ e2 => (by subst e2; exact ⟨fun _ => fun y16_ e3 => (by subst e3; exact (by rw [zi1 x]; exact q2 _ _ rfl rfl)), fun h => absurd b1 h⟩)⟩⟩)⟩⟩⟩⟩
      by_cases b2 : l ≤ zi c
      · obtain ⟨w, I9, J9, q1, q2, q3, q4⟩ := ih (x + 1) I5 (z_up J6 60 (5 * x + 4) 1) _ _ _ (by omega) R5 (t2 b1 b2) hl
        refine ⟨w, I9, J9, wp_T_off_17 _ _ _ hS ?_, fun v5 v6 c5 c6 => wp_Z_off_19 _ _ _ _ v5 c5 v6 c6 hS ?_, fc.tr q3, fz.tr q4⟩
        · rw [R.H.ci, zi_nat (show x < _ by omega), o1]
          exact ⟨fun h => absurd h nx, fun _ => ⟨zi_inr (by omega) (by omega), ⟨fun h => absurd rfl h, fun _ => ⟨_, I5, cw, fun y9_ e1 => (by subst e1; exact fun y10_ e2 => (by subst e2; exact (by rw [zi1 x]; exact q1)))⟩⟩⟩⟩
        · rw [R.H.cj, show (5 : Int32) * zi x + 4 = zi (5 * x + 4) from z51 x 4, zi_nat (show 5 * x + 4 < _ by omega)]
          exact ⟨fun h => absurd h nx, fun _ => ⟨_, J, cO, ⟨fun h => absurd h (by rw [on1]; decide), fun _ => ⟨zi_inr (by omega) (by omega), fun I9_ e1 => (by subst e1; exact ⟨_, J6, cz, ⟨zi_inr (by omega) (by omega), fun I14_ e2 => (by subst e2; exact ⟨fun h => absurd h b1, fun _ => ⟨fun _ => fun y18_ e3 => (by subst e3; exact (by rw [zi1 x]; exact q2 _ _ rfl rfl)), fun h => absurd b2 h⟩⟩)⟩⟩)⟩⟩⟩⟩
      · obtain ⟨w, I9, J9, q1, q2, q3, q4⟩ := ih (x + 1) I5 (z_up J6 60 (5 * x + 4) 1) _ _ _ (by omega) R5 (t3 b1 b2) (fun h => absurd h (zi_nm (by omega)))
        refine ⟨w, I9, J9, wp_T_off_17 _ _ _ hS ?_, fun v5 v6 c5 c6 => wp_Z_off_19 _ _ _ _ v5 c5 v6 c6 hS ?_, fc.tr q3, fz.tr q4⟩
        · rw [R.H.ci, zi_nat (show x < _ by omega), o1]
          exact ⟨fun h => absurd h nx, fun _ => ⟨zi_inr (by omega) (by omega), ⟨fun h => absurd rfl h, fun _ => ⟨_, I5, cw, fun y9_ e1 => (by subst e1; exact fun y10_ e2 => (by subst e2; exact (by rw [zi1 x]; exact q1)))⟩⟩⟩⟩
        · rw [R.H.cj, show (5 : Int32) * zi x + 4 = zi (5 * x + 4) from z51 x 4, zi_nat (show 5 * x + 4 < _ by omega)]
          exact ⟨fun h => absurd h nx, fun _ => ⟨_, J, cO, ⟨fun h => absurd h (by rw [on1]; decide), fun _ => ⟨zi_inr (by omega) (by omega), fun I9_ e1 => (by subst e1; exact ⟨_, J6, cz, ⟨zi_inr (by omega) (by omega), fun I14_ e2 => (by subst e2; exact ⟨fun h => absurd h b1, fun _ => ⟨fun h => absurd h b2, fun _ => fun y19_ e3 => (by subst e3; exact (by rw [zi1 x]; exact q2 _ _ rfl rfl))⟩⟩)⟩⟩)⟩⟩⟩⟩
theorem q_off (x1 : Int32) : Quiet 94 188 [.int x1] := by
  intro X n m G I J R
  have hS := R.S
  have hn := R.H.le
  by_cases h1 : f_T_within x1 0 1 = 0
  · exact ⟨_, I, J, Cv.of hq_94 (z_le rfl) rfl (wp_T_off _ ⟨fun h => absurd h1 h, fun _ => rfl⟩), Cv.of hq_188 (z_le rfl) rfl (wp_Z_off _ ⟨fun h => absurd h1 h, fun _ => rfl⟩), FC.rf, FZ.rf⟩
  obtain ⟨w, I1, J1, q1, q2, q3, q4⟩ := off_loop (X := X) x1 n 0 I J 2147483647 (-1) (-1) (by omega) R CT_none (fun _ => rfl)
  exact ⟨_, I1, J1, Cv.of hq_94 (z_le rfl) rfl (wp_T_off _ ⟨fun _ => q1, fun h => absurd h h1⟩), Cv.of hq_188 (z_le rfl) rfl (wp_Z_off _ ⟨fun _ => (q2 _ _ rfl rfl), fun h => absurd h h1⟩), q3, q4⟩
theorem q_stills (x1 : Int32) : Quiet 96 189 [.int x1] := by
  intro X n m G I J R
  have hS := R.S
  have hn := R.H.le
  have es := R.sh x1
  by_cases hs : f_T_isShower I x1 = 0
  · exact ⟨_, I, J, Cv.of hq_96 (z_le rfl) rfl (wp_T_stills _ (by omega) hS ⟨fun h => absurd hs h, fun _ => rfl⟩), Cv.of hq_189 (z_le rfl) rfl (wp_Z_stills _ (by omega) hS ⟨fun h => absurd (es.trans hs) h, fun _ => rfl⟩), FC.rf, FZ.rf⟩
  have hs' : ¬ f_Z_isShower J x1 = 0 := fun h => hs (es.symm.trans h)
  obtain ⟨x, hx, rfl⟩ := R.shx hs
  obtain ⟨r0, hA⟩ := R.AD
  have adq : ∀ {Ja : zI} {v : Int32}, AD 1 n r0 m G I Ja → AD 1 n r0 m G I (z_up Ja 57 34 v) := fun h => h.frZ (fun c e _ => up_cell e) (fun k hk => up_place (by omega))
  obtain ⟨I2, -, k1, -, k3, -, -⟩ := still_sim (X := X) (d := 93) hS (Or.inl rfl) (adq (v := zi x) hA) up_same
  have hA2 : AD 1 n r0 m G I2 J := hA.fr (by omega) k3 FrR.rf
  obtain ⟨I9, J2, l1, l2, l3, l4, -, -, mcA⟩ := live_sim (X := X) (d := 92) hS (Or.inl rfl) hA2 R.q
  have hA3 : AD 1 n r0 m G I J2 := hA.fr (by omega) FrL.rf l4
  obtain ⟨I2', J8, k1', k2, k3', k4, -, -, mcB⟩ := still_sim (X := X) (d := 92) hS (Or.inl rfl) (adq (v := zi x) hA3) up_same
  obtain rfl : I2' = I2 := by
    have := Cv_det k1' k1
    cases this; rfl
  have hAB := (adq (v := zi x) hA3).fr (by omega) k3' k4
  have hAA := hA2.fr (by omega) l3 l4
  obtain ⟨ra, -, a1, a2⟩ := cost_sim (X := X) (d := 98) hS (I := I9) (J := J2) hn hAA.1.cj (fun y hy => ⟨(mcA y hy).1, (mcA y hy).2.2.2⟩)
  obtain ⟨rb, -, b1, b2⟩ := cost_sim (X := X) (d := 98) hS (I := I2') (J := J8) hn hAB.1.cj (fun y hy => ⟨(mcB y hy).1, (mcB y hy).2.2.2⟩)
  have z1 : Cv X 99 184 [.ref 57] G J (some (.int ra), G, J2) := Cv.of hq_184 (z_le rfl) rfl (wp_Z_costOfAll hS ⟨J2, l2, _, J2, a2, rfl⟩)
  have z2 : Cv X 99 184 [.ref 57] G (z_up J2 57 34 (zi x)) (some (.int rb), G, J8) := Cv.of hq_184 (z_le rfl) rfl (wp_Z_costOfAll hS ⟨J8, k2, _, J8, b2, rfl⟩)
  refine ⟨.int (rb - J8 75 x - (ra - J2 75 x)), I9, z_up J8 57 34 (-1), Cv.of hq_96 (z_le rfl) rfl (wp_T_stills _ (by omega) hS ?_), Cv.of hq_189 (z_le rfl) rfl (wp_Z_stills _ (by omega) hS ?_), (k3'.tr l3).C, ?_⟩
  · rw [zi_nat (show x < _ by omega)]
    exact ⟨fun _ => ⟨I2', k1'.deep (by omega), ⟨_, I2', (by rw [hAB.1.ci]; exact b1.deep (by omega)), ⟨zi_inr (by omega) (by omega), fun y8_ e1 => (by subst e1; exact ⟨I9, l1.deep (by omega), ⟨_, I9, (by rw [hAA.1.ci]; exact a1.deep (by omega)), ⟨zi_inr (by omega) (by omega), (by rw [(mcB x hx).1, (mcA x hx).1])⟩⟩⟩)⟩⟩⟩, fun h => absurd h hs⟩
  · rw [zi_nat (show x < _ by omega)]
    exact ⟨fun _ => ⟨_, J2, z1, ⟨zi_inr (by omega) (by omega), fun y6_ e1 => (by subst e1; exact fun I7_ e2 => (by subst e2; exact ⟨_, J8, z2, ⟨zi_inr (by omega) (by omega), fun y12_ e3 => (by subst e3; exact fun I13_ e4 => (by subst e4; exact rfl))⟩⟩))⟩⟩, fun h => absurd h hs'⟩
  · refine ⟨fun c a b => by rw [up_cell a, k4 c (by omega), up_cell a, l4 c (by omega)], fun k hk => ?_⟩
    by_cases e : k = 34
    · subst e; rw [up_same, R.q]
    · rw [up_place e, k4 57 (by omega), up_place e, l4 57 (by omega)]
def FZ2 (x : Nat) (J J1 : zI) : Prop := (∀ c, c ≠ 57 → c ≠ 60 → ¬ (71 ≤ c ∧ c ≤ 79) → J1 c = J c) ∧ (∀ k, k < 18 → J1 57 k = J 57 k) ∧ ∀ k, k ≠ 5 * x + 2 → J1 60 k = J 60 k
theorem FZ2.tr {x : Nat} {J J1 J2 : zI} (h : FZ2 x J J1) (h2 : FZ2 x J1 J2) : FZ2 x J J2 := ⟨fun c a b e => (h2.1 c a b e).trans (h.1 c a b e), fun k a => (h2.2.1 k a).trans (h.2.1 k a), fun k a => (h2.2.2 k a).trans (h.2.2 k a)⟩
theorem leave_loop {X : Nat × (Nat → Int32)} {d : Nat} {G : zG} (hS : SG G) {n r m x : Nat} (hn : n ≤ 4) (hx : x < n) (x2 ws : Int32) :
    ∀ (j k : Nat) (I J : zI) (L b l : Int32), k + j = 100 → AD 9 n r m G I J → J 57 34 = zi x → CT L b l (10 * k) → (0 < k → ¬ b = -1) →
    ∃ (w : Int32) (I1 J1 : zI), Ev X (d + 8) 98 40 [.ref 0, .int (zi x), .int x2, .int L, .int (zi (10 * k))] [] G I (some (.int w), G, I1) ∧ (∀ v7 v8 : Value, v7.category = 1 → v8.category = 1 → Ev X (d + 8) 190 48 [.ref 57, .int (zi x), .int x2, .int ws, .int b, .int l, .int (zi (10 * k)), v7, v8] [] G J (some (.int w), G, J1)) ∧ FC I I1 ∧ FZ2 x J J1 ∧ J1 60 (5 * x + 2) = ws ∧ J1 57 34 = -1 := by
  intro j
  induction j with
  | zero =>
    intro k I J L b l hk hA hq hC hb
    obtain rfl : k = 100 := by omega
    obtain ⟨-, g1, g2⟩ := CT_end (by omega) hC (hb (by omega))
    refine ⟨if x2 = 0 then b else l, I, z_up (z_up J 57 34 (-1)) 60 (5 * x + 2) ws, wp_T_leave_40 _ _ _ _ hS ⟨fun _ => ?_, fun h => absurd (by decide) h⟩, fun v7 v8 c7 c8 => wp_Z_leave_48 _ _ _ _ _ _ v7 c7 v8 c8 hS ?_, FC.rf, ⟨fun c a b _ => by rw [up_cell b, up_cell a], fun k hk => by rw [up_cell (by decide), up_place (by omega)], fun k hk => by rw [up_place hk, up_cell (by decide)]⟩, up_same, by rw [up_cell (by decide), up_same]⟩
    · by_cases q : x2 = 0
      · rw [if_pos q, g1 _ q]
      · rw [if_neg q, g2 _ q]
    · rw [show (5 : Int32) * zi x + 2 = zi (5 * x + 2) from z51 x 2, zi_nat (show 5 * x + 2 < _ by omega)]
      refine ⟨fun _ I2 h2 => ⟨zi_inr (by omega) (by omega), fun I4 h4 => ⟨fun q => ?_, fun q => ?_⟩⟩, fun h => absurd (by decide) h⟩
      · rw [h4, h2, if_neg q]
      · rw [h4, h2, if_pos q]
  | succ j ih =>
    intro k I J L b l hk hA hq hC hb
    have nh : ¬ (990 : Int32) < zi (10 * k) := fun e => absurd ((zi_lt (a := 990) (by omega) (by omega)).1 e) (by omega)
    have t10 : zi (10 * k) + 10 = zi (10 * (k + 1)) := (zi_add (b := 10)).trans (congrArg zi (by omega))
    have hA3 := hA.setUp (x := x) (h := 10 * k) hx (by omega)
    obtain ⟨I4, J6, k1, k2, k3, k4, -, -, mc⟩ := still_sim (X := X) (d := d) hS (Or.inr rfl) hA3 (q := zi x) (by rw [up_cell (by decide)]; exact hq)
    obtain ⟨c, hc, ec⟩ := rg_nat (mc x hx).2.2.2
    have hA6 := hA3.fr (by omega) k3 k4
    have hq6 : J6 57 34 = zi x := by rw [k4 57 (by omega), up_cell (by decide)]; exact hq
    have cz : Cv X (d + 7) 179 [.ref 57, .int (zi x)] G (z_up J 60 (5 * x + 2) (zi (10 * k))) (some (.int (zi c)), G, J6) := by
      refine Cv.of hq_179 (z_le rfl) rfl (wp_Z_costOf _ hS ?_)
      rw [zi_nat (show x < _ by omega)]
      exact ⟨J6, k2, zi_inr (by omega) (by omega), by rw [ec]⟩
    have fc : FC I I4 := fun c a b e => by rw [k3 c b e, up_cell (by omega)]
    have fz : FZ2 x J J6 := ⟨fun c a b e => by rw [k4 c (by omega), up_cell b], fun k hk => by rw [k4 57 (by omega), up_cell (by decide)], fun k hk => by rw [k4 60 (by omega), up_place hk]⟩
    obtain ⟨t1, t2, t3⟩ := CT_step (k := 10 * k + 10) (c := c) (h := 10 * k) (by omega) (by omega) (by omega) hC
    by_cases b1 : b = -1
    · obtain ⟨w, I9, J9, q1, q2, q3, q4, q5, q6⟩ := ih (k + 1) I4 J6 _ _ _ (by omega) hA6 hq6 (by rw [show 10 * (k + 1) = 10 * k + 10 by omega]; exact t1 b1) (fun _ => zi_nm (by omega))
      refine ⟨w, I9, J9, wp_T_leave_40 _ _ _ _ hS ?_, fun v7 v8 c7 c8 => wp_Z_leave_48 _ _ _ _ _ _ v7 c7 v8 c8 hS ?_, fc.tr q3, fz.tr q4, q5, q6⟩
      · rw [zi_nat (show x < _ by omega), t10]
        exact ⟨fun h => absurd h nh, fun _ => ⟨zi_inr (by omega) (by omega), fun I3_ e1 => (by subst e1; exact ⟨I4, k1.deep (by omega), ⟨zi_inr (by omega) (by omega), fun y7_ e2 => (by subst e2; exact fun y8_ e3 => (by subst e3; exact (by rw [(mc x hx).1, ec]; exact q1)))⟩⟩)⟩⟩
      · rw [show (5 : Int32) * zi x + 2 = zi (5 * x + 2) from z51 x 2, zi_nat (show 5 * x + 2 < _ by omega), t10]
        exact ⟨fun h => absurd h nh, fun _ => ⟨zi_inr (by omega) (by omega), fun I7_ e1 => (by subst e1; exact ⟨_, J6, cz, ⟨fun _ => fun y12_ e2 => (by subst e2; exact (q2 _ _ rfl rfl)), fun h => absurd b1 h⟩⟩)⟩⟩
    by_cases b2 : l ≤ zi c
    · obtain ⟨w, I9, J9, q1, q2, q3, q4, q5, q6⟩ := ih (k + 1) I4 J6 _ _ _ (by omega) hA6 hq6 (by rw [show 10 * (k + 1) = 10 * k + 10 by omega]; exact t2 b1 b2) (fun _ => b1)
      refine ⟨w, I9, J9, wp_T_leave_40 _ _ _ _ hS ?_, fun v7 v8 c7 c8 => wp_Z_leave_48 _ _ _ _ _ _ v7 c7 v8 c8 hS ?_, fc.tr q3, fz.tr q4, q5, q6⟩
      · rw [zi_nat (show x < _ by omega), t10]
        exact ⟨fun h => absurd h nh, fun _ => ⟨zi_inr (by omega) (by omega), fun I3_ e1 => (by subst e1; exact ⟨I4, k1.deep (by omega), ⟨zi_inr (by omega) (by omega), fun y7_ e2 => (by subst e2; exact fun y8_ e3 => (by subst e3; exact (by rw [(mc x hx).1, ec]; exact q1)))⟩⟩)⟩⟩
      · rw [show (5 : Int32) * zi x + 2 = zi (5 * x + 2) from z51 x 2, zi_nat (show 5 * x + 2 < _ by omega), t10]
        exact ⟨fun h => absurd h nh, fun _ => ⟨zi_inr (by omega) (by omega), fun I7_ e1 => (by subst e1; exact ⟨_, J6, cz, ⟨fun h => absurd h b1, fun _ => ⟨fun _ => fun y14_ e2 => (by subst e2; exact (q2 _ _ rfl rfl)), fun h => absurd b2 h⟩⟩⟩)⟩⟩
    · obtain ⟨w, I9, J9, q1, q2, q3, q4, q5, q6⟩ := ih (k + 1) I4 J6 _ _ _ (by omega) hA6 hq6 (by rw [show 10 * (k + 1) = 10 * k + 10 by omega]; exact t3 b1 b2) (fun _ => zi_nm (by omega))
      refine ⟨w, I9, J9, wp_T_leave_40 _ _ _ _ hS ?_, fun v7 v8 c7 c8 => wp_Z_leave_48 _ _ _ _ _ _ v7 c7 v8 c8 hS ?_, fc.tr q3, fz.tr q4, q5, q6⟩
      · rw [zi_nat (show x < _ by omega), t10]
        exact ⟨fun h => absurd h nh, fun _ => ⟨zi_inr (by omega) (by omega), fun I3_ e1 => (by subst e1; exact ⟨I4, k1.deep (by omega), ⟨zi_inr (by omega) (by omega), fun y7_ e2 => (by subst e2; exact fun y8_ e3 => (by subst e3; exact (by rw [(mc x hx).1, ec]; exact q1)))⟩⟩)⟩⟩
      · rw [show (5 : Int32) * zi x + 2 = zi (5 * x + 2) from z51 x 2, zi_nat (show 5 * x + 2 < _ by omega), t10]
        exact ⟨fun h => absurd h nh, fun _ => ⟨zi_inr (by omega) (by omega), fun I7_ e1 => (by subst e1; exact ⟨_, J6, cz, ⟨fun h => absurd h b1, fun _ => ⟨fun h => absurd h b2, fun _ => fun y15_ e2 => (by subst e2; exact (q2 _ _ rfl rfl))⟩⟩⟩)⟩⟩
theorem q_leave (x1 x2 : Int32) : Quiet 98 190 [.int x1, .int x2] := by
  intro X n m G I J R
  have hS := R.S
  have hn := R.H.le
  have es := R.sh x1
  by_cases hs : f_T_isShower I x1 = 0
  · exact ⟨_, I, J, Cv.of hq_98 (z_le rfl) rfl (wp_T_leave _ _ (by omega) hS ⟨fun h => absurd hs h, fun _ => rfl⟩), Cv.of hq_190 (z_le rfl) rfl (wp_Z_leave _ _ (by omega) hS ⟨fun h => absurd (es.trans hs) h, fun _ => rfl⟩), FC.rf, FZ.rf⟩
  have hs' : ¬ f_Z_isShower J x1 = 0 := fun h => hs (es.symm.trans h)
  by_cases h2 : f_T_within x2 0 1 = 0
  · exact ⟨_, I, J, Cv.of hq_98 (z_le rfl) rfl (wp_T_leave _ _ (by omega) hS ⟨fun _ => ⟨fun h => absurd h2 h, fun _ => rfl⟩, fun h => absurd h hs⟩), Cv.of hq_190 (z_le rfl) rfl (wp_Z_leave _ _ (by omega) hS ⟨fun _ => ⟨fun h => absurd h2 h, fun _ => rfl⟩, fun h => absurd h hs'⟩), FC.rf, FZ.rf⟩
  obtain ⟨x, hx, rfl⟩ := R.shx hs
  obtain ⟨r, I0, c0, f0, hA, -⟩ := think (X := X) (d := 98) R
  obtain ⟨w, I1, J1, q1, q2, q3, q4, q5, q6⟩ := leave_loop (X := X) (d := 92) hS hn hx x2 (J 60 (5 * x + 2)) 100 0 I0 (z_up J 57 34 (zi x)) 2147483647 (-1) 0 (by omega) (hA.frZ (fun c e _ => up_cell e) (fun k hk => up_place (by omega))) up_same CT_none (fun h => absurd h (by omega))
  refine ⟨.int w, I1, J1, Cv.of hq_98 (z_le rfl) rfl (wp_T_leave _ _ (by omega) hS ⟨fun _ => ⟨fun _ => ⟨I0, c0, q1⟩, fun h => absurd h h2⟩, fun h => absurd h hs⟩), Cv.of hq_190 (z_le rfl) rfl (wp_Z_leave _ _ (by omega) hS ?_), f0.tr q3, ⟨fun c a b => ?_, fun k hk => ?_⟩⟩
  · rw [show (5 : Int32) * zi x + 2 = zi (5 * x + 2) from z51 x 2, zi_nat (show 5 * x + 2 < _ by omega)]
    exact ⟨fun _ => ⟨fun _ => ⟨zi_inr (by omega) (by omega), fun y4_ e1 => (by subst e1; exact fun I5_ e2 => (by subst e2; exact (q2 _ _ rfl rfl)))⟩, fun h => absurd h h2⟩, fun h => absurd h hs'⟩
  · by_cases e : c = 60
    · subst e
      funext k
      by_cases e : k = 5 * x + 2
      · rw [e]; exact q5
      · rw [q4.2.2 k e, up_cell (by decide)]
    · rw [q4.1 c a e b, up_cell a]
  · by_cases e : k = 34
    · subst e; rw [q6, R.q]
    · rw [q4.2.1 k (by omega), up_place e]
