theorem pass_loop {X : Nat × (Nat → Int32)} {d : Nat} {G : zG} (hS : SG G) {n b : Nat} (hb : b ≤ 30) :
    ∀ (j x : Nat) (I J : zI), x + j = n → RH 1 I J n → (∀ y, y < n → I (32 + y) b = J 73 (4 * b + y) ∧ rg (J 73 (4 * b + y)) 999) → (∀ y, y < n → I 36 y = J 75 y ∧ rg (J 75 y) ((2970 : Nat) : Int)) →
    ∃ (w : Int32) (I1 J1 : zI), Ev X (d + 1) 81 36 [.ref 0, .int (zi b), .int (zi x)] [] G I (some (.int w), G, I1) ∧ Ev X (d + 1) 176 20 [.ref 57, .int (zi b), .int (zi x)] [] G J (some (.int w), G, J1) ∧ RH 1 I1 J1 n ∧ (∀ c, c ≠ 6 → I1 c = I c) ∧ (∀ c, c ≠ 60 → J1 c = J c) := by
  intro j
  induction j with
  | zero =>
    intro x I J hx hR hM hc
    obtain rfl : x = n := by omega
    obtain ⟨r, -, c1, c2⟩ := cost_sim (X := X) (d := d) hS (I := I) (J := J) hR.le hR.cj hc
    exact ⟨r, I, J, wp_T_pass_36 _ _ hS ⟨fun _ => ⟨r, I, by rw [hR.ci]; exact c1, rfl⟩, fun h => absurd (by rw [hR.ci]; exact Int32.le_refl _) h⟩, wp_Z_pass_20 _ _ hS ⟨fun _ => ⟨r, J, c2, rfl⟩, fun h => absurd (by rw [hR.cj]; exact Int32.le_refl _) h⟩, hR, fun _ _ => rfl, fun _ _ => rfl⟩
  | succ j ih =>
    intro x I J hx hR hM hc
    have hn := hR.le
    have nx : ¬ zi n ≤ zi x := fun h => absurd ((zi_le (by omega) (by omega)).1 h) (by omega)
    obtain ⟨m1, m2⟩ := hM x (by omega)
    obtain ⟨w, I1, J1, q1, q2, q3, q4, q5⟩ := ih (x + 1) (z_up I 6 x (J 73 (4 * b + x))) (z_up J 60 (5 * x + 2) (J 73 (4 * b + x))) (by omega) (hR.setUp (v := J 73 (4 * b + x)) (by omega) (show x < n by omega) m2 (fun c _ _ hc => up_cell hc) (fun y hy => by
      show z_up I 6 x (J 73 (4 * b + x)) 6 y = if y = x then J 73 (4 * b + x) else I 6 y
      by_cases q : y = x
      · rw [if_pos q, q, up_same]
      · rw [if_neg q, up_place q]) (by rw [up_cell (by decide)]) (fun c _ _ hc => up_cell hc) (fun k hk => by
      by_cases q : k = 5 * x + 2
      · rw [if_pos q, q, up_same]
      · rw [if_neg q, up_place q])) (fun y hy => by rw [up_cell (by omega), up_cell (by decide)]; exact hM y hy) (fun y hy => by rw [up_cell (by omega), up_cell (by decide)]; exact hc y hy)
    refine ⟨w, I1, J1, wp_T_pass_36 _ _ hS ?_, wp_Z_pass_20 _ _ hS ?_, q3, fun c h => (q4 c h).trans (up_cell h), fun c h => (q5 c h).trans (up_cell h)⟩
    · rw [hR.ci, zi_nat (show x < _ by omega), zi_nat (show b < _ by omega), m1, zi1 x]
      exact ⟨fun h => absurd h nx, fun _ => ⟨zi_inr (by omega) (by omega), ⟨zi_inr (by omega) (by omega), ⟨zi_inr (by omega) (by omega), fun I9_ e1 => (by subst e1; exact fun y10_ e2 => (by subst e2; exact q1))⟩⟩⟩⟩
    · rw [hR.cj, z41, show (5 : Int32) * zi x + 2 = zi (5 * x + 2) from z51 x 2, zi_nat (show 5 * x + 2 < _ by omega), zi_nat (show 4 * b + x < _ by omega), zi1 x]
      exact ⟨fun h => absurd h nx, fun _ => ⟨zi_inr (by omega) (by omega), ⟨zi_inr (by omega) (by omega), fun I7_ e1 => (by subst e1; exact fun y8_ e2 => (by subst e2; exact q2))⟩⟩⟩
theorem q_pass (x1 : Int32) : CallOK 81 176 [.int x1] := by
  intro X n m G I J R
  have hS := R.S
  have hn := R.H.le
  by_cases h1 : f_T_within x1 0 30 = 0
  · exact ⟨n, m, G, _, I, J, Cv.of hq_81 (z_le rfl) rfl (wp_T_pass _ hS ⟨fun h => absurd h1 h, fun _ => rfl⟩), Cv.of hq_176 (z_le rfl) rfl (wp_Z_pass _ hS ⟨fun h => absurd h1 h, fun _ => rfl⟩), R, fun _ _ _ => rfl, fun _ _ => rfl⟩
  obtain ⟨b, -, hb, rfl⟩ := wi_spec (a := 0) (b := 30) (by omega) (by omega) h1
  obtain ⟨t, t1, t2, t3⟩ := R.L
  obtain ⟨w, w1, w2, w3⟩ := R.T.2.2.2.2 t t1
  have hm := R.T.2.1
  have hH := hS.H (o := 1) (by omega)
  obtain ⟨I5, J5, k1, k2, k3, k4, mf, ms, mc⟩ := run_sim (X := X) (d := 94) hS (w := w) (B := b) hH (by omega) (by unfold isW at w2; omega) hb R.H w3 t3 R.q
  have k3 := k3.L w2
  have R5 := R.fr k3.C k4.Z
  obtain ⟨v, I1, J1, q1, q2, q3, q4, q5⟩ := pass_loop (X := X) (d := 99) hS hb n 0 I5 J5 (by omega) R5.H (fun y hy => ms b y (Nat.le_refl _) hy) (fun y hy => ⟨(mc y hy).1, ⟨(mc y hy).2.2.2.1, by have := (mc y hy).2.2.2.2; omega⟩⟩)
  exact ⟨n, m, G, .int v, I1, J1, Cv.of hq_81 (z_le rfl) rfl (wp_T_pass _ hS ⟨fun _ => ⟨w, I, c_lawOf (d := 97) hS hH (by omega) t2 w1, ⟨I5, k1, q1⟩⟩, fun h => absurd h h1⟩), Cv.of hq_176 (z_le rfl) rfl (wp_Z_pass _ hS ⟨fun _ => ⟨J5, k2, q2⟩, fun h => absurd h h1⟩), R5.chg (fun c h => q4 c (by omega)) (fun k _ _ => by rw [q4 0 (by omega)]) (fun c h => q5 c (by omega)) (fun k _ => by rw [q5 57 (by omega)]) q3 (R5.L.fr (by rw [q4 1 (by omega)]) (by rw [q5 57 (by omega)])) (R5.P.fr (by rw [q4 0 (by omega)]) (by rw [q5 57 (by omega)]) (q4 44 (by omega)) (q5 61 (by omega))) (R5.s.fr (fun c _ _ => q4 c (by omega)) (q5 65 (by omega)) (q5 66 (by omega)) (q5 67 (by omega))) (R5.i.fr (Nat.le_refl _) (by rw [q4 0 (by omega)]) (fun c _ _ => q4 c (by omega)) (fun k _ _ => by rw [q5 57 (by omega)]) (q5 64 (by omega)) (fun y _ => by rw [q5 58 (by omega), q5 59 (by omega)]; exact ⟨rfl, rfl⟩)), fun c h1 h2 => by rw [q4 c (by omega), k3 c (by omega) (by unfold isScr; omega)], fun c h => by rw [q5 c (by omega), k4 c (by omega)]⟩
theorem img_loop {X : Nat × (Nat → Int32)} {d : Nat} {G : zG} (hS : SG G) :
    ∀ (j x : Nat) (J : zI), x + j = 20 → ∃ J1 : zI, Ev X d 207 23 [.ref 57, .int (zi x)] [] G J (some (.int (J 57 0)), G, J1) ∧ (∀ c, c ≠ 64 → J1 c = J c) ∧ (∀ q, q < x → J1 64 q = J 64 q) ∧ ∀ q, x ≤ q → q < 20 → J1 64 q = J 60 q := by
  intro j
  induction j with
  | zero =>
    intro x J hx
    obtain rfl : x = 20 := by omega
    exact ⟨J, wp_Z_image_23 _ hS ⟨fun _ => rfl, fun h => absurd (by decide) h⟩, fun _ _ => rfl, fun _ _ => rfl, fun q h1 h2 => absurd h2 (by omega)⟩
  | succ j ih =>
    intro x J hx
    have nx : ¬ (20 : Int32) ≤ zi x := fun h => absurd ((zi_le (a := 20) (by omega) (by omega)).1 h) (by omega)
    obtain ⟨J1, k1, k2, k3, k4⟩ := ih (x + 1) (z_up J 64 x (J 60 x)) (by omega)
    rw [up_cell (show 57 ≠ 64 by decide)] at k1
    refine ⟨J1, wp_Z_image_23 _ hS ?_, fun c h => (k2 c h).trans (up_cell h), fun q h => (k3 q (by omega)).trans (up_place (by omega)), fun q h1 h2 => ?_⟩
    · rw [zi_nat (show x < _ by omega), zi1 x]
      exact ⟨fun h => absurd h nx, fun _ => ⟨zi_inr (by omega) (by omega), ⟨zi_inr (by omega) (by omega), fun I4_ e1 => (by subst e1; exact fun y5_ e2 => (by subst e2; exact k1))⟩⟩⟩
    · by_cases e : q = x
      · subst e; rw [k3 q (by omega), up_same]
      · rw [k4 q (by omega) h2, up_cell (by decide)]
theorem bck_loop {X : Nat × (Nat → Int32)} {d : Nat} {G : zG} (hS : SG G) :
    ∀ (j x : Nat) (J : zI), x + j = 20 → ∃ J1 : zI, Ev X d 208 28 [.ref 57, .int (zi x)] [] G J (some (.int (J 57 0)), G, J1) ∧ (∀ c, c ≠ 60 → J1 c = J c) ∧ (∀ q, q < x → J1 60 q = J 60 q) ∧ ∀ q, x ≤ q → q < 20 → J1 60 q = J 64 q := by
  intro j
  induction j with
  | zero =>
    intro x J hx
    obtain rfl : x = 20 := by omega
    exact ⟨J, wp_Z_back_28 _ hS ⟨fun _ => rfl, fun h => absurd (by decide) h⟩, fun _ _ => rfl, fun _ _ => rfl, fun q h1 h2 => absurd h2 (by omega)⟩
  | succ j ih =>
    intro x J hx
    have nx : ¬ (20 : Int32) ≤ zi x := fun h => absurd ((zi_le (a := 20) (by omega) (by omega)).1 h) (by omega)
    obtain ⟨J1, k1, k2, k3, k4⟩ := ih (x + 1) (z_up J 60 x (J 64 x)) (by omega)
    rw [up_cell (show 57 ≠ 60 by decide)] at k1
    refine ⟨J1, wp_Z_back_28 _ hS ?_, fun c h => (k2 c h).trans (up_cell h), fun q h => (k3 q (by omega)).trans (up_place (by omega)), fun q h1 h2 => ?_⟩
    · rw [zi_nat (show x < _ by omega), zi1 x]
      exact ⟨fun h => absurd h nx, fun _ => ⟨zi_inr (by omega) (by omega), ⟨zi_inr (by omega) (by omega), fun I4_ e1 => (by subst e1; exact fun y5_ e2 => (by subst e2; exact k1))⟩⟩⟩
    · by_cases e : q = x
      · subst e; rw [k3 q (by omega), up_same]
      · rw [k4 q (by omega) h2, up_cell (by decide)]
theorem q_image : CallOK 118 207 [] := by
  intro X n m G I J R
  have hS := R.S
  have hn := R.H.le
  obtain ⟨t, t1, t2, t3⟩ := R.L
  obtain ⟨I1, k1, k2, k3, k4, k5⟩ := c_become_17_1 (X := X) (d := 98) hS I
  obtain ⟨J3, hJ3⟩ : ∃ J3 : zI, J3 = z_up (z_up (z_up J 57 10 1) 57 11 (zi n)) 57 12 (zi t) := ⟨_, rfl⟩
  obtain ⟨J1, l1, l2, -, l4⟩ := img_loop (X := X) (d := 100) hS 20 0 J3 (by omega)
  have e0 : J3 57 0 = zi n := by rw [hJ3, up_place (by decide), up_place (by decide), up_place (by decide)]; exact R.H.cj
  have fJ : ∀ c, c ≠ 57 → c ≠ 64 → J1 c = J c := fun c h1 h2 => by rw [l2 c h2, hJ3, up_cell h1, up_cell h1, up_cell h1]
  have fJ57 : ∀ k, k < 10 ∨ 12 < k → J1 57 k = J 57 k := fun k h => by rw [l2 57 (by decide), hJ3, up_place (by omega), up_place (by omega), up_place (by omega)]
  have b10 : J1 57 10 = 1 := by rw [l2 57 (by decide), hJ3, up_place (by decide), up_place (by decide), up_same]
  have b11 : J1 57 11 = zi n := by rw [l2 57 (by decide), hJ3, up_place (by decide), up_same]
  have b12 : J1 57 12 = zi t := by rw [l2 57 (by decide), hJ3, up_same]
  have f64 : ∀ q, q < 20 → J1 64 q = J 60 q := fun q h => by rw [l4 q (by omega) h, hJ3, up_cell (by decide), up_cell (by decide), up_cell (by decide)]
  have gI : ∀ c, c ≠ 0 → ¬ (17 ≤ c ∧ c ≤ 24) → z_up I1 0 3 1 c = I c := fun c h1 h2 => by rw [up_cell h1, k2 c h2]
  rw [e0] at l1
  refine ⟨n, m, G, .int (zi n), z_up I1 0 3 1, J1, Cv.of hq_118 (z_le rfl) rfl (wp_T_image hS ⟨I1, k1, fun I3 h3 => ?_⟩), Cv.of hq_207 (z_le rfl) rfl (wp_Z_image hS fun A1 g1 A2 g2 A3 g3 => ?_), R.chg (fun c h => gI c (by omega) (by omega)) (fun k _ h3 => by rw [up_place h3, k2 0 (by omega)]) (fun c h => fJ c (by omega) (by omega)) (fun k h => fJ57 k (by omega)) (R.H.fr (fun c _ _ => gI c (by omega) (by omega)) (fJ57 0 (by omega)) (fJ 58 (by omega) (by omega)) (fJ 59 (by omega) (by omega)) (fJ 60 (by omega) (by omega))) ⟨t, t1, by rw [gI 1 (by omega) (by omega)]; exact t2, (fJ57 9 (by omega)).trans t3⟩ (R.P.fr (by rw [up_place (by decide), k2 0 (by omega)]) (fJ57 5 (by omega)) (gI 44 (by omega) (by omega)) (fJ 61 (by omega) (by omega))) (R.s.fr (fun c _ _ => gI c (by omega) (by omega)) (fJ 65 (by omega) (by omega)) (fJ 66 (by omega) (by omega)) (fJ 67 (by omega) (by omega))) ?_, fun c h1 h2 => gI c (by omega) (by omega), fun c h => fJ c (by omega) (by omega)⟩
  · rw [h3, up_cell (by decide), k2 1 (by omega), R.H.ci]
  · have e : A3 = J3 := by
      have q1 : A1 57 0 = zi n := by rw [g1, up_place (by decide)]; exact R.H.cj
      have q2 : A2 57 9 = zi t := by rw [g2, up_place (by decide), g1, up_place (by decide)]; exact t3
      rw [g3, q2, g2, q1, g1, hJ3]
    rw [e]; exact l1
  · refine ⟨by rw [up_same, b10], Or.inr ⟨b10, n, t, Nat.le_refl _, t1, ?_, b11, ?_, b12, fun x hx => ?_⟩⟩
    · rw [up_cell (by decide), k4]; exact R.H.ci
    · rw [up_cell (by decide), k5]; exact t2
    · have hX := R.H.at' x hx
      have u : ∀ j, j < 7 → z_up I1 0 3 1 (17 + 1 + j) x = I (1 + 1 + j) x := fun j hj => by rw [up_cell (by omega)]; exact k3 j hj x (by omega)
      unfold KX
      rw [fJ 58 (by omega) (by omega), fJ 59 (by omega) (by omega), f64 _ (by omega), f64 _ (by omega), f64 _ (by omega), f64 _ (by omega), f64 _ (by omega)]
      exact ⟨(u 0 (by omega)).trans hX.kind, (u 1 (by omega)).trans hX.more, (u 2 (by omega)).trans hX.late, (u 3 (by omega)).trans hX.want, (u 4 (by omega)).trans hX.set, (u 5 (by omega)).trans hX.haste, (u 6 (by omega)).trans hX.on, hX.rl, hX.rw1, hX.rs, hX.rh, hX.ro⟩
theorem q_back : CallOK 119 208 [] := by
  intro X n m G I J R
  have hS := R.S
  have hn := R.H.le
  obtain ⟨i1, i2⟩ := id R.i
  rcases i2 with i0 | ⟨b, k, r, c1, c2, c3, c4, c5, c6, c7⟩
  · have i0T : I 0 3 = 0 := i1.trans i0
    exact ⟨n, m, G, .int (-3), I, J, Cv.of hq_119 (z_le rfl) rfl (wp_T_back hS ⟨fun h => absurd i0T h, fun _ => rfl⟩), Cv.of hq_208 (z_le rfl) rfl (wp_Z_back hS ⟨fun h => absurd i0 h, fun _ => rfl⟩), R, fun _ _ _ => rfl, fun _ _ => rfl⟩
  · have n0 : ¬ J 57 10 = 0 := by rw [b]; decide
    have n0T : ¬ I 0 3 = 0 := by rw [i1]; exact n0
    obtain ⟨I1, k1, k2, k3, k4, k5⟩ := c_become_1_17 (X := X) (d := 98) hS I
    obtain ⟨J3, hJ3⟩ : ∃ J3 : zI, J3 = z_up (z_up J 57 0 (zi k)) 57 9 (zi r) := ⟨_, rfl⟩
    obtain ⟨J1, l1, l2, -, l4⟩ := bck_loop (X := X) (d := 100) hS 20 0 J3 (by omega)
    have e0 : J3 57 0 = zi k := by rw [hJ3, up_place (by decide), up_same]
    have fJ : ∀ c, c ≠ 57 → c ≠ 60 → J1 c = J c := fun c h1 h2 => by rw [l2 c h2, hJ3, up_cell h1, up_cell h1]
    have fJ57 : ∀ q, q ≠ 0 → q ≠ 9 → J1 57 q = J 57 q := fun q h1 h2 => by rw [l2 57 (by decide), hJ3, up_place h2, up_place h1]
    have b0 : J1 57 0 = zi k := by rw [l2 57 (by decide)]; exact e0
    have b9 : J1 57 9 = zi r := by rw [l2 57 (by decide), hJ3, up_same]
    have f60 : ∀ q, q < 20 → J1 60 q = J 64 q := fun q h => by rw [l4 q (by omega) h, hJ3, up_cell (by decide), up_cell (by decide)]
    have gI : ∀ c, ¬ (1 ≤ c ∧ c ≤ 8) → I1 c = I c := k2
    rw [e0] at l1
    have hR : RH 1 I1 J1 k := by
      refine ⟨by omega, k4.trans c3, b0, fun x hx => ?_⟩
      have hK := c7 x hx
      unfold KX at hK
      obtain ⟨p1, p2, p3, p4, p5, p6, p7, p8, p9, p10, p11, p12⟩ := hK
      have u : ∀ j, j < 7 → I1 (1 + 1 + j) x = I (17 + 1 + j) x := fun j hj => k3 j hj x (by omega)
      have hX := R.H.at' x (by omega)
      unfold RX
      rw [fJ 58 (by omega) (by omega), fJ 59 (by omega) (by omega), f60 _ (by omega), f60 _ (by omega), f60 _ (by omega), f60 _ (by omega), f60 _ (by omega)]
      exact ⟨(u 0 (by omega)).trans p1, (u 1 (by omega)).trans p2, (u 2 (by omega)).trans p3, (u 3 (by omega)).trans p4, (u 4 (by omega)).trans p5, (u 5 (by omega)).trans p6, (u 6 (by omega)).trans p7, hX.rk, hX.rm, p8, p9, p10, p11, p12⟩
    refine ⟨k, m, G, .int (zi k), I1, J1, Cv.of hq_119 (z_le rfl) rfl (wp_T_back hS ⟨fun _ => ⟨I1, k1, by rw [hR.ci]⟩, fun h => absurd h n0T⟩), Cv.of hq_208 (z_le rfl) rfl (wp_Z_back hS ⟨fun _ A1 g1 A2 g2 => ?_, fun h => absurd h n0⟩), R.chg (fun c h => gI c (by omega)) (fun q _ _ => by rw [gI 0 (by omega)]) (fun c h => fJ c (by omega) (by omega)) (fun q h => fJ57 q (by omega) (by omega)) hR ⟨r, c2, k5.trans c5, b9⟩ (R.P.fr (by rw [gI 0 (by omega)]) (fJ57 5 (by omega) (by omega)) (gI 44 (by omega)) (fJ 61 (by omega) (by omega))) (R.s.fr (fun c _ _ => gI c (by omega)) (fJ 65 (by omega) (by omega)) (fJ 66 (by omega) (by omega)) (fJ 67 (by omega) (by omega))) ?_, fun c h1 h2 => gI c (by omega), fun c h => fJ c (by omega) (by omega)⟩
    · have e : A2 = J3 := by
        have q1 : A1 57 12 = zi r := by rw [g1, up_place (by decide)]; exact c6
        rw [g2, q1, g1, c4, hJ3]
      rw [e]; exact l1
    · refine ⟨by rw [gI 0 (by omega), fJ57 10 (by omega) (by omega)]; exact i1, Or.inr ⟨by rw [fJ57 10 (by omega) (by omega)]; exact b, k, r, Nat.le_refl _, c2, by rw [gI 17 (by omega)]; exact c3, by rw [fJ57 11 (by omega) (by omega)]; exact c4, by rw [gI 17 (by omega)]; exact c5, by rw [fJ57 12 (by omega) (by omega)]; exact c6, fun x hx => ?_⟩⟩
      have := c7 x hx
      unfold KX at this ⊢
      rw [fJ 58 (by omega) (by omega), fJ 59 (by omega) (by omega), fJ 64 (by omega) (by omega), gI 18 (by omega), gI 19 (by omega), gI 20 (by omega), gI 21 (by omega), gI 22 (by omega), gI 23 (by omega), gI 24 (by omega)]
      exact this
