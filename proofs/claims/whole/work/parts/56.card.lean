/-! ALL OF ONE CARD -/
theorem fill_loop {X : Nat × (Nat → Int32)} {d : Nat} {G : zG} {a N : Nat} (ha : a < zn G) (hk : zk G a = 6) (hl : zl G a = N) (hN : N < 2000) (v : Int32) :
    ∀ (m i : Nat) (I : zI), i + m = N → ∃ I1 : zI, Ev X d 36 5 [.ref a, .int v, .int (zi i), .int (zi N)] [] G I (none, G, I1) ∧ (∀ c, c ≠ a → I1 c = I c) ∧ (∀ k, k < i → I1 a k = I a k) ∧ ∀ k, i ≤ k → k < N → I1 a k = v := by
  intro m
  induction m with
  | zero =>
    intro i I hi
    obtain rfl : i = N := by omega
    refine ⟨I, ?_, fun _ _ => rfl, fun _ _ => rfl, fun k h1 h2 => absurd h2 (by omega)⟩
    refine Ev_iload_n hq_36 (show decode prog_15_method_103_code 5 = .ok (.iload_n 2, 1) by decide +kernel) rfl ?_
    refine Ev_iload_n hq_36 (show decode prog_15_method_103_code 6 = .ok (.iload_n 3, 1) by decide +kernel) rfl ?_
    refine Ev_icmp_ge (tgt := 20) hq_36 (show decode prog_15_method_103_code 7 = .ok (.if_icmp .ge 13, 3) by decide +kernel) (by decide) (fun _ => ?_) (fun h => absurd (Int32.le_refl _) h)
    exact Ev_vret hq_36 (show decode prog_15_method_103_code 20 = .ok (.return_, 1) by decide +kernel) rfl
  | succ m ih =>
    intro i I hi
    have nx : ¬ zi N ≤ zi i := fun h => absurd ((zi_le (by omega) (by omega)).1 h) (by omega)
    obtain ⟨I1, k1, k2, k3, k4⟩ := ih (i + 1) (z_up I a i v) (by omega)
    refine ⟨I1, ?_, fun c hc => (k2 c hc).trans (up_cell hc), fun k hk => (k3 k (by omega)).trans (up_place (by omega)), fun k h1 h2 => ?_⟩
    · refine Ev_iload_n hq_36 (show decode prog_15_method_103_code 5 = .ok (.iload_n 2, 1) by decide +kernel) rfl ?_
      refine Ev_iload_n hq_36 (show decode prog_15_method_103_code 6 = .ok (.iload_n 3, 1) by decide +kernel) rfl ?_
      refine Ev_icmp_ge (tgt := 20) hq_36 (show decode prog_15_method_103_code 7 = .ok (.if_icmp .ge 13, 3) by decide +kernel) (by decide) (fun h => absurd h nx) (fun _ => ?_)
      refine Ev_aload_n hq_36 (show decode prog_15_method_103_code 10 = .ok (.aload_n 0, 1) by decide +kernel) rfl ?_
      refine Ev_iload_n hq_36 (show decode prog_15_method_103_code 11 = .ok (.iload_n 2, 1) by decide +kernel) rfl ?_
      refine Ev_iload_n hq_36 (show decode prog_15_method_103_code 12 = .ok (.iload_n 1, 1) by decide +kernel) rfl ?_
      refine Ev_iast hq_36 (show decode prog_15_method_103_code 13 = .ok (.iastore, 1) by decide +kernel) ha hk (zi_inr (by omega) (by omega)) ?_
      rw [zi_nat (show i < _ by omega)]
      refine Ev_iinc (v := zi (i + 1)) (lo2 := [.ref a, .int v, .int (zi (i + 1)), .int (zi N)]) hq_36 (show decode prog_15_method_103_code 14 = .ok (.iinc 2 1, 3) by decide +kernel) rfl (zi1 i) rfl ?_
      exact Ev_goto (tgt := 5) hq_36 (show decode prog_15_method_103_code 17 = .ok (.goto (-12), 3) by decide +kernel) (by decide) k1
    · by_cases e : k = i
      · subst e; rw [k3 k (by omega), up_same]
      · exact k4 k (by omega) h2
theorem c_fill {X : Nat × (Nat → Int32)} {d : Nat} {G : zG} {a N : Nat} (ha : a < zn G) (hk : zk G a = 6) (hl : zl G a = N) (hN : N < 2000) (v : Int32) (I : zI) :
    ∃ I1 : zI, Cv X d 36 [.ref a, .int v] G I (none, G, I1) ∧ (∀ c, c ≠ a → I1 c = I c) ∧ ∀ k, k < N → I1 a k = v := by
  obtain ⟨I1, k1, k2, -, k4⟩ := fill_loop (X := X) (d := d) ha hk hl hN v N 0 I (by omega)
  refine ⟨I1, Cv.of hq_36 (z_le rfl) rfl ?_, k2, fun k h => k4 k (by omega) h⟩
  refine Ev_iconst (v := 0) hq_36 (show decode prog_15_method_103_code 0 = .ok (.iconst 0, 1) by decide +kernel) (by decide) ?_
  refine Ev_istore_n (lo2 := [.ref a, .int v, .int 0, zU]) hq_36 (show decode prog_15_method_103_code 1 = .ok (.istore_n 2, 1) by decide +kernel) (z_le rfl) rfl ?_
  refine Ev_aload_n hq_36 (show decode prog_15_method_103_code 2 = .ok (.aload_n 0, 1) by decide +kernel) rfl ?_
  refine Ev_alen hq_36 (show decode prog_15_method_103_code 3 = .ok (.arraylength, 1) by decide +kernel) ha (by omega) (by omega) ?_
  rw [hl]
  exact Ev_istore_n (lo2 := [.ref a, .int v, .int 0, .int (zi N)]) hq_36 (show decode prog_15_method_103_code 4 = .ok (.istore_n 3, 1) by decide +kernel) (z_le rfl) rfl k1
theorem AD.card {n r m h : Nat} {G : zG} {I J I2 J2 : zI} (H : AD 9 n r m G I J) (hh : h ≤ 16) (hI : ∀ c, c ≠ 15 → I2 c = I c) (hI2 : ∀ y, y < 4 → I2 15 y = zi h) (hJ : ∀ c, c ≠ 60 → J2 c = J c) (hJ2 : ∀ k, J2 60 k = if k % 5 = 3 ∧ k / 5 < n then zi h else J 60 k) : AD 9 n r m G I2 J2 := by
  obtain ⟨a, b, c, d, e⟩ := H
  have h4 := a.le
  refine ⟨⟨a.le, by rw [hI 9 (by decide)]; exact a.ci, by rw [hJ 57 (by decide)]; exact a.cj, fun y hy => ?_⟩, b, by rw [hI 9 (by decide)]; exact c, by rw [hJ 57 (by decide)]; exact d, e.fr (by rw [hI 0 (by decide)]) (by rw [hJ 57 (by decide)]) (fun c _ _ => hI c (by omega)) (hJ 62 (by decide)) (hJ 63 (by decide))⟩
  have hX := a.at' y hy
  refine ⟨?_, ?_, ?_, ?_, ?_, ?_, ?_, ?_, ?_, ?_, ?_, ?_, ?_, ?_⟩
  · rw [hI _ (by decide), hJ 58 (by decide)]; exact hX.kind
  · rw [hI _ (by decide), hJ 59 (by decide)]; exact hX.more
  · rw [hI _ (by decide), hJ2, if_neg (by omega)]; exact hX.late
  · rw [hI _ (by decide), hJ2, if_neg (by omega)]; exact hX.want
  · rw [hI _ (by decide), hJ2, if_neg (by omega)]; exact hX.set
  · rw [hJ2, if_pos (by omega)]; exact hI2 y (by omega)
  · rw [hI _ (by decide), hJ2, if_neg (by omega)]; exact hX.on
  · rw [hJ 58 (by decide)]; exact hX.rk
  · rw [hJ 59 (by decide)]; exact hX.rm
  · rw [hJ2, if_neg (by omega)]; exact hX.rl
  · rw [hJ2, if_neg (by omega)]; exact hX.rw1
  · rw [hJ2, if_neg (by omega)]; exact hX.rs
  · rw [hJ2, if_pos (by omega)]; exact rg_zi (k := 16) hh (by omega)
  · rw [hJ2, if_neg (by omega)]; exact hX.ro
theorem card_keep {X : Nat × (Nat → Int32)} {d : Nat} {G : zG} (hS : SG G) {n : Nat} (hn : n ≤ 4) (x1 : Int32) :
    ∀ (m x : Nat) (J : zI), x + m = n → J 57 0 = zi n → ∃ J1 : zI, (∀ res, Ev X d 183 51 [.ref 57, .int x1, .int (-1), .int 0, .int 0, zU, zU] [] G J1 res → Ev X d 183 14 [.ref 57, .int x1, .int (zi x), zU, zU, zU, zU] [] G J res) ∧ (∀ c, c ≠ 78 → J1 c = J c) ∧ (∀ y, y < x → J1 78 y = J 78 y) ∧ ∀ y, x ≤ y → y < n → J1 78 y = J 60 (5 * y + 3) := by
  intro m
  induction m with
  | zero =>
    intro x J hx hj
    obtain rfl : x = n := by omega
    exact ⟨J, fun res k => wp_Z_card_14 _ _ hS ⟨fun _ => k, fun h => absurd (by rw [hj]; exact Int32.le_refl _) h⟩, fun _ _ => rfl, fun _ _ => rfl, fun y h1 h2 => absurd h2 (by omega)⟩
  | succ m ih =>
    intro x J hx hj
    have nx : ¬ zi n ≤ zi x := fun h => absurd ((zi_le (by omega) (by omega)).1 h) (by omega)
    obtain ⟨J1, k1, k2, k3, k4⟩ := ih (x + 1) (z_up J 78 x (J 60 (5 * x + 3))) (by omega) (by rw [up_cell (by decide)]; exact hj)
    refine ⟨J1, fun res k => wp_Z_card_14 _ _ hS ?_, fun c hc => (k2 c hc).trans (up_cell hc), fun y hy => (k3 y (by omega)).trans (up_place (by omega)), fun y h1 h2 => ?_⟩
    · rw [hj, show (5 : Int32) * zi x + 3 = zi (5 * x + 3) from z51 x 3, zi_nat (show 5 * x + 3 < _ by omega), zi_nat (show x < _ by omega), zi1 x]
      exact ⟨fun h => absurd h nx, fun _ => ⟨zi_inr (by omega) (by omega), ⟨zi_inr (by omega) (by omega), fun I4_ e1 => (by subst e1; exact fun y5_ e2 => (by subst e2; exact k1 res k))⟩⟩⟩
    · by_cases e : y = x
      · subst e; rw [k3 y (by omega), up_same]
      · rw [k4 y (by omega) h2, up_cell (by decide)]
theorem card_back {X : Nat × (Nat → Int32)} {d : Nat} {G : zG} (hS : SG G) {n : Nat} (hn : n ≤ 4) (x1 b l : Int32) :
    ∀ (m x : Nat) (J : zI), x + m = n → J 57 0 = zi n → ∃ J1 : zI, (∀ v5 v6 : Value, v5.category = 1 → v6.category = 1 → Ev X d 183 146 [.ref 57, .int x1, .int b, .int l, .int (zi x), v5, v6] [] G J (some (.int (if x1 = 0 then b else l)), G, J1)) ∧ (∀ c, c ≠ 60 → J1 c = J c) ∧ (∀ k, ¬ (k % 5 = 3 ∧ x ≤ k / 5 ∧ k / 5 < n) → J1 60 k = J 60 k) ∧ ∀ y, x ≤ y → y < n → J1 60 (5 * y + 3) = J 78 y := by
  intro m
  induction m with
  | zero =>
    intro x J hx hj
    obtain rfl : x = n := by omega
    refine ⟨J, fun v5 v6 c5 c6 => wp_Z_card_146 _ _ _ _ v5 c5 v6 c6 hS ⟨fun _ => ⟨fun h => by rw [if_neg h], fun h => by rw [if_pos h]⟩, fun h => absurd (by rw [hj]; exact Int32.le_refl _) h⟩, fun _ _ => rfl, fun _ _ => rfl, fun y h1 h2 => absurd h2 (by omega)⟩
  | succ m ih =>
    intro x J hx hj
    have nx : ¬ zi n ≤ zi x := fun h => absurd ((zi_le (by omega) (by omega)).1 h) (by omega)
    obtain ⟨J1, k1, k2, k3, k4⟩ := ih (x + 1) (z_up J 60 (5 * x + 3) (J 78 x)) (by omega) (by rw [up_cell (by decide)]; exact hj)
    refine ⟨J1, fun v5 v6 c5 c6 => wp_Z_card_146 _ _ _ _ v5 c5 v6 c6 hS ?_, fun c hc => (k2 c hc).trans (up_cell hc), fun k hk => ?_, fun y h1 h2 => ?_⟩
    · rw [hj, show (5 : Int32) * zi x + 3 = zi (5 * x + 3) from z51 x 3, zi_nat (show 5 * x + 3 < _ by omega), zi_nat (show x < _ by omega), zi1 x]
      exact ⟨fun h => absurd h nx, fun _ => ⟨zi_inr (by omega) (by omega), ⟨zi_inr (by omega) (by omega), fun I5_ e1 => (by subst e1; exact fun y6_ e2 => (by subst e2; exact k1 _ _ c5 c6))⟩⟩⟩
    · rw [k3 k (by omega), up_place (by omega)]
    · by_cases e : y = x
      · subst e; rw [k3 _ (by omega), up_same]
      · rw [k4 y (by omega) h2, up_cell (by decide)]
theorem card_set {X : Nat × (Nat → Int32)} {d : Nat} {G : zG} (hS : SG G) {n : Nat} (hn : n ≤ 4) (x1 b l v : Int32) :
    ∀ (m x : Nat) (J : zI), x + m = n → J 57 0 = zi n → ∃ J1 : zI, (∀ (v6 : Value), v6.category = 1 → ∀ res, Ev X (d + 1) 183 61 [.ref 57, .int x1, .int b, .int l, .int v, .int (zi n), v6] [] G J1 res → Ev X (d + 1) 183 61 [.ref 57, .int x1, .int b, .int l, .int v, .int (zi x), v6] [] G J res) ∧ (∀ c, c ≠ 60 → J1 c = J c) ∧ ∀ k, J1 60 k = if k % 5 = 3 ∧ x ≤ k / 5 ∧ k / 5 < n then v else J 60 k := by
  intro m
  induction m with
  | zero =>
    intro x J hx hj
    obtain rfl : x = n := by omega
    exact ⟨J, fun _ _ res k => k, fun _ _ => rfl, fun k => by rw [if_neg (by omega)]⟩
  | succ m ih =>
    intro x J hx hj
    have nx : ¬ zi n ≤ zi x := fun h => absurd ((zi_le (by omega) (by omega)).1 h) (by omega)
    obtain ⟨J1, k1, k2, k3⟩ := ih (x + 1) (z_up J 60 (5 * x + 3) v) (by omega) (by rw [up_cell (by decide)]; exact hj)
    refine ⟨J1, fun v6 c6 res k => wp_Z_card_61 _ _ _ _ _ v6 c6 hS ?_, fun c hc => (k2 c hc).trans (up_cell hc), fun k => ?_⟩
    · rw [hj, show (5 : Int32) * zi x + 3 = zi (5 * x + 3) from z51 x 3, zi_nat (show 5 * x + 3 < _ by omega), zi1 x]
      exact ⟨fun h => absurd h nx, fun _ => ⟨zi_inr (by omega) (by omega), fun I11_ e1 => (by subst e1; exact fun y12_ e2 => (by subst e2; exact k1 v6 c6 res k))⟩⟩
    · rw [k3 k]
      by_cases e : k = 5 * x + 3
      · subst e; rw [if_neg (by omega), if_pos (by omega), up_same]
      · rw [up_place e]
        by_cases e2 : k % 5 = 3 ∧ x + 1 ≤ k / 5 ∧ k / 5 < n
        · rw [if_pos e2, if_pos (by omega)]
        · rw [if_neg e2, if_neg (by omega)]
theorem card_loop {X : Nat × (Nat → Int32)} {d : Nat} {G : zG} (hS : SG G) {n r m : Nat} (hn : n ≤ 4) (x1 : Int32) :
    ∀ (j k : Nat) (I J : zI) (L b l : Int32), k + j = 17 → AD 9 n r m G I J → J 57 34 = -1 → CT L b l k → (0 < k → ¬ b = -1) →
    ∃ (w : Int32) (I1 J1 : zI), Ev X (d + 8) 90 28 [.ref 0, .int x1, .int L, .int (zi k)] [] G I (some (.int w), G, I1) ∧ (∀ v5 v6 : Value, v5.category = 1 → v6.category = 1 → Ev X (d + 8) 183 51 [.ref 57, .int x1, .int b, .int l, .int (zi k), v5, v6] [] G J (some (.int w), G, J1)) ∧ FC I I1 ∧ FZ6 (fun k => k % 5 = 3 ∧ k / 5 < n) J J1 ∧ ∀ y, y < n → J1 60 (5 * y + 3) = J 78 y := by
  intro j
  induction j with
  | zero =>
    intro k I J L b l hk hA hq hC hb
    obtain rfl : k = 17 := by omega
    obtain ⟨J1, k1, k2, k3, k4⟩ := card_back (X := X) (d := d + 8) hS hn x1 b l n 0 J (by omega) hA.1.cj
    obtain ⟨-, g1, g2⟩ := CT_end (by omega) hC (hb (by omega))
    refine ⟨_, I, J1, wp_T_card_28 _ _ _ hS ⟨fun _ => ?_, fun h => absurd (by decide) h⟩, fun v5 v6 c5 c6 => wp_Z_card_51 _ _ _ _ v5 c5 v6 c6 ⟨fun _ => k1 _ _ c5 c6, fun h => absurd (by decide) h⟩, FC.rf, ⟨fun c a b _ => k2 c b, fun k _ => by rw [k2 57 (by decide)], fun k hk => k3 k (by omega)⟩, fun y hy => k4 y (by omega) hy⟩
    by_cases q : x1 = 0
    · rw [if_pos q, g1 _ q]
    · rw [if_neg q, g2 _ q]
  | succ j ih =>
    intro k I J L b l hk hA hq hC hb
    have nh : ¬ (16 : Int32) < zi k := fun e => absurd ((zi_lt (a := 16) (by omega) (by omega)).1 e) (by omega)
    obtain ⟨I2, f1, f2, f3⟩ := c_fill (X := X) (d := d + 7) (a := 15) (N := 4) (SGn hS (by decide)) (SGk hS rfl) (SGl hS rfl) (by omega) (zi k) I
    obtain ⟨J2, s1, s2, s3⟩ := card_set (X := X) (d := d + 7) hS hn x1 b l (zi k) n 0 J (by omega) hA.1.cj
    simp only [Nat.zero_le, true_and] at s3
    have hA2 := hA.card (h := k) (by omega) f2 f3 s2 s3
    obtain ⟨I4, J6, k1, k2, k3, k4, mf, ms, mc⟩ := live_sim (X := X) (d := d) hS (Or.inr rfl) hA2 (by rw [s2 57 (by decide)]; exact hq)
    have hA6 := hA2.fr (by omega) k3 k4
    have hq6 : J6 57 34 = -1 := by rw [k4 57 (by omega), s2 57 (by decide)]; exact hq
    obtain ⟨cc, rc, c1, c2⟩ := cost_sim (X := X) (d := d + 6) hS (I := I4) (J := J6) hn hA6.1.cj (fun y hy => ⟨(mc y hy).1, (mc y hy).2.2.2⟩)
    obtain ⟨c, hc, rfl⟩ := rg_nat (k := 11880) rc
    have e97 : I4 9 7 = zi n := hA6.1.ci
    have h0j : J2 57 0 = zi n := by rw [s2 57 (by decide)]; exact hA.1.cj
    have le : zi n ≤ zi n := Int32.le_refl _
    have cA : Cv X (d + 7) 184 [.ref 57] G J2 (some (.int (zi c)), G, J6) := Cv.of hq_184 (z_le rfl) rfl (wp_Z_costOfAll hS ⟨J6, k2, _, J6, c2, rfl⟩)
    have fc : FC I I4 := fun c a b e => by rw [k3 c b e, f2 c (by omega)]
    have fz : FZ6 (fun k => k % 5 = 3 ∧ k / 5 < n) J J6 := ⟨fun c a b e => by rw [k4 c (by omega), s2 c b], fun k _ => by rw [k4 57 (by omega), s2 57 (by decide)], fun k hk => by rw [k4 60 (by omega), s3 k, if_neg hk]⟩
    have e78 : J6 78 = J 78 := by rw [k4 78 (by omega), s2 78 (by decide)]
    obtain ⟨t1, t2, t3⟩ := CT_step (k := k + 1) (c := c) (h := k) (by omega) (by omega) (by omega) hC
    by_cases b1 : b = -1
    · obtain ⟨w, I9, J9, g1, g2, g3, g4, g5⟩ := ih (k + 1) I4 J6 _ _ _ (by omega) hA6 hq6 (t1 b1) (fun _ => zi_nm (by omega))
      refine ⟨w, I9, J9, wp_T_card_28 _ _ _ hS ⟨fun h => absurd h nh, fun _ => ⟨I2, f1, ⟨I4, k1.deep (by omega), ⟨zi c, I4, (by rw [e97]; exact c1.deep (by omega)), fun y9_ e1 => (by subst e1; exact fun y10_ e2 => (by subst e2; exact (by rw [zi1 k]; exact g1)))⟩⟩⟩⟩, fun v5 v6 c5 c6 => wp_Z_card_51 _ _ _ _ v5 c5 v6 c6 ⟨fun h => absurd h nh, fun _ => s1 v6 c6 _ (wp_Z_card_61 _ _ _ _ _ v6 c6 hS ?_)⟩, fc.tr g3, fz.tr g4, fun y hy => (g5 y hy).trans (by rw [e78])⟩
      rw [h0j]
      exact ⟨fun _ => ⟨_, J6, cA, ⟨fun _ => fun y6_ e1 => (by subst e1; exact (by rw [zi1 k]; exact g2 _ _ rfl rfl)), fun h => absurd b1 h⟩⟩, fun h => absurd le h⟩
    by_cases b2 : l ≤ zi c
    · obtain ⟨w, I9, J9, g1, g2, g3, g4, g5⟩ := ih (k + 1) I4 J6 _ _ _ (by omega) hA6 hq6 (t2 b1 b2) (fun _ => b1)
      refine ⟨w, I9, J9, wp_T_card_28 _ _ _ hS ⟨fun h => absurd h nh, fun _ => ⟨I2, f1, ⟨I4, k1.deep (by omega), ⟨zi c, I4, (by rw [e97]; exact c1.deep (by omega)), fun y9_ e1 => (by subst e1; exact fun y10_ e2 => (by subst e2; exact (by rw [zi1 k]; exact g1)))⟩⟩⟩⟩, fun v5 v6 c5 c6 => wp_Z_card_51 _ _ _ _ v5 c5 v6 c6 ⟨fun h => absurd h nh, fun _ => s1 v6 c6 _ (wp_Z_card_61 _ _ _ _ _ v6 c6 hS ?_)⟩, fc.tr g3, fz.tr g4, fun y hy => (g5 y hy).trans (by rw [e78])⟩
      rw [h0j]
      exact ⟨fun _ => ⟨_, J6, cA, ⟨fun h => absurd h b1, fun _ => ⟨fun _ => fun y8_ e1 => (by subst e1; exact (by rw [zi1 k]; exact g2 _ _ rfl rfl)), fun h => absurd b2 h⟩⟩⟩, fun h => absurd le h⟩
    · obtain ⟨w, I9, J9, g1, g2, g3, g4, g5⟩ := ih (k + 1) I4 J6 _ _ _ (by omega) hA6 hq6 (t3 b1 b2) (fun _ => zi_nm (by omega))
      refine ⟨w, I9, J9, wp_T_card_28 _ _ _ hS ⟨fun h => absurd h nh, fun _ => ⟨I2, f1, ⟨I4, k1.deep (by omega), ⟨zi c, I4, (by rw [e97]; exact c1.deep (by omega)), fun y9_ e1 => (by subst e1; exact fun y10_ e2 => (by subst e2; exact (by rw [zi1 k]; exact g1)))⟩⟩⟩⟩, fun v5 v6 c5 c6 => wp_Z_card_51 _ _ _ _ v5 c5 v6 c6 ⟨fun h => absurd h nh, fun _ => s1 v6 c6 _ (wp_Z_card_61 _ _ _ _ _ v6 c6 hS ?_)⟩, fc.tr g3, fz.tr g4, fun y hy => (g5 y hy).trans (by rw [e78])⟩
      rw [h0j]
      exact ⟨fun _ => ⟨_, J6, cA, ⟨fun h => absurd h b1, fun _ => ⟨fun h => absurd h b2, fun _ => fun y9_ e1 => (by subst e1; exact (by rw [zi1 k]; exact g2 _ _ rfl rfl))⟩⟩⟩, fun h => absurd le h⟩
theorem q_card (x1 : Int32) : Quiet 90 183 [.int x1] := by
  intro X n m G I J R
  have hS := R.S
  have hn := R.H.le
  by_cases h1 : f_T_within x1 0 1 = 0
  · exact ⟨_, I, J, Cv.of hq_90 (z_le rfl) rfl (wp_T_card _ hS ⟨fun h => absurd h1 h, fun _ => rfl⟩), Cv.of hq_183 (z_le rfl) rfl (wp_Z_card _ ⟨fun h => absurd h1 h, fun _ => rfl⟩), FC.rf, FZ.rf⟩
  obtain ⟨r, I0, c0, f0, hA, -⟩ := think (X := X) (d := 98) R
  obtain ⟨J0, k1, k2, -, k3⟩ := card_keep (X := X) (d := 100) hS hn x1 n 0 J (by omega) R.H.cj
  obtain ⟨w, I1, J1, g1, g2, g3, g4, g5⟩ := card_loop (X := X) (d := 92) hS hn x1 17 0 I0 J0 2147483647 (-1) 0 (by omega) (hA.frZ (fun c e h => k2 c (by omega)) (fun k _ => by rw [k2 57 (by decide)])) (by rw [k2 57 (by decide)]; exact R.q) CT_none (fun h => absurd h (by omega))
  have fz : FZ J J1 := (FZ6.tr ⟨fun c a b e => k2 c (by omega), fun k _ => by rw [k2 57 (by decide)], fun k _ => by rw [k2 60 (by decide)]⟩ g4).back (fun k hk => by
    have := g5 (k / 5) hk.2
    rw [k3 _ (by omega) hk.2, show 5 * (k / 5) + 3 = k by omega] at this
    exact this)
  exact ⟨_, I1, J1, Cv.of hq_90 (z_le rfl) rfl (wp_T_card _ hS ⟨fun _ => ⟨I0, c0, g1⟩, fun h => absurd h h1⟩), Cv.of hq_183 (z_le rfl) rfl (wp_Z_card _ ⟨fun _ => (k1 _ (g2 _ _ rfl rfl)), fun h => absurd h h1⟩), f0.tr g3, fz⟩
