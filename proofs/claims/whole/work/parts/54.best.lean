/-! HASTE TRIED -/
theorem AD.frZ {o n r m : Nat} {G : zG} {I J J1 : zI} (h : AD o n r m G I J) (h1 : ∀ c, c ≠ 57 → ¬ (71 ≤ c ∧ c ≤ 79) → J1 c = J c) (h2 : ∀ k, k < 18 → J1 57 k = J 57 k) : AD o n r m G I J1 := by
  obtain ⟨a, b, c, d, e⟩ := h
  exact ⟨a.fr (fun _ _ _ => rfl) (h2 0 (by omega)) (h1 58 (by omega) (by omega)) (h1 59 (by omega) (by omega)) (h1 60 (by omega) (by omega)), b, c, (h2 9 (by omega)).trans d, e.fr rfl (h2 8 (by omega)) (fun _ _ _ => rfl) (h1 62 (by omega) (by omega)) (h1 63 (by omega) (by omega))⟩
theorem AD.hasteUp {n r m x h : Nat} {G : zG} {I J : zI} (H : AD 9 n r m G I J) (hx : x < n) (hh : h ≤ 16) : AD 9 n r m G (z_up I 15 x (zi h)) (z_up J 60 (5 * x + 3) (zi h)) := by
  obtain ⟨a, b, c, d, e⟩ := H
  refine ⟨a.hasteUp (v := zi h) (by omega) hx (rg_zi (k := 16) hh (by omega)) (fun c _ _ hc => up_cell hc) (fun y hy => ?_) (by rw [up_cell (by decide)]) (fun c _ _ hc => up_cell hc) (fun k hk => ?_), b, by rw [up_cell (by decide)]; exact c, by rw [up_cell (by decide)]; exact d, e.fr (by rw [up_cell (by decide)]) (by rw [up_cell (by decide)]) (fun c _ _ => up_cell (by omega)) (up_cell (by decide)) (up_cell (by decide))⟩
  · show z_up I 15 x (zi h) 15 y = if y = x then zi h else I 15 y
    by_cases q : y = x
    · rw [if_pos q, q, up_same]
    · rw [if_neg q, up_place q]
  · by_cases q : k = 5 * x + 3
    · rw [if_pos q, q, up_same]
    · rw [if_neg q, up_place q]
theorem AD.setUp {n r m x h : Nat} {G : zG} {I J : zI} (H : AD 9 n r m G I J) (hx : x < n) (hh : h ≤ 999) : AD 9 n r m G (z_up I 14 x (zi h)) (z_up J 60 (5 * x + 2) (zi h)) := by
  obtain ⟨a, b, c, d, e⟩ := H
  refine ⟨a.setUp (v := zi h) (by omega) hx (rg_zi (k := 999) hh (by omega)) (fun c _ _ hc => up_cell hc) (fun y hy => ?_) (by rw [up_cell (by decide)]) (fun c _ _ hc => up_cell hc) (fun k hk => ?_), b, by rw [up_cell (by decide)]; exact c, by rw [up_cell (by decide)]; exact d, e.fr (by rw [up_cell (by decide)]) (by rw [up_cell (by decide)]) (fun c _ _ => up_cell (by omega)) (up_cell (by decide)) (up_cell (by decide))⟩
  · show z_up I 14 x (zi h) 14 y = if y = x then zi h else I 14 y
    by_cases q : y = x
    · rw [if_pos q, q, up_same]
    · rw [if_neg q, up_place q]
  · by_cases q : k = 5 * x + 2
    · rw [if_pos q, q, up_same]
    · rw [if_neg q, up_place q]
theorem AD.lateUp {n r m x h : Nat} {G : zG} {I J : zI} (H : AD 9 n r m G I J) (hx : x < n) (hh : h ≤ 4) : AD 9 n r m G (z_up I 12 x (zi h)) (z_up J 60 (5 * x) (zi h)) := by
  obtain ⟨a, b, c, d, e⟩ := H
  refine ⟨a.lateUp (v := zi h) (by omega) hx (rg_zi (k := 4) hh (by omega)) (fun c _ _ hc => up_cell hc) (fun y hy => ?_) (by rw [up_cell (by decide)]) (fun c _ _ hc => up_cell hc) (fun k hk => ?_), b, by rw [up_cell (by decide)]; exact c, by rw [up_cell (by decide)]; exact d, e.fr (by rw [up_cell (by decide)]) (by rw [up_cell (by decide)]) (fun c _ _ => up_cell (by omega)) (up_cell (by decide)) (up_cell (by decide))⟩
  · show z_up I 12 x (zi h) 12 y = if y = x then zi h else I 12 y
    by_cases q : y = x
    · rw [if_pos q, q, up_same]
    · rw [if_neg q, up_place q]
  · by_cases q : k = 5 * x
    · rw [if_pos q, q, up_same]
    · rw [if_neg q, up_place q]
theorem AD.kindUp {n r m x h : Nat} {G : zG} {I J : zI} (H : AD 9 n r m G I J) (hx : x < n) (hh : h ≤ 5) : AD 9 n r m G (z_up I 10 x (zi h)) (z_up J 58 (x) (zi h)) := by
  obtain ⟨a, b, c, d, e⟩ := H
  refine ⟨a.kindUp (v := zi h) (by omega) hx (rg_zi (k := 5) hh (by omega)) (fun c _ _ hc => up_cell hc) (fun y hy => ?_) (by rw [up_cell (by decide)]) (fun c _ _ hc => up_cell hc) (fun k hk => ?_), b, by rw [up_cell (by decide)]; exact c, by rw [up_cell (by decide)]; exact d, e.fr (by rw [up_cell (by decide)]) (by rw [up_cell (by decide)]) (fun c _ _ => up_cell (by omega)) (up_cell (by decide)) (up_cell (by decide))⟩
  · show z_up I 10 x (zi h) 10 y = if y = x then zi h else I 10 y
    by_cases q : y = x
    · rw [if_pos q, q, up_same]
    · rw [if_neg q, up_place q]
  · by_cases q : k = x
    · rw [if_pos q, q, up_same]
    · rw [if_neg q, up_place q]
theorem AD.moreUp {n r m x h : Nat} {G : zG} {I J : zI} (H : AD 9 n r m G I J) (hx : x < n) (hh : h ≤ 9) : AD 9 n r m G (z_up I 11 x (zi h)) (z_up J 59 (x) (zi h)) := by
  obtain ⟨a, b, c, d, e⟩ := H
  refine ⟨a.moreUp (v := zi h) (by omega) hx (rg_zi (k := 9) hh (by omega)) (fun c _ _ hc => up_cell hc) (fun y hy => ?_) (by rw [up_cell (by decide)]) (fun c _ _ hc => up_cell hc) (fun k hk => ?_), b, by rw [up_cell (by decide)]; exact c, by rw [up_cell (by decide)]; exact d, e.fr (by rw [up_cell (by decide)]) (by rw [up_cell (by decide)]) (fun c _ _ => up_cell (by omega)) (up_cell (by decide)) (up_cell (by decide))⟩
  · show z_up I 11 x (zi h) 11 y = if y = x then zi h else I 11 y
    by_cases q : y = x
    · rw [if_pos q, q, up_same]
    · rw [if_neg q, up_place q]
  · by_cases q : k = x
    · rw [if_pos q, q, up_same]
    · rw [if_neg q, up_place q]
theorem AD.onUp {n r m x : Nat} {G : zG} {I J : zI} {v : Int32} (H : AD 9 n r m G I J) (hx : x < n) (hv : v = 0 ∨ v = 1) : AD 9 n r m G (z_up I 16 x v) (z_up J 60 (5 * x + 4) v) := by
  obtain ⟨a, b, c, d, e⟩ := H
  refine ⟨a.onUp (v := v) (by omega) hx hv (fun c _ _ hc => up_cell hc) (fun y hy => ?_) (by rw [up_cell (by decide)]) (fun c _ _ hc => up_cell hc) (fun k hk => ?_), b, by rw [up_cell (by decide)]; exact c, by rw [up_cell (by decide)]; exact d, e.fr (by rw [up_cell (by decide)]) (by rw [up_cell (by decide)]) (fun c _ _ => up_cell (by omega)) (up_cell (by decide)) (up_cell (by decide))⟩
  · show z_up I 16 x v 16 y = if y = x then v else I 16 y
    by_cases q : y = x
    · rw [if_pos q, q, up_same]
    · rw [if_neg q, up_place q]
  · by_cases q : k = 5 * x + 4
    · rw [if_pos q, q, up_same]
    · rw [if_neg q, up_place q]
theorem best_loop {X : Nat × (Nat → Int32)} {d : Nat} {G : zG} (hS : SG G) {n r m x : Nat} (hn : n ≤ 4) (hx : x < n) :
    ∀ (k h : Nat) (I J : zI) (L : Int32), h + k = 17 → AD 9 n r m G I J → J 57 34 = -1 → CT L (J 57 35) (J 57 36) h → (0 < h → ¬ J 57 35 = -1) →
    ∃ (I1 J1 : zI) (L1 : Int32), Ev X (d + 7) 84 5 [.ref 0, .int (zi x), .int L, .int (zi h)] [] G I (some (.int L1), G, I1) ∧
      (∀ (y2 : Int32) (v4 v5 : Value), v4.category = 1 → v5.category = 1 → Ev X (d + 8) 178 18 [.ref 57, .int (zi x), .int y2, .int (zi h), v4, v5] [] G J (none, G, z_up J1 60 (5 * x + 3) y2)) ∧
      CT L1 (J1 57 35) (J1 57 36) 17 ∧ ¬ J1 57 35 = -1 ∧ AD 9 n r m G I1 J1 ∧ (∀ c, c ≠ 15 → ¬ (27 ≤ c ∧ c ≤ 38) → ¬ isScr c → I1 c = I c) ∧ (∀ y, y ≠ x → I1 15 y = I 15 y) ∧ FZ6 (fun k => k = 5 * x + 3) J J1 := by
  intro k
  induction k with
  | zero =>
    intro h I J L hk hA hq hC hb
    obtain rfl : h = 17 := by omega
    refine ⟨I, J, L, wp_T_bestHaste_5 _ _ _ hS ⟨fun _ => rfl, fun e => absurd (by decide) e⟩, fun y2 v4 v5 c4 c5 => wp_Z_findsBest_18 _ _ _ v4 c4 v5 c5 hS ?_, hC, hb (by omega), hA, fun _ _ _ _ => rfl, fun _ _ => rfl, FZ.rf.six⟩
    rw [show (5 : Int32) * zi x + 3 = zi (5 * x + 3) from z51 x 3, zi_nat (show 5 * x + 3 < _ by omega)]
    exact ⟨fun _ => ⟨zi_inr (by omega) (by omega), fun I3 h3 => by rw [h3]⟩, fun e => absurd (by decide) e⟩
  | succ k ih =>
    intro h I J L hk hA hq hC hb
    have nh : ¬ (16 : Int32) < zi h := fun e => absurd ((zi_lt (a := 16) (by omega) (by omega)).1 e) (by omega)
    obtain ⟨I4, J6, k1, k2, k3, k4, mf, ms, mc⟩ := live_sim (X := X) (d := d) hS (Or.inr rfl) (hA.hasteUp (h := h) hx (by omega)) (by rw [up_cell (by decide)]; exact hq)
    obtain ⟨c, hc, ec⟩ := rg_nat (mc x hx).2.2.2
    have e35 : ∀ k, J6 57 k = J 57 k := fun k => by rw [k4 57 (by omega), up_cell (by decide)]
    have hA6 := (hA.hasteUp (x := x) (h := h) hx (by omega)).fr (by omega) k3 k4
    have cz : Cv X (d + 7) 179 [.ref 57, .int (zi x)] G (z_up J 60 (5 * x + 3) (zi h)) (some (.int (zi c)), G, J6) := by
      refine Cv.of hq_179 (z_le rfl) rfl (wp_Z_costOf _ hS ?_)
      rw [zi_nat (show x < _ by omega)]
      exact ⟨J6, k2, zi_inr (by omega) (by omega), by rw [ec]⟩
    obtain ⟨s1, s2, s3⟩ := CT_step (k := h + 1) (c := c) (by omega) (by omega) (by omega) hC
    rw [← e35 35, ← e35 36] at s2 s3
    rw [← e35 35] at s1
    by_cases b1 : J6 57 35 = -1
    · obtain ⟨I1, J1, L1, q1, q2, q3, q4, q5, q6, q7, q8⟩ := ih (h + 1) I4 (z_up (z_up J6 57 35 (zi h)) 57 36 (zi c)) (if f_T_choice (zi c) (zi h) < L then f_T_choice (zi c) (zi h) else L) (by omega) (hA6.frZ (fun c e _ => by rw [up_cell e, up_cell e]) (fun k hk => by rw [up_place (by omega), up_place (by omega)])) (by rw [up_place (by decide), up_place (by decide), e35]; exact hq) (by rw [up_place (by decide), up_same, up_same]; exact s1 b1) (fun _ => by rw [up_place (by decide), up_same]; exact zi_nm (by omega))
      refine ⟨I1, J1, L1, wp_T_bestHaste_5 _ _ _ hS ?_, fun y2 v4 v5 c4 c5 => wp_Z_findsBest_18 _ _ _ v4 c4 v5 c5 hS ?_, q3, q4, q5, fun c a1 a2 a3 => ?_, fun y hy => ?_, ?_⟩
      · rw [zi_nat (show x < _ by omega)]
        exact ⟨fun h => absurd h nh, fun _ => ⟨zi_inr (by omega) (by omega), fun I3_ e1 => (by subst e1; exact ⟨I4, k1, ⟨zi_inr (by omega) (by omega), fun y7_ e2 => (by subst e2; exact fun y8_ e3 => (by subst e3; exact (by rw [zi1 h, (mc x hx).1, ec]; exact q1)))⟩⟩)⟩⟩
      · rw [show (5 : Int32) * zi x + 3 = zi (5 * x + 3) from z51 x 3, zi_nat (show 5 * x + 3 < _ by omega)]
        exact ⟨fun h => absurd h nh, fun _ => ⟨zi_inr (by omega) (by omega), fun I5_ e1 => (by subst e1; exact ⟨_, J6, cz, ⟨fun _ => fun I10_ e2 => (by subst e2; exact fun I11_ e3 => (by subst e3; exact fun y12_ e4 => (by subst e4; exact (by rw [zi1 h]; exact q2 y2 _ _ rfl rfl)))), fun h => absurd b1 h⟩⟩)⟩⟩
      · rw [q6 c a1 a2 a3, k3 c a2 a3, up_cell a1]
      · rw [q7 y hy, k3 15 (by omega) (by unfold isScr; omega), up_place hy]
      · exact ((FZ6.up (p := fun k => k = 5 * x + 3) rfl).tr ((FrR.Z k4).six.tr ⟨fun c a _ _ => by rw [up_cell a, up_cell a], fun k hk => by rw [up_place (by omega), up_place (by omega)], fun k _ => by rw [up_cell (by decide), up_cell (by decide)]⟩)).tr q8
    by_cases b2 : J6 57 36 ≤ zi c
    · obtain ⟨I1, J1, L1, q1, q2, q3, q4, q5, q6, q7, q8⟩ := ih (h + 1) I4 (z_up (z_up J6 57 35 (J6 57 35)) 57 36 (J6 57 36)) (if f_T_choice (zi c) (zi h) < L then f_T_choice (zi c) (zi h) else L) (by omega) (hA6.frZ (fun c e _ => by rw [up_cell e, up_cell e]) (fun k hk => by rw [up_place (by omega), up_place (by omega)])) (by rw [up_place (by decide), up_place (by decide), e35]; exact hq) (by rw [up_place (by decide), up_same, up_same]; exact s2 b1 b2) (fun _ => by rw [up_place (by decide), up_same]; exact b1)
      refine ⟨I1, J1, L1, wp_T_bestHaste_5 _ _ _ hS ?_, fun y2 v4 v5 c4 c5 => wp_Z_findsBest_18 _ _ _ v4 c4 v5 c5 hS ?_, q3, q4, q5, fun c a1 a2 a3 => ?_, fun y hy => ?_, ?_⟩
      · rw [zi_nat (show x < _ by omega)]
        exact ⟨fun h => absurd h nh, fun _ => ⟨zi_inr (by omega) (by omega), fun I3_ e1 => (by subst e1; exact ⟨I4, k1, ⟨zi_inr (by omega) (by omega), fun y7_ e2 => (by subst e2; exact fun y8_ e3 => (by subst e3; exact (by rw [zi1 h, (mc x hx).1, ec]; exact q1)))⟩⟩)⟩⟩
      · rw [show (5 : Int32) * zi x + 3 = zi (5 * x + 3) from z51 x 3, zi_nat (show 5 * x + 3 < _ by omega)]
        exact ⟨fun h => absurd h nh, fun _ => ⟨zi_inr (by omega) (by omega), fun I5_ e1 => (by subst e1; exact ⟨_, J6, cz, ⟨fun h => absurd h b1, fun _ => ⟨fun _ => fun I14_ e2 => (by subst e2; exact fun I15_ e3 => (by subst e3; exact fun y16_ e4 => (by subst e4; exact (by rw [zi1 h]; exact q2 y2 _ _ rfl rfl)))), fun h => absurd b2 h⟩⟩⟩)⟩⟩
      · rw [q6 c a1 a2 a3, k3 c a2 a3, up_cell a1]
      · rw [q7 y hy, k3 15 (by omega) (by unfold isScr; omega), up_place hy]
      · exact ((FZ6.up (p := fun k => k = 5 * x + 3) rfl).tr ((FrR.Z k4).six.tr ⟨fun c a _ _ => by rw [up_cell a, up_cell a], fun k hk => by rw [up_place (by omega), up_place (by omega)], fun k _ => by rw [up_cell (by decide), up_cell (by decide)]⟩)).tr q8
    · obtain ⟨I1, J1, L1, q1, q2, q3, q4, q5, q6, q7, q8⟩ := ih (h + 1) I4 (z_up (z_up J6 57 35 (zi h)) 57 36 (zi c)) (if f_T_choice (zi c) (zi h) < L then f_T_choice (zi c) (zi h) else L) (by omega) (hA6.frZ (fun c e _ => by rw [up_cell e, up_cell e]) (fun k hk => by rw [up_place (by omega), up_place (by omega)])) (by rw [up_place (by decide), up_place (by decide), e35]; exact hq) (by rw [up_place (by decide), up_same, up_same]; exact s3 b1 b2) (fun _ => by rw [up_place (by decide), up_same]; exact zi_nm (by omega))
      refine ⟨I1, J1, L1, wp_T_bestHaste_5 _ _ _ hS ?_, fun y2 v4 v5 c4 c5 => wp_Z_findsBest_18 _ _ _ v4 c4 v5 c5 hS ?_, q3, q4, q5, fun c a1 a2 a3 => ?_, fun y hy => ?_, ?_⟩
      · rw [zi_nat (show x < _ by omega)]
        exact ⟨fun h => absurd h nh, fun _ => ⟨zi_inr (by omega) (by omega), fun I3_ e1 => (by subst e1; exact ⟨I4, k1, ⟨zi_inr (by omega) (by omega), fun y7_ e2 => (by subst e2; exact fun y8_ e3 => (by subst e3; exact (by rw [zi1 h, (mc x hx).1, ec]; exact q1)))⟩⟩)⟩⟩
      · rw [show (5 : Int32) * zi x + 3 = zi (5 * x + 3) from z51 x 3, zi_nat (show 5 * x + 3 < _ by omega)]
        exact ⟨fun h => absurd h nh, fun _ => ⟨zi_inr (by omega) (by omega), fun I5_ e1 => (by subst e1; exact ⟨_, J6, cz, ⟨fun h => absurd h b1, fun _ => ⟨fun h => absurd h b2, fun _ => fun I17_ e2 => (by subst e2; exact fun I18_ e3 => (by subst e3; exact fun y19_ e4 => (by subst e4; exact (by rw [zi1 h]; exact q2 y2 _ _ rfl rfl))))⟩⟩⟩)⟩⟩
      · rw [q6 c a1 a2 a3, k3 c a2 a3, up_cell a1]
      · rw [q7 y hy, k3 15 (by omega) (by unfold isScr; omega), up_place hy]
      · exact ((FZ6.up (p := fun k => k = 5 * x + 3) rfl).tr ((FrR.Z k4).six.tr ⟨fun c a _ _ => by rw [up_cell a, up_cell a], fun k hk => by rw [up_place (by omega), up_place (by omega)], fun k _ => by rw [up_cell (by decide), up_cell (by decide)]⟩)).tr q8
/-- the best haste of one, of the house that is thought of: the reference's haste is laid back -/
theorem best_sim {X : Nat × (Nat → Int32)} {d : Nat} {G : zG} (hS : SG G) {n r m x : Nat} (hn : n ≤ 4) (hx : x < n) {I J : zI} (hA : AD 9 n r m G I J) (hq : J 57 34 = -1) :
    ∃ (I1 J1 : zI) (L1 : Int32), Cv X (d + 7) 84 [.ref 0, .int (zi x)] G I (some (.int L1), G, I1) ∧ Cv X (d + 8) 178 [.ref 57, .int (zi x)] G J (none, G, z_up J1 60 (5 * x + 3) (J 60 (5 * x + 3))) ∧
      CT L1 (J1 57 35) (J1 57 36) 17 ∧ ¬ J1 57 35 = -1 ∧ AD 9 n r m G I1 J1 ∧ (∀ c, c ≠ 15 → ¬ (27 ≤ c ∧ c ≤ 38) → ¬ isScr c → I1 c = I c) ∧ (∀ y, y ≠ x → I1 15 y = I 15 y) ∧ FZ6 (fun k => k = 5 * x + 3) J J1 := by
  obtain ⟨I1, J1, L1, q1, q2, q3, q4, q5, q6, q7, q8⟩ := best_loop (X := X) (d := d) hS hn hx 17 0 I (z_up J 57 35 (-1)) 2147483647 (by omega) (hA.frZ (fun c e _ => up_cell e) (fun k hk => up_place (by omega))) (by rw [up_place (by decide)]; exact hq) (by rw [up_same]; exact CT_none) (fun h => absurd h (by omega))
  refine ⟨I1, J1, L1, Cv.of hq_84 (z_le rfl) rfl (wp_T_bestHaste _ q1), Cv.of hq_178 (z_le rfl) rfl (wp_Z_findsBest _ hS ?_), q3, q4, q5, q6, q7, FZ6.tr ⟨fun c a _ _ => up_cell a, fun k hk => up_place (by omega), fun k _ => by rw [up_cell (by decide)]⟩ q8⟩
  rw [show (5 : Int32) * zi x + 3 = zi (5 * x + 3) from z51 x 3, zi_nat (show 5 * x + 3 < _ by omega)]
  exact ⟨zi_inr (by omega) (by omega), fun y2 h2 I3 h3 => by rw [h3, h2]; exact q2 _ _ _ rfl rfl⟩
theorem q_best (x1 x2 : Int32) : Quiet 82 177 [.int x1, .int x2] := by
  intro X n m G I J R
  have hS := R.S
  have hn := R.H.le
  have es := R.sh x1
  by_cases hs : f_T_isShower I x1 = 0
  · exact ⟨_, I, J, Cv.of hq_82 (z_le rfl) rfl (wp_T_best _ _ (by omega) hS ⟨fun h => absurd hs h, fun _ => rfl⟩), Cv.of hq_177 (z_le rfl) rfl (wp_Z_best _ _ (by omega) hS ⟨fun h => absurd (es.trans hs) h, fun _ => rfl⟩), FC.rf, FZ.rf⟩
  have hs' : ¬ f_Z_isShower J x1 = 0 := fun h => hs (es.symm.trans h)
  by_cases h2 : f_T_within x2 0 1 = 0
  · exact ⟨_, I, J, Cv.of hq_82 (z_le rfl) rfl (wp_T_best _ _ (by omega) hS ⟨fun _ => ⟨fun h => absurd h2 h, fun _ => rfl⟩, fun h => absurd h hs⟩), Cv.of hq_177 (z_le rfl) rfl (wp_Z_best _ _ (by omega) hS ⟨fun _ => ⟨fun h => absurd h2 h, fun _ => rfl⟩, fun h => absurd h hs'⟩), FC.rf, FZ.rf⟩
  obtain ⟨x, hx, rfl⟩ := R.shx hs
  obtain ⟨r, I0, c0, f0, hA, -⟩ := think (X := X) (d := 98) R
  obtain ⟨I1, J1, L1, k1, k2, k3, k4, k5, k6, k7, k8⟩ := best_sim (X := X) (d := 91) hS hn hx hA R.q
  obtain ⟨-, g1, g2⟩ := CT_end (by omega) k3 k4
  have fz : FZ J (z_up J1 60 (5 * x + 3) (J 60 (5 * x + 3))) := (k8.tr (FZ6.up rfl)).back (fun k hk => by rw [hk, up_same])
  have fc : FC I I1 := f0.tr fun c a b e => k6 c (by omega) b e
  by_cases q0 : x2 = 0
  · exact ⟨.int (J1 57 35), I1, _, Cv.of hq_82 (z_le rfl) rfl (wp_T_best _ _ (by omega) hS ⟨fun _ => ⟨fun _ => ⟨I0, c0, ⟨L1, I1, k1.deep (by omega), (by rw [g1 _ q0])⟩⟩, fun h => absurd h h2⟩, fun h => absurd h hs⟩), Cv.of hq_177 (z_le rfl) rfl (wp_Z_best _ _ (by omega) hS ⟨fun _ => ⟨fun _ => ⟨_, k2, ⟨fun h => absurd q0 h, fun _ => (by rw [up_cell (by decide)])⟩⟩, fun h => absurd h h2⟩, fun h => absurd h hs'⟩), fc, fz⟩
  · exact ⟨.int (J1 57 36), I1, _, Cv.of hq_82 (z_le rfl) rfl (wp_T_best _ _ (by omega) hS ⟨fun _ => ⟨fun _ => ⟨I0, c0, ⟨L1, I1, k1.deep (by omega), (by rw [g2 _ q0])⟩⟩, fun h => absurd h h2⟩, fun h => absurd h hs⟩), Cv.of hq_177 (z_le rfl) rfl (wp_Z_best _ _ (by omega) hS ⟨fun _ => ⟨fun _ => ⟨_, k2, ⟨fun _ => (by rw [up_cell (by decide)]), fun h => absurd h q0⟩⟩, fun h => absurd h h2⟩, fun h => absurd h hs'⟩), fc, fz⟩
