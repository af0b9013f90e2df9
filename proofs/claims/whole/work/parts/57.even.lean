/-! TWO IN TURNS; WHO HURTS WHOM -/
theorem up_up {J : zI} {a j : Nat} {u v : Int32} : z_up (z_up J a j u) a j v = z_up J a j v := by
  funext b k
  unfold z_up
  by_cases h : b = a ∧ k = j
  · rw [if_pos h, if_pos h]
  · rw [if_neg h, if_neg h, if_neg h]
theorem up_comm {J : zI} {a j i : Nat} {u v : Int32} (h : i ≠ j) : z_up (z_up J a j u) a i v = z_up (z_up J a i v) a j u := by
  funext b k
  unfold z_up
  by_cases h1 : b = a ∧ k = i
  · rw [if_pos h1, if_neg (fun e => h (h1.2.symm.trans e.2)), if_pos h1]
  · rw [if_neg h1]
    by_cases h2 : b = a ∧ k = j
    · rw [if_pos h2, if_pos h2]
    · rw [if_neg h2, if_neg h2, if_neg h1]
theorem two_eq {n : Nat} {I J : zI} (h : RH 1 I J n) (x1 x2 : Int32) : f_Z_areTwo J x1 x2 = f_T_areTwo I x1 x2 := by
  unfold f_Z_areTwo f_T_areTwo
  rw [sh_eq (o := 1) h, sh_eq (o := 1) h]
theorem two_spec {n : Nat} {I J : zI} (h : RH 1 I J n) {x1 x2 : Int32} (h1 : ¬ f_T_areTwo I x1 x2 = 0) : ∃ x y : Nat, x < n ∧ y < n ∧ x ≠ y ∧ x1 = zi x ∧ x2 = zi y := by
  have h4 := h.le
  unfold f_T_areTwo at h1
  by_cases a : f_T_isShower I x1 = 0
  · rw [if_pos a] at h1; exact absurd rfl h1
  · rw [if_neg a] at h1
    by_cases b : f_T_isShower I x2 = 0
    · rw [if_pos b] at h1; exact absurd rfl h1
    · rw [if_neg b] at h1
      by_cases c : x1 = x2
      · rw [if_pos c] at h1; exact absurd rfl h1
      · obtain ⟨x, hx, rfl⟩ := sh_spec h a
        obtain ⟨y, hy, rfl⟩ := sh_spec h b
        exact ⟨x, y, hx, hy, fun e => c (by rw [e]), rfl, rfl⟩
theorem even_loop {X : Nat × (Nat → Int32)} {d : Nat} {G : zG} (hS : SG G) {n r m x y : Nat} (hn : n ≤ 4) (hx : x < n) (hy : y < n) (hxy : x ≠ y) (x3 wx wy : Int32) :
    ∀ (j t u : Nat) (c : Int32) (I J : zI), t + j = 20 → u ≤ 2 → AD 9 n r m G I J → J 57 34 = -1 →
    ∃ (w : Int32) (I1 J1 : zI), (∀ v7 v8 : Value, v7.category = 1 → v8.category = 1 → Ev X (d + 9) 91 44 [.ref 0, .int (zi x), .int (zi y), .int x3, .int c, .int (zi u), .int (zi t), v7, v8] [] G I (some (.int w), G, I1)) ∧
      (∀ v9 v10 : Value, v9.category = 1 → v10.category = 1 → Ev X (d + 9) 185 57 [.ref 57, .int (zi x), .int (zi y), .int x3, .int wx, .int wy, .int (zi u), .int c, .int (zi t), v9, v10] [] G J (some (.int w), G, J1)) ∧ FC I I1 ∧ FZ6 (fun k => k = 5 * x + 3 ∨ k = 5 * y + 3) J J1 ∧ J1 60 (5 * x + 3) = wx ∧ J1 60 (5 * y + 3) = wy := by
  intro j
  have fin_ : ∀ (J : zI), FZ6 (fun k => k = 5 * x + 3 ∨ k = 5 * y + 3) J (z_up (z_up J 60 (5 * x + 3) wx) 60 (5 * y + 3) wy) ∧ (z_up (z_up J 60 (5 * x + 3) wx) 60 (5 * y + 3) wy) 60 (5 * x + 3) = wx ∧ (z_up (z_up J 60 (5 * x + 3) wx) 60 (5 * y + 3) wy) 60 (5 * y + 3) = wy := fun J => ⟨(FZ6.up (Or.inl rfl)).tr (FZ6.up (Or.inr rfl)), by rw [up_place (by omega), up_same], up_same⟩
  induction j with
  | zero =>
    intro t u c I J ht hu hA hq
    obtain rfl : t = 20 := by omega
    have a : (20 : Int32) ≤ zi 20 := by decide
    have ex : I 15 x = J 60 (5 * x + 3) := (hA.1.at' x hx).haste
    have ey : I 15 y = J 60 (5 * y + 3) := (hA.1.at' y hy).haste
    by_cases b : (2 : Int32) ≤ zi u
    · by_cases q : x3 = 0
      · refine ⟨c, I, _, fun v7 v8 c7 c8 => wp_T_even_44 _ _ _ _ _ _ v7 c7 v8 c8 hS ?_, fun v9 v10 c9 c10 => wp_Z_even_57 _ _ _ _ _ _ _ _ v9 c9 v10 c10 hS ?_, FC.rf, fin_ J⟩
        · rw [zi_nat (show x < _ by omega), zi_nat (show y < _ by omega)]
          exact ⟨fun _ => ⟨fun _ => ⟨fun h => absurd q h, fun _ => rfl⟩, fun h => absurd b h⟩, fun h => absurd a h⟩
        · rw [show (5 : Int32) * zi x + 3 = zi (5 * x + 3) from z51 x 3, show (5 : Int32) * zi y + 3 = zi (5 * y + 3) from z51 y 3, zi_nat (show 5 * x + 3 < _ by omega), zi_nat (show 5 * y + 3 < _ by omega)]
          exact ⟨fun _ => ⟨zi_inr (by omega) (by omega), ⟨zi_inr (by omega) (by omega), fun y4_ e1 => (by subst e1; exact ⟨zi_inr (by omega) (by omega), fun I6_ e2 => (by subst e2; exact ⟨zi_inr (by omega) (by omega), fun I8_ e3 => (by subst e3; exact ⟨fun _ => ⟨fun h => absurd q h, fun _ => rfl⟩, fun h => absurd b h⟩)⟩)⟩)⟩⟩, fun h => absurd a h⟩
      · refine ⟨100 * J 60 (5 * x + 3) + J 60 (5 * y + 3), I, _, fun v7 v8 c7 c8 => wp_T_even_44 _ _ _ _ _ _ v7 c7 v8 c8 hS ?_, fun v9 v10 c9 c10 => wp_Z_even_57 _ _ _ _ _ _ _ _ v9 c9 v10 c10 hS ?_, FC.rf, fin_ J⟩
        · rw [zi_nat (show x < _ by omega), zi_nat (show y < _ by omega)]
          exact ⟨fun _ => ⟨fun _ => ⟨fun _ => ⟨zi_inr (by omega) (by omega), ⟨zi_inr (by omega) (by omega), (by rw [ex, ey])⟩⟩, fun h => absurd h q⟩, fun h => absurd b h⟩, fun h => absurd a h⟩
        · rw [show (5 : Int32) * zi x + 3 = zi (5 * x + 3) from z51 x 3, show (5 : Int32) * zi y + 3 = zi (5 * y + 3) from z51 y 3, zi_nat (show 5 * x + 3 < _ by omega), zi_nat (show 5 * y + 3 < _ by omega)]
          exact ⟨fun _ => ⟨zi_inr (by omega) (by omega), ⟨zi_inr (by omega) (by omega), fun y4_ e1 => (by subst e1; exact ⟨zi_inr (by omega) (by omega), fun I6_ e2 => (by subst e2; exact ⟨zi_inr (by omega) (by omega), fun I8_ e3 => (by subst e3; exact ⟨fun _ => ⟨fun _ => rfl, fun h => absurd h q⟩, fun h => absurd b h⟩)⟩)⟩)⟩⟩, fun h => absurd a h⟩
    · refine ⟨-1, I, _, fun v7 v8 c7 c8 => wp_T_even_44 _ _ _ _ _ _ v7 c7 v8 c8 hS ?_, fun v9 v10 c9 c10 => wp_Z_even_57 _ _ _ _ _ _ _ _ v9 c9 v10 c10 hS ?_, FC.rf, fin_ J⟩
      · rw [zi_nat (show x < _ by omega), zi_nat (show y < _ by omega)]
        exact ⟨fun _ => ⟨fun h => absurd h b, fun _ => rfl⟩, fun h => absurd a h⟩
      · rw [show (5 : Int32) * zi x + 3 = zi (5 * x + 3) from z51 x 3, show (5 : Int32) * zi y + 3 = zi (5 * y + 3) from z51 y 3, zi_nat (show 5 * x + 3 < _ by omega), zi_nat (show 5 * y + 3 < _ by omega)]
        exact ⟨fun _ => ⟨zi_inr (by omega) (by omega), ⟨zi_inr (by omega) (by omega), fun y4_ e1 => (by subst e1; exact ⟨zi_inr (by omega) (by omega), fun I6_ e2 => (by subst e2; exact ⟨zi_inr (by omega) (by omega), fun I8_ e3 => (by subst e3; exact ⟨fun h => absurd h b, fun _ => rfl⟩)⟩)⟩)⟩⟩, fun h => absurd a h⟩
  | succ j ih =>
    intro t u c I J ht hu hA hq
    have a : ¬ (20 : Int32) ≤ zi t := fun e => absurd ((zi_le (a := 20) (by omega) (by omega)).1 e) (by omega)
    have ex : I 15 x = J 60 (5 * x + 3) := (hA.1.at' x hx).haste
    have ey : I 15 y = J 60 (5 * y + 3) := (hA.1.at' y hy).haste
    by_cases b : (2 : Int32) ≤ zi u
    · by_cases q : x3 = 0
      · refine ⟨c, I, _, fun v7 v8 c7 c8 => wp_T_even_44 _ _ _ _ _ _ v7 c7 v8 c8 hS ?_, fun v9 v10 c9 c10 => wp_Z_even_57 _ _ _ _ _ _ _ _ v9 c9 v10 c10 hS ?_, FC.rf, fin_ J⟩
        · rw [zi_nat (show x < _ by omega), zi_nat (show y < _ by omega)]
          exact ⟨fun h => absurd h a, fun _ => ⟨fun _ => ⟨fun _ => ⟨fun h => absurd q h, fun _ => rfl⟩, fun h => absurd b h⟩, fun h => absurd b h⟩⟩
        · rw [show (5 : Int32) * zi x + 3 = zi (5 * x + 3) from z51 x 3, show (5 : Int32) * zi y + 3 = zi (5 * y + 3) from z51 y 3, zi_nat (show 5 * x + 3 < _ by omega), zi_nat (show 5 * y + 3 < _ by omega)]
          exact ⟨fun h => absurd h a, fun _ => ⟨fun _ => ⟨zi_inr (by omega) (by omega), ⟨zi_inr (by omega) (by omega), fun y14_ e1 => (by subst e1; exact ⟨zi_inr (by omega) (by omega), fun I16_ e2 => (by subst e2; exact ⟨zi_inr (by omega) (by omega), fun I18_ e3 => (by subst e3; exact ⟨fun _ => ⟨fun h => absurd q h, fun _ => rfl⟩, fun h => absurd b h⟩)⟩)⟩)⟩⟩, fun h => absurd b h⟩⟩
      · refine ⟨100 * J 60 (5 * x + 3) + J 60 (5 * y + 3), I, _, fun v7 v8 c7 c8 => wp_T_even_44 _ _ _ _ _ _ v7 c7 v8 c8 hS ?_, fun v9 v10 c9 c10 => wp_Z_even_57 _ _ _ _ _ _ _ _ v9 c9 v10 c10 hS ?_, FC.rf, fin_ J⟩
        · rw [zi_nat (show x < _ by omega), zi_nat (show y < _ by omega)]
          exact ⟨fun h => absurd h a, fun _ => ⟨fun _ => ⟨fun _ => ⟨fun _ => ⟨zi_inr (by omega) (by omega), ⟨zi_inr (by omega) (by omega), (by rw [ex, ey])⟩⟩, fun h => absurd h q⟩, fun h => absurd b h⟩, fun h => absurd b h⟩⟩
        · rw [show (5 : Int32) * zi x + 3 = zi (5 * x + 3) from z51 x 3, show (5 : Int32) * zi y + 3 = zi (5 * y + 3) from z51 y 3, zi_nat (show 5 * x + 3 < _ by omega), zi_nat (show 5 * y + 3 < _ by omega)]
          exact ⟨fun h => absurd h a, fun _ => ⟨fun _ => ⟨zi_inr (by omega) (by omega), ⟨zi_inr (by omega) (by omega), fun y14_ e1 => (by subst e1; exact ⟨zi_inr (by omega) (by omega), fun I16_ e2 => (by subst e2; exact ⟨zi_inr (by omega) (by omega), fun I18_ e3 => (by subst e3; exact ⟨fun _ => ⟨fun _ => rfl, fun h => absurd h q⟩, fun h => absurd b h⟩)⟩)⟩)⟩⟩, fun h => absurd b h⟩⟩
    have hu1 : u + 1 ≤ 2 := by
      have : ¬ 2 ≤ u := fun e => b ((zi_le (a := 2) (by omega) (by omega)).2 e)
      omega
    by_cases p : zi t - zi t / 2 * 2 = 0
    · obtain ⟨I1, J1, L1, k1, k2, k3, k4, k5, k6, k7, k8⟩ := best_sim (X := X) (d := d) hS hn hx hA hq
      obtain ⟨-, g1, -⟩ := CT_end (by omega) k3 k4
      have g1 := g1 0 rfl
      obtain ⟨P, hP, eP⟩ : ∃ P : Nat, P ≤ 16 ∧ J1 57 35 = zi P := by
        rcases k3 with ⟨-, e⟩ | ⟨P, c2, h1, h2, h3, h5, h6⟩
        · exact absurd e k4
        · exact ⟨P, by omega, h5⟩
      rw [eP] at g1
      have hA1 := k5.hasteUp (x := x) (h := P) hx hP
      obtain ⟨J3, hJ3⟩ : ∃ J3 : zI, J3 = z_up (z_up J1 60 (5 * x + 3) (J 60 (5 * x + 3))) 60 (5 * x + 3) (zi P) := ⟨_, rfl⟩
      have hA3 : AD 9 n r m G (z_up I1 15 x (zi P)) J3 := by rw [hJ3, up_up]; exact hA1
      have hq3 : J3 57 34 = -1 := by rw [hJ3, up_cell (by decide), up_cell (by decide), k8.2.1 34 (by omega)]; exact hq
      have fc : FC I (z_up I1 15 x (zi P)) := fun c a b e => by rw [up_cell (by omega), k6 c (by omega) b e]
      have fz : FZ6 (fun k => k = 5 * x + 3 ∨ k = 5 * y + 3) J J3 := by
        rw [hJ3, up_up]
        refine FZ6.tr ⟨k8.1, k8.2.1, fun k hk => k8.2.2 k (fun e => hk (by omega))⟩ (FZ6.up (by omega))
      have e35 : (z_up J1 60 (5 * x + 3) (J 60 (5 * x + 3))) 57 35 = zi P := by rw [up_cell (by decide)]; exact eP
      have e60 : (z_up J1 60 (5 * x + 3) (J 60 (5 * x + 3))) 60 (5 * x + 3) = J 60 (5 * x + 3) := up_same
      by_cases s : zi P = J 60 (5 * x + 3)
      · obtain ⟨w, I9, J9, q1, q2, q3, q4, q5, q6⟩ := ih (t + 1) (u + 1) (c) _ _ (by omega) (by omega) hA3 hq3
        have s1 : (z_up I1 15 x (f_T_choiceOrCost L1 0)) 15 x = I 15 x := by rw [up_same, g1, ex]; exact s
        have s2 : (z_up J1 60 (5 * x + 3) (J 60 (5 * x + 3))) 57 35 = (z_up J1 60 (5 * x + 3) (J 60 (5 * x + 3))) 60 (5 * x + 3) := by rw [e35, e60]; exact s
        refine ⟨w, I9, J9, fun v7 v8 c7 c8 => wp_T_even_44 _ _ _ _ _ _ v7 c7 v8 c8 hS ?_, fun v9 v10 c9 c10 => wp_Z_even_57 _ _ _ _ _ _ _ _ v9 c9 v10 c10 hS ?_, fc.tr q3, fz.tr q4, q5, q6⟩
        · rw [zi_nat (show x < _ by omega), zi_nat (show y < _ by omega)]
          exact ⟨fun h => absurd h a, fun _ => ⟨fun h => absurd h b, fun _ => ⟨fun h => absurd p h, fun _ => ⟨zi_inr (by omega) (by omega), fun y26_ e1 => (by subst e1; exact ⟨L1, I1, k1.deep (by omega), ⟨zi_inr (by omega) (by omega), fun I31_ e2 => (by subst e2; exact ⟨zi_inr (by omega) (by omega), ⟨fun h => absurd s1 h, fun _ => fun y36_ e3 => (by subst e3; exact fun y37_ e4 => (by subst e4; exact (by rw [zi1 t, zi1 u, g1]; exact q1 _ _ rfl rfl)))⟩⟩)⟩⟩)⟩⟩⟩⟩
        · rw [show (5 : Int32) * zi x + 3 = zi (5 * x + 3) from z51 x 3, show (5 : Int32) * zi y + 3 = zi (5 * y + 3) from z51 y 3, zi_nat (show 5 * x + 3 < _ by omega), zi_nat (show 5 * y + 3 < _ by omega)]
          exact ⟨fun h => absurd h a, fun _ => ⟨fun h => absurd h b, fun _ => ⟨fun h => absurd p h, fun _ => ⟨_, k2, ⟨zi_inr (by omega) (by omega), ⟨fun h => absurd s2 h, fun _ => fun y43_ e1 => (by subst e1; exact fun y44_ e2 => (by subst e2; exact ⟨zi_inr (by omega) (by omega), fun I46_ e3 => (by subst e3; exact fun y47_ e4 => (by subst e4; exact (by rw [zi1 t, zi1 u, Int32.add_zero, e35, ← hJ3]; exact q2 _ _ rfl rfl)))⟩))⟩⟩⟩⟩⟩⟩
      · obtain ⟨w, I9, J9, q1, q2, q3, q4, q5, q6⟩ := ih (t + 1) (0) (c + 1) _ _ (by omega) (by omega) hA3 hq3
        have s1 : ¬ (z_up I1 15 x (f_T_choiceOrCost L1 0)) 15 x = I 15 x := by rw [up_same, g1, ex]; exact s
        have s2 : ¬ (z_up J1 60 (5 * x + 3) (J 60 (5 * x + 3))) 57 35 = (z_up J1 60 (5 * x + 3) (J 60 (5 * x + 3))) 60 (5 * x + 3) := by rw [e35, e60]; exact s
        refine ⟨w, I9, J9, fun v7 v8 c7 c8 => wp_T_even_44 _ _ _ _ _ _ v7 c7 v8 c8 hS ?_, fun v9 v10 c9 c10 => wp_Z_even_57 _ _ _ _ _ _ _ _ v9 c9 v10 c10 hS ?_, fc.tr q3, fz.tr q4, q5, q6⟩
        · rw [zi_nat (show x < _ by omega), zi_nat (show y < _ by omega)]
          exact ⟨fun h => absurd h a, fun _ => ⟨fun h => absurd h b, fun _ => ⟨fun h => absurd p h, fun _ => ⟨zi_inr (by omega) (by omega), fun y26_ e1 => (by subst e1; exact ⟨L1, I1, k1.deep (by omega), ⟨zi_inr (by omega) (by omega), fun I31_ e2 => (by subst e2; exact ⟨zi_inr (by omega) (by omega), ⟨fun _ => fun y34_ e3 => (by subst e3; exact fun y35_ e4 => (by subst e4; exact (by rw [zi1 t, g1]; exact q1 _ _ rfl rfl))), fun h => absurd h s1⟩⟩)⟩⟩)⟩⟩⟩⟩
        · rw [show (5 : Int32) * zi x + 3 = zi (5 * x + 3) from z51 x 3, show (5 : Int32) * zi y + 3 = zi (5 * y + 3) from z51 y 3, zi_nat (show 5 * x + 3 < _ by omega), zi_nat (show 5 * y + 3 < _ by omega)]
          exact ⟨fun h => absurd h a, fun _ => ⟨fun h => absurd h b, fun _ => ⟨fun h => absurd p h, fun _ => ⟨_, k2, ⟨zi_inr (by omega) (by omega), ⟨fun _ => fun y39_ e1 => (by subst e1; exact ⟨zi_inr (by omega) (by omega), fun I41_ e2 => (by subst e2; exact fun y42_ e3 => (by subst e3; exact (by rw [zi1 t, e35, ← hJ3]; exact q2 _ _ rfl rfl)))⟩), fun h => absurd h s2⟩⟩⟩⟩⟩⟩
    · obtain ⟨I1, J1, L1, k1, k2, k3, k4, k5, k6, k7, k8⟩ := best_sim (X := X) (d := d) hS hn hy hA hq
      obtain ⟨-, g1, -⟩ := CT_end (by omega) k3 k4
      have g1 := g1 0 rfl
      obtain ⟨P, hP, eP⟩ : ∃ P : Nat, P ≤ 16 ∧ J1 57 35 = zi P := by
        rcases k3 with ⟨-, e⟩ | ⟨P, c2, h1, h2, h3, h5, h6⟩
        · exact absurd e k4
        · exact ⟨P, by omega, h5⟩
      rw [eP] at g1
      have hA1 := k5.hasteUp (x := y) (h := P) hy hP
      obtain ⟨J3, hJ3⟩ : ∃ J3 : zI, J3 = z_up (z_up J1 60 (5 * y + 3) (J 60 (5 * y + 3))) 60 (5 * y + 3) (zi P) := ⟨_, rfl⟩
      have hA3 : AD 9 n r m G (z_up I1 15 y (zi P)) J3 := by rw [hJ3, up_up]; exact hA1
      have hq3 : J3 57 34 = -1 := by rw [hJ3, up_cell (by decide), up_cell (by decide), k8.2.1 34 (by omega)]; exact hq
      have fc : FC I (z_up I1 15 y (zi P)) := fun c a b e => by rw [up_cell (by omega), k6 c (by omega) b e]
      have fz : FZ6 (fun k => k = 5 * x + 3 ∨ k = 5 * y + 3) J J3 := by
        rw [hJ3, up_up]
        refine FZ6.tr ⟨k8.1, k8.2.1, fun k hk => k8.2.2 k (fun e => hk (by omega))⟩ (FZ6.up (by omega))
      have e35 : (z_up J1 60 (5 * y + 3) (J 60 (5 * y + 3))) 57 35 = zi P := by rw [up_cell (by decide)]; exact eP
      have e60 : (z_up J1 60 (5 * y + 3) (J 60 (5 * y + 3))) 60 (5 * y + 3) = J 60 (5 * y + 3) := up_same
      by_cases s : zi P = J 60 (5 * y + 3)
      · obtain ⟨w, I9, J9, q1, q2, q3, q4, q5, q6⟩ := ih (t + 1) (u + 1) (c) _ _ (by omega) (by omega) hA3 hq3
        have s1 : (z_up I1 15 y (f_T_choiceOrCost L1 0)) 15 y = I 15 y := by rw [up_same, g1, ey]; exact s
        have s2 : (z_up J1 60 (5 * y + 3) (J 60 (5 * y + 3))) 57 35 = (z_up J1 60 (5 * y + 3) (J 60 (5 * y + 3))) 60 (5 * y + 3) := by rw [e35, e60]; exact s
        refine ⟨w, I9, J9, fun v7 v8 c7 c8 => wp_T_even_44 _ _ _ _ _ _ v7 c7 v8 c8 hS ?_, fun v9 v10 c9 c10 => wp_Z_even_57 _ _ _ _ _ _ _ _ v9 c9 v10 c10 hS ?_, fc.tr q3, fz.tr q4, q5, q6⟩
        · rw [zi_nat (show x < _ by omega), zi_nat (show y < _ by omega)]
          exact ⟨fun h => absurd h a, fun _ => ⟨fun h => absurd h b, fun _ => ⟨fun _ => ⟨zi_inr (by omega) (by omega), fun y13_ e1 => (by subst e1; exact ⟨L1, I1, k1.deep (by omega), ⟨zi_inr (by omega) (by omega), fun I18_ e2 => (by subst e2; exact ⟨zi_inr (by omega) (by omega), ⟨fun h => absurd s1 h, fun _ => fun y23_ e3 => (by subst e3; exact fun y24_ e4 => (by subst e4; exact (by rw [zi1 t, zi1 u, g1]; exact q1 _ _ rfl rfl)))⟩⟩)⟩⟩)⟩, fun h => absurd h p⟩⟩⟩
        · rw [show (5 : Int32) * zi x + 3 = zi (5 * x + 3) from z51 x 3, show (5 : Int32) * zi y + 3 = zi (5 * y + 3) from z51 y 3, zi_nat (show 5 * x + 3 < _ by omega), zi_nat (show 5 * y + 3 < _ by omega)]
          exact ⟨fun h => absurd h a, fun _ => ⟨fun h => absurd h b, fun _ => ⟨fun _ => ⟨_, k2, ⟨zi_inr (by omega) (by omega), ⟨fun h => absurd s2 h, fun _ => fun y30_ e1 => (by subst e1; exact fun y31_ e2 => (by subst e2; exact ⟨zi_inr (by omega) (by omega), fun I33_ e3 => (by subst e3; exact fun y34_ e4 => (by subst e4; exact (by rw [zi1 t, zi1 u, Int32.add_zero, e35, ← hJ3]; exact q2 _ _ rfl rfl)))⟩))⟩⟩⟩, fun h => absurd h p⟩⟩⟩
      · obtain ⟨w, I9, J9, q1, q2, q3, q4, q5, q6⟩ := ih (t + 1) (0) (c + 1) _ _ (by omega) (by omega) hA3 hq3
        have s1 : ¬ (z_up I1 15 y (f_T_choiceOrCost L1 0)) 15 y = I 15 y := by rw [up_same, g1, ey]; exact s
        have s2 : ¬ (z_up J1 60 (5 * y + 3) (J 60 (5 * y + 3))) 57 35 = (z_up J1 60 (5 * y + 3) (J 60 (5 * y + 3))) 60 (5 * y + 3) := by rw [e35, e60]; exact s
        refine ⟨w, I9, J9, fun v7 v8 c7 c8 => wp_T_even_44 _ _ _ _ _ _ v7 c7 v8 c8 hS ?_, fun v9 v10 c9 c10 => wp_Z_even_57 _ _ _ _ _ _ _ _ v9 c9 v10 c10 hS ?_, fc.tr q3, fz.tr q4, q5, q6⟩
        · rw [zi_nat (show x < _ by omega), zi_nat (show y < _ by omega)]
          exact ⟨fun h => absurd h a, fun _ => ⟨fun h => absurd h b, fun _ => ⟨fun _ => ⟨zi_inr (by omega) (by omega), fun y13_ e1 => (by subst e1; exact ⟨L1, I1, k1.deep (by omega), ⟨zi_inr (by omega) (by omega), fun I18_ e2 => (by subst e2; exact ⟨zi_inr (by omega) (by omega), ⟨fun _ => fun y21_ e3 => (by subst e3; exact fun y22_ e4 => (by subst e4; exact (by rw [zi1 t, g1]; exact q1 _ _ rfl rfl))), fun h => absurd h s1⟩⟩)⟩⟩)⟩, fun h => absurd h p⟩⟩⟩
        · rw [show (5 : Int32) * zi x + 3 = zi (5 * x + 3) from z51 x 3, show (5 : Int32) * zi y + 3 = zi (5 * y + 3) from z51 y 3, zi_nat (show 5 * x + 3 < _ by omega), zi_nat (show 5 * y + 3 < _ by omega)]
          exact ⟨fun h => absurd h a, fun _ => ⟨fun h => absurd h b, fun _ => ⟨fun _ => ⟨_, k2, ⟨zi_inr (by omega) (by omega), ⟨fun _ => fun y26_ e1 => (by subst e1; exact ⟨zi_inr (by omega) (by omega), fun I28_ e2 => (by subst e2; exact fun y29_ e3 => (by subst e3; exact (by rw [zi1 t, e35, ← hJ3]; exact q2 _ _ rfl rfl)))⟩), fun h => absurd h s2⟩⟩⟩, fun h => absurd h p⟩⟩⟩
theorem q_even (x1 x2 x3 : Int32) : Quiet 91 185 [.int x1, .int x2, .int x3] := by
  intro X n m G I J R
  have hS := R.S
  have hn := R.H.le
  have es := two_eq R.H x1 x2
  by_cases hs : f_T_areTwo I x1 x2 = 0
  · exact ⟨_, I, J, Cv.of hq_91 (z_le rfl) rfl (wp_T_even _ _ _ (by omega) hS ⟨fun h => absurd hs h, fun _ => rfl⟩), Cv.of hq_185 (z_le rfl) rfl (wp_Z_even _ _ _ (by omega) hS ⟨fun h => absurd (es.trans hs) h, fun _ => rfl⟩), FC.rf, FZ.rf⟩
  have hs' : ¬ f_Z_areTwo J x1 x2 = 0 := fun h => hs (es.symm.trans h)
  by_cases h3 : f_T_within x3 0 1 = 0
  · exact ⟨_, I, J, Cv.of hq_91 (z_le rfl) rfl (wp_T_even _ _ _ (by omega) hS ⟨fun _ => ⟨fun h => absurd h3 h, fun _ => rfl⟩, fun h => absurd h hs⟩), Cv.of hq_185 (z_le rfl) rfl (wp_Z_even _ _ _ (by omega) hS ⟨fun _ => ⟨fun h => absurd h3 h, fun _ => rfl⟩, fun h => absurd h hs'⟩), FC.rf, FZ.rf⟩
  obtain ⟨x, y, hx, hy, hxy, rfl, rfl⟩ := two_spec R.H hs
  obtain ⟨r, I0, c0, f0, hA, -⟩ := think (X := X) (d := 98) R
  obtain ⟨w, I1, J1, q1, q2, q3, q4, q5, q6⟩ := even_loop (X := X) (d := 91) hS hn hx hy hxy x3 (J 60 (5 * x + 3)) (J 60 (5 * y + 3)) 20 0 0 0 I0 J (by omega) (by omega) hA R.q
  refine ⟨.int w, I1, J1, Cv.of hq_91 (z_le rfl) rfl (wp_T_even _ _ _ (by omega) hS ⟨fun _ => ⟨fun _ => ⟨I0, c0, (q1 _ _ rfl rfl)⟩, fun h => absurd h h3⟩, fun h => absurd h hs⟩), Cv.of hq_185 (z_le rfl) rfl (wp_Z_even _ _ _ (by omega) hS ?_), f0.tr q3, q4.back (fun k hk => by
    rcases hk with rfl | rfl
    · exact q5
    · exact q6)⟩
  rw [show (5 : Int32) * zi x + 3 = zi (5 * x + 3) from z51 x 3, show (5 : Int32) * zi y + 3 = zi (5 * y + 3) from z51 y 3, zi_nat (show 5 * x + 3 < _ by omega), zi_nat (show 5 * y + 3 < _ by omega)]
  exact ⟨fun _ => ⟨fun _ => ⟨zi_inr (by omega) (by omega), fun y4_ e1 => (by subst e1; exact ⟨zi_inr (by omega) (by omega), fun y6_ e2 => (by subst e2; exact (q2 _ _ rfl rfl))⟩)⟩, fun h => absurd h h3⟩, fun h => absurd h hs'⟩
