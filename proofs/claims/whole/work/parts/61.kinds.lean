def FZk (x : Nat) (J J1 : zI) : Prop := (∀ c, c ≠ 57 → c ≠ 58 → c ≠ 59 → ¬ (71 ≤ c ∧ c ≤ 79) → J1 c = J c) ∧ (∀ k, (k < 18 ∨ k = 34) → J1 57 k = J 57 k) ∧ ∀ y, y ≠ x → J1 58 y = J 58 y ∧ J1 59 y = J 59 y
theorem FZk.tr {x : Nat} {J J1 J2 : zI} (h : FZk x J J1) (h2 : FZk x J1 J2) : FZk x J J2 := ⟨fun c a b e f => (h2.1 c a b e f).trans (h.1 c a b e f), fun k a => (h2.2.1 k a).trans (h.2.1 k a), fun y e => ⟨(h2.2.2 y e).1.trans (h.2.2 y e).1, (h2.2.2 y e).2.trans (h.2.2 y e).2⟩⟩
theorem FZ.k {x : Nat} {J J1 : zI} (h : FZ J J1) : FZk x J J1 := ⟨fun c a _ _ e => h.1 c a e, h.2, fun y _ => by rw [h.1 58 (by omega) (by omega), h.1 59 (by omega) (by omega)]; exact ⟨rfl, rfl⟩⟩
theorem FZk.up58 {x : Nat} {J : zI} {v : Int32} : FZk x J (z_up J 58 x v) := ⟨fun c _ a _ _ => up_cell a, fun k _ => by rw [up_cell (by decide)], fun y e => ⟨up_place e, by rw [up_cell (by decide)]⟩⟩
theorem FZk.up59 {x : Nat} {J : zI} {v : Int32} : FZk x J (z_up J 59 x v) := ⟨fun c _ _ a _ => up_cell a, fun k _ => by rw [up_cell (by decide)], fun y e => ⟨by rw [up_cell (by decide)], up_place e⟩⟩
theorem FZk.back {x : Nat} {J J1 : zI} (h : FZk x J J1) (h1 : J1 58 x = J 58 x) (h2 : J1 59 x = J 59 x) : FZ J J1 := by
  refine ⟨fun c a b => ?_, h.2.1⟩
  by_cases e : c = 58
  · subst e
    funext y
    by_cases q : y = x
    · rw [q]; exact h1
    · exact (h.2.2 y q).1
  by_cases e2 : c = 59
  · subst e2
    funext y
    by_cases q : y = x
    · rw [q]; exact h2
    · exact (h.2.2 y q).2
  exact h.1 c a e e2 b
theorem kindA_loop {X : Nat × (Nat → Int32)} {d : Nat} {G : zG} (hS : SG G) {n r0 m s c x : Nat} (hn : n ≤ 4) (hx : x < n) {x3 : Int32} (h3 : x3 = 0) (h4 : ¬ x3 = 1) (wk wm : Int32) :
    ∀ (j k : Nat) (I J : zI) (acc : Int32), k + j = 6 → AD 9 n r0 m G I J → J 57 34 = -1 → SHk I J s c → J 59 x = wm →
    ∃ (w : Int32) (I1 J1 : zI), Ev X (d + 9) 107 58 [.ref 0, .int (zi s), .int (zi x), .int x3, .int 0, .int 6, .int acc, .int (zi k)] [] G I (some (.int w), G, I1) ∧ Ev X (d + 9) 197 50 [.ref 57, .int (zi s), .int (zi x), .int x3, .int 0, .int wk, .int wm, .int acc, .int (zi k)] [] G J (some (.int w), G, J1) ∧ FC I I1 ∧ FZk x J J1 ∧ J1 58 x = wk ∧ J1 59 x = wm := by
  intro j
  induction j with
  | zero =>
    intro k I J acc hk hA hq hs hwk
    obtain rfl : k = 6 := by omega
    refine ⟨acc, I, z_up (z_up J 58 x wk) 59 x wm, wp_T_kinds_58 _ _ _ _ _ _ _ hS ⟨fun _ => rfl, fun h => absurd (by decide) h⟩, wp_Z_kinds_50 _ _ _ _ _ _ _ _ hS ?_, FC.rf, FZk.up58.tr FZk.up59, by rw [up_cell (by decide), up_same], up_same⟩
    rw [zi_nat (show x < _ by omega)]
    exact ⟨fun h => absurd h3 h, fun _ => ⟨fun _ => ⟨zi_inr (by omega) (by omega), fun I56_ e1 => (by subst e1; exact ⟨zi_inr (by omega) (by omega), fun I58_ e2 => (by subst e2; exact rfl)⟩)⟩, fun h => absurd (by decide) h⟩⟩
  | succ j ih =>
    intro k I J acc hk hA hq hs hwk
    have nh : ¬ (6 : Int32) ≤ zi k := fun e => absurd ((zi_le (a := 6) (by omega) (by omega)).1 e) (by omega)
    have hA3 := hA.kindUp (x := x) (h := k) hx (by omega)
    have hw : (z_up J 58 x (zi k)) 59 x = wm := by rw [up_cell (by decide)]; exact hwk
    obtain ⟨r, I4, J6, k1, k2, k3, k4⟩ := shown_sim (X := X) (d := d) hS (b := k) hn hx hA3 (by rw [up_cell (by decide)]; exact hq) (hs.fr (fun c _ _ => up_cell (by omega)) (up_cell (by decide)) (up_cell (by decide)))
    have hA6 := hA3.fr (by omega) k3 k4
    have hq6 : J6 57 34 = -1 := by rw [k4 57 (by omega), up_cell (by decide)]; exact hq
    have hk6 : SHk I4 J6 s c := hs.fr (fun c _ _ => by rw [k3.F (by omega), up_cell (by omega)]) (by rw [k4 66 (by omega), up_cell (by decide)]) (by rw [k4 67 (by omega), up_cell (by decide)])
    have hw6 : J6 59 x = wm := by rw [k4 59 (by omega), up_cell (by decide)]; exact hwk
    have fc : FC I I4 := fun c a b e => by rw [k3 c b e, up_cell (by omega)]
    have fz : FZk x J J6 := FZk.up58.tr (FrR.Z k4).k
    by_cases hr : r = -1
    · obtain ⟨w, I9, J9, q1, q2, q3, q4, q5, q6⟩ := ih (k + 1) I4 J6 (acc ||| (1 <<< (zi k &&& 31))) (by omega) hA6 hq6 hk6 hw6
      refine ⟨w, I9, J9, wp_T_kinds_58 _ _ _ _ _ _ _ hS ?_, wp_Z_kinds_50 _ _ _ _ _ _ _ _ hS ?_, fc.tr q3, fz.tr q4, q5, q6⟩
      · rw [zi_nat (show x < _ by omega)]
        exact ⟨fun h => absurd h nh, fun _ => ⟨fun h => absurd h3 h, fun _ => ⟨zi_inr (by omega) (by omega), fun I11_ e1 => (by subst e1; exact ⟨_, I4, k1, fun y15_ e2 => (by subst e2; exact fun y16_ e3 => (by subst e3; exact (by rw [zi1 k, if_pos hr]; exact q1)))⟩)⟩⟩⟩
      · rw [zi_nat (show x < _ by omega)]
        exact ⟨fun h => absurd h3 h, fun _ => ⟨fun h => absurd h nh, fun _ => ⟨fun h => absurd h3 h, fun _ => ⟨zi_inr (by omega) (by omega), fun I84_ e1 => (by subst e1; exact ⟨fun _ => ⟨zi_inr (by omega) (by omega), fun I87_ e2 => (by subst e2; exact ⟨r, J6, (by rw [up_id hw]; exact k2), ⟨fun h => absurd hr h, fun _ => fun y94_ e3 => (by subst e3; exact fun y95_ e4 => (by subst e4; exact (by rw [zi1 k]; exact q2)))⟩⟩)⟩, fun h => absurd h h4⟩)⟩⟩⟩⟩
    · obtain ⟨w, I9, J9, q1, q2, q3, q4, q5, q6⟩ := ih (k + 1) I4 J6 (acc) (by omega) hA6 hq6 hk6 hw6
      refine ⟨w, I9, J9, wp_T_kinds_58 _ _ _ _ _ _ _ hS ?_, wp_Z_kinds_50 _ _ _ _ _ _ _ _ hS ?_, fc.tr q3, fz.tr q4, q5, q6⟩
      · rw [zi_nat (show x < _ by omega)]
        exact ⟨fun h => absurd h nh, fun _ => ⟨fun h => absurd h3 h, fun _ => ⟨zi_inr (by omega) (by omega), fun I11_ e1 => (by subst e1; exact ⟨_, I4, k1, fun y15_ e2 => (by subst e2; exact fun y16_ e3 => (by subst e3; exact (by rw [zi1 k, if_neg hr, Int32.or_zero]; exact q1)))⟩)⟩⟩⟩
      · rw [zi_nat (show x < _ by omega)]
        exact ⟨fun h => absurd h3 h, fun _ => ⟨fun h => absurd h nh, fun _ => ⟨fun h => absurd h3 h, fun _ => ⟨zi_inr (by omega) (by omega), fun I84_ e1 => (by subst e1; exact ⟨fun _ => ⟨zi_inr (by omega) (by omega), fun I87_ e2 => (by subst e2; exact ⟨r, J6, (by rw [up_id hw]; exact k2), ⟨fun _ => fun y92_ e3 => (by subst e3; exact fun y93_ e4 => (by subst e4; exact (by rw [zi1 k, Int32.or_zero]; exact q2))), fun h => absurd h hr⟩⟩)⟩, fun h => absurd h h4⟩)⟩⟩⟩⟩
theorem kindB_loop {X : Nat × (Nat → Int32)} {d : Nat} {G : zG} (hS : SG G) {n r0 m s c x : Nat} (hn : n ≤ 4) (hx : x < n) {x3 : Int32} (h3 : ¬ x3 = 0) (h4 : x3 = 1) (wk wm : Int32) :
    ∀ (j k : Nat) (I J : zI) (acc : Int32), k + j = 10 → AD 9 n r0 m G I J → J 57 34 = -1 → SHk I J s c → J 58 x = wk →
    ∃ (w : Int32) (I1 J1 : zI), Ev X (d + 9) 107 58 [.ref 0, .int (zi s), .int (zi x), .int x3, .int 0, .int 10, .int acc, .int (zi k)] [] G I (some (.int w), G, I1) ∧ Ev X (d + 9) 197 50 [.ref 57, .int (zi s), .int (zi x), .int x3, .int 0, .int wk, .int wm, .int acc, .int (zi k)] [] G J (some (.int w), G, J1) ∧ FC I I1 ∧ FZk x J J1 ∧ J1 58 x = wk ∧ J1 59 x = wm := by
  intro j
  induction j with
  | zero =>
    intro k I J acc hk hA hq hs hwk
    obtain rfl : k = 10 := by omega
    refine ⟨acc, I, z_up (z_up J 58 x wk) 59 x wm, wp_T_kinds_58 _ _ _ _ _ _ _ hS ⟨fun _ => rfl, fun h => absurd (by decide) h⟩, wp_Z_kinds_50 _ _ _ _ _ _ _ _ hS ?_, FC.rf, FZk.up58.tr FZk.up59, by rw [up_cell (by decide), up_same], up_same⟩
    rw [zi_nat (show x < _ by omega)]
    exact ⟨fun _ => ⟨fun _ => ⟨zi_inr (by omega) (by omega), fun I4_ e1 => (by subst e1; exact ⟨zi_inr (by omega) (by omega), fun I6_ e2 => (by subst e2; exact rfl)⟩)⟩, fun h => absurd (by decide) h⟩, fun h => absurd h h3⟩
  | succ j ih =>
    intro k I J acc hk hA hq hs hwk
    have nh : ¬ (10 : Int32) ≤ zi k := fun e => absurd ((zi_le (a := 10) (by omega) (by omega)).1 e) (by omega)
    have hA3 := hA.moreUp (x := x) (h := k) hx (by omega)
    have hw : J 58 x = wk := hwk
    obtain ⟨r, I4, J6, k1, k2, k3, k4⟩ := shown_sim (X := X) (d := d) hS (b := k) hn hx hA3 (by rw [up_cell (by decide)]; exact hq) (hs.fr (fun c _ _ => up_cell (by omega)) (up_cell (by decide)) (up_cell (by decide)))
    have hA6 := hA3.fr (by omega) k3 k4
    have hq6 : J6 57 34 = -1 := by rw [k4 57 (by omega), up_cell (by decide)]; exact hq
    have hk6 : SHk I4 J6 s c := hs.fr (fun c _ _ => by rw [k3.F (by omega), up_cell (by omega)]) (by rw [k4 66 (by omega), up_cell (by decide)]) (by rw [k4 67 (by omega), up_cell (by decide)])
    have hw6 : J6 58 x = wk := by rw [k4 58 (by omega), up_cell (by decide)]; exact hwk
    have fc : FC I I4 := fun c a b e => by rw [k3 c b e, up_cell (by omega)]
    have fz : FZk x J J6 := FZk.up59.tr (FrR.Z k4).k
    by_cases hr : r = -1
    · obtain ⟨w, I9, J9, q1, q2, q3, q4, q5, q6⟩ := ih (k + 1) I4 J6 (acc ||| (1 <<< (zi k &&& 31))) (by omega) hA6 hq6 hk6 hw6
      refine ⟨w, I9, J9, wp_T_kinds_58 _ _ _ _ _ _ _ hS ?_, wp_Z_kinds_50 _ _ _ _ _ _ _ _ hS ?_, fc.tr q3, fz.tr q4, q5, q6⟩
      · rw [zi_nat (show x < _ by omega)]
        exact ⟨fun h => absurd h nh, fun _ => ⟨fun _ => ⟨zi_inr (by omega) (by omega), fun I4_ e1 => (by subst e1; exact ⟨_, I4, k1, fun y8_ e2 => (by subst e2; exact fun y9_ e3 => (by subst e3; exact (by rw [zi1 k, if_pos hr]; exact q1)))⟩)⟩, fun h => absurd h h3⟩⟩
      · rw [zi_nat (show x < _ by omega)]
        exact ⟨fun _ => ⟨fun h => absurd h nh, fun _ => ⟨fun _ => ⟨zi_inr (by omega) (by omega), fun I9_ e1 => (by subst e1; exact ⟨fun h => absurd h4 h, fun _ => ⟨zi_inr (by omega) (by omega), fun I22_ e2 => (by subst e2; exact ⟨r, J6, (by rw [up_id hw]; exact k2), ⟨fun h => absurd hr h, fun _ => fun y29_ e3 => (by subst e3; exact fun y30_ e4 => (by subst e4; exact (by rw [zi1 k]; exact q2)))⟩⟩)⟩⟩)⟩, fun h => absurd h h3⟩⟩, fun h => absurd h h3⟩
    · obtain ⟨w, I9, J9, q1, q2, q3, q4, q5, q6⟩ := ih (k + 1) I4 J6 (acc) (by omega) hA6 hq6 hk6 hw6
      refine ⟨w, I9, J9, wp_T_kinds_58 _ _ _ _ _ _ _ hS ?_, wp_Z_kinds_50 _ _ _ _ _ _ _ _ hS ?_, fc.tr q3, fz.tr q4, q5, q6⟩
      · rw [zi_nat (show x < _ by omega)]
        exact ⟨fun h => absurd h nh, fun _ => ⟨fun _ => ⟨zi_inr (by omega) (by omega), fun I4_ e1 => (by subst e1; exact ⟨_, I4, k1, fun y8_ e2 => (by subst e2; exact fun y9_ e3 => (by subst e3; exact (by rw [zi1 k, if_neg hr, Int32.or_zero]; exact q1)))⟩)⟩, fun h => absurd h h3⟩⟩
      · rw [zi_nat (show x < _ by omega)]
        exact ⟨fun _ => ⟨fun h => absurd h nh, fun _ => ⟨fun _ => ⟨zi_inr (by omega) (by omega), fun I9_ e1 => (by subst e1; exact ⟨fun h => absurd h4 h, fun _ => ⟨zi_inr (by omega) (by omega), fun I22_ e2 => (by subst e2; exact ⟨r, J6, (by rw [up_id hw]; exact k2), ⟨fun _ => fun y27_ e3 => (by subst e3; exact fun y28_ e4 => (by subst e4; exact (by rw [zi1 k, Int32.or_zero]; exact q2))), fun h => absurd h hr⟩⟩)⟩⟩)⟩, fun h => absurd h h3⟩⟩, fun h => absurd h h3⟩
theorem q_kinds (x1 x2 x3 : Int32) : Quiet 107 197 [.int x1, .int x2, .int x3] := by
  intro X n m G I J R
  have hS := R.S
  have hn := R.H.le
  obtain ⟨v, c1, c2, h⟩ := told_sim (X := X) (d := 96) R x1 x2
  by_cases hv : v = 0
  · obtain ⟨s, k, x, rfl, hk, rfl, hx⟩ := h hv
    subst hv
    by_cases h1 : f_T_within x3 0 1 = 0
    · exact ⟨.int (-7), I, J, Cv.of hq_107 (z_le rfl) rfl (wp_T_kinds _ _ _ hS ⟨0, I, c1, ⟨fun _ => ⟨fun h => absurd h1 h, fun _ => rfl⟩, fun h => absurd rfl h⟩⟩), Cv.of hq_197 (z_le rfl) rfl (wp_Z_kinds _ _ _ hS ⟨0, J, c2, ⟨fun _ => ⟨fun h => absurd h1 h, fun _ => rfl⟩, fun h => absurd rfl h⟩⟩), FC.rf, FZ.rf⟩
    obtain ⟨r, I0, c0, f0, hA, f00⟩ := think (X := X) (d := 98) R
    have hk0 : SHk I0 J s k := hk.fr (fun c _ _ => f00 c (by omega)) rfl rfl
    have s01 : x3 = 0 ∨ x3 = 1 := by
      obtain ⟨q, -, q2, rfl⟩ := wi_spec (a := 0) (b := 1) (by omega) (by omega) h1
      have : q = 0 ∨ q = 1 := by omega
      rcases this with rfl | rfl
      · exact Or.inl rfl
      · exact Or.inr rfl
    by_cases h3 : x3 = 0
    · obtain ⟨w, I1, J1, q1, q2, q3, q4, q5, q6⟩ := kindA_loop (X := X) (d := 91) hS hn hx h3 (by rw [h3]; decide) (J 58 x) (J 59 x) 6 0 I0 J 0 (by omega) hA R.q hk0 rfl
      refine ⟨.int w, I1, J1, Cv.of hq_107 (z_le rfl) rfl (wp_T_kinds _ _ _ hS ⟨0, I, c1, ⟨fun _ => ⟨fun _ => ⟨fun h => absurd h3 h, fun _ => ⟨I0, c0, q1⟩⟩, fun h => absurd h h1⟩, fun h => absurd rfl h⟩⟩), Cv.of hq_197 (z_le rfl) rfl (wp_Z_kinds _ _ _ hS ?_), f0.tr q3, q4.back q5 q6⟩
      rw [zi_nat (show x < _ by omega)]
      exact ⟨0, J, c2, ⟨fun _ => ⟨fun _ => ⟨zi_inr (by omega) (by omega), fun y7_ e1 => (by subst e1; exact ⟨zi_inr (by omega) (by omega), fun y9_ e2 => (by subst e2; exact q2)⟩)⟩, fun h => absurd h h1⟩, fun h => absurd rfl h⟩⟩
    · obtain ⟨w, I1, J1, q1, q2, q3, q4, q5, q6⟩ := kindB_loop (X := X) (d := 91) hS hn hx h3 (s01.resolve_left h3) (J 58 x) (J 59 x) 10 0 I0 J 0 (by omega) hA R.q hk0 rfl
      refine ⟨.int w, I1, J1, Cv.of hq_107 (z_le rfl) rfl (wp_T_kinds _ _ _ hS ⟨0, I, c1, ⟨fun _ => ⟨fun _ => ⟨fun _ => ⟨I0, c0, q1⟩, fun h => absurd h h3⟩, fun h => absurd h h1⟩, fun h => absurd rfl h⟩⟩), Cv.of hq_197 (z_le rfl) rfl (wp_Z_kinds _ _ _ hS ?_), f0.tr q3, q4.back q5 q6⟩
      rw [zi_nat (show x < _ by omega)]
      exact ⟨0, J, c2, ⟨fun _ => ⟨fun _ => ⟨zi_inr (by omega) (by omega), fun y7_ e1 => (by subst e1; exact ⟨zi_inr (by omega) (by omega), fun y9_ e2 => (by subst e2; exact q2)⟩)⟩, fun h => absurd h h1⟩, fun h => absurd rfl h⟩⟩
  · exact ⟨.int v, I, J, Cv.of hq_107 (z_le rfl) rfl (wp_T_kinds _ _ _ hS ⟨v, I, c1, ⟨fun h => absurd h hv, fun _ => rfl⟩⟩), Cv.of hq_197 (z_le rfl) rfl (wp_Z_kinds _ _ _ hS ⟨v, J, c2, ⟨fun h => absurd h hv, fun _ => rfl⟩⟩), FC.rf, FZ.rf⟩
theorem laws_loop {X : Nat × (Nat → Int32)} {d : Nat} {G : zG} (hS : SG G) {n m s c x : Nat} (hn : n ≤ 4) (hm : m ≤ 6) (hx : x < n) (was : Int32) :
    ∀ (j k r0 : Nat) (I J : zI) (acc : Int32), k + j = m → AD 9 n r0 m G I J → J 57 34 = -1 → SHk I J s c →
    ∃ (w : Int32) (I1 J1 : zI), Ev X (d + 9) 108 30 [.ref 0, .int (zi s), .int (zi x), .int 0, .int acc, .int (zi k)] [] G I (some (.int w), G, I1) ∧ Ev X (d + 9) 198 25 [.ref 57, .int (zi s), .int (zi x), .int 0, .int was, .int acc, .int (zi k)] [] G J (some (.int w), G, J1) ∧ FC I I1 ∧ (∀ c, c ≠ 57 → ¬ (71 ≤ c ∧ c ≤ 79) → J1 c = J c) ∧ (∀ k, (k < 18 ∨ k = 34) → k ≠ 9 → J1 57 k = J 57 k) ∧ J1 57 9 = was := by
  intro j
  induction j with
  | zero =>
    intro k r0 I J acc hk hA hq hs
    obtain rfl : k = m := by omega
    refine ⟨acc, I, z_up J 57 9 was, wp_T_laws_30 _ _ _ _ _ hS ⟨fun _ => rfl, fun h => absurd (by rw [hA.2.2.2.2.2.2.1]; exact Int32.le_refl _) h⟩, wp_Z_laws_25 _ _ _ _ _ _ hS ⟨fun _ I2 h2 => by rw [h2], fun h => absurd (by rw [hA.2.2.2.2.2.2.2.1]; exact Int32.le_refl _) h⟩, FC.rf, fun c a _ => up_cell a, fun q _ a => up_place a, up_same⟩
  | succ j ih =>
    intro k r0 I J acc hk hA hq hs
    have nx : ¬ zi m ≤ zi k := fun h => absurd ((zi_le (by omega) (by omega)).1 h) (by omega)
    have hA3 : AD 9 n k m G (z_up I 9 8 (zi k)) (z_up J 57 9 (zi k)) := by
      obtain ⟨a, b, e, f, g⟩ := hA
      refine ⟨⟨a.le, by rw [up_place (by decide)]; exact a.ci, by rw [up_place (by decide)]; exact a.cj, fun y hy => ?_⟩, by omega, up_same, up_same, g.fr (by rw [up_cell (by decide)]) (by rw [up_place (by decide)]) (fun c _ _ => up_cell (by omega)) (up_cell (by decide)) (up_cell (by decide))⟩
      have hX := a.at' y hy
      unfold RX at hX ⊢
      rw [up_cell (show 58 ≠ 57 by decide), up_cell (show 59 ≠ 57 by decide), up_cell (show 60 ≠ 57 by decide), up_cell (show 9 + 1 ≠ 9 by decide), up_cell (show 9 + 2 ≠ 9 by decide), up_cell (show 9 + 3 ≠ 9 by decide), up_cell (show 9 + 4 ≠ 9 by decide), up_cell (show 9 + 5 ≠ 9 by decide), up_cell (show 9 + 6 ≠ 9 by decide), up_cell (show 9 + 7 ≠ 9 by decide)]
      exact hX
    obtain ⟨r, I4, J6, k1, k2, k3, k4⟩ := shown_sim (X := X) (d := d) hS (b := k) hn hx hA3 (by rw [up_place (by decide)]; exact hq) (hs.fr (fun c _ _ => up_cell (by omega)) (up_cell (by decide)) (up_cell (by decide)))
    have hA6 := hA3.fr (by omega) k3 k4
    have hq6 : J6 57 34 = -1 := by rw [k4 57 (by omega), up_place (by decide)]; exact hq
    have hk6 : SHk I4 J6 s c := hs.fr (fun c _ _ => by rw [k3.F (by omega), up_cell (by omega)]) (by rw [k4 66 (by omega), up_cell (by decide)]) (by rw [k4 67 (by omega), up_cell (by decide)])
    have fc : FC I I4 := fun c a b e => by rw [k3 c b e, up_cell (by omega)]
    have fz : (∀ c, c ≠ 57 → ¬ (71 ≤ c ∧ c ≤ 79) → J6 c = J c) ∧ (∀ k, (k < 18 ∨ k = 34) → k ≠ 9 → J6 57 k = J 57 k) := ⟨fun c a b => by rw [k4 c (by omega), up_cell a], fun q _ b => by rw [k4 57 (by omega), up_place b]⟩
    by_cases hr : r = -1
    · obtain ⟨w, I9, J9, q1, q2, q3, q4, q5, q6⟩ := ih (k + 1) k I4 J6 (acc ||| (1 <<< (zi k &&& 31))) (by omega) hA6 hq6 hk6
      refine ⟨w, I9, J9, wp_T_laws_30 _ _ _ _ _ hS ?_, wp_Z_laws_25 _ _ _ _ _ _ hS ?_, fc.tr q3, fun c a b => (q4 c a b).trans (fz.1 c a b), fun q a b => (q5 q a b).trans (fz.2 q a b), q6⟩
      · rw [hA.2.2.2.2.2.2.1]
        exact ⟨fun h => absurd h nx, fun _ => fun I2_ e1 => (by subst e1; exact ⟨_, I4, k1, fun y6_ e2 => (by subst e2; exact fun y7_ e3 => (by subst e3; exact (by rw [zi1 k, if_pos hr]; exact q1)))⟩)⟩
      · rw [hA.2.2.2.2.2.2.2.1]
        exact ⟨fun h => absurd h nx, fun _ => fun I3_ e1 => (by subst e1; exact ⟨r, J6, k2, ⟨fun h => absurd hr h, fun _ => fun y10_ e2 => (by subst e2; exact fun y11_ e3 => (by subst e3; exact (by rw [zi1 k]; exact q2)))⟩⟩)⟩
    · obtain ⟨w, I9, J9, q1, q2, q3, q4, q5, q6⟩ := ih (k + 1) k I4 J6 (acc) (by omega) hA6 hq6 hk6
      refine ⟨w, I9, J9, wp_T_laws_30 _ _ _ _ _ hS ?_, wp_Z_laws_25 _ _ _ _ _ _ hS ?_, fc.tr q3, fun c a b => (q4 c a b).trans (fz.1 c a b), fun q a b => (q5 q a b).trans (fz.2 q a b), q6⟩
      · rw [hA.2.2.2.2.2.2.1]
        exact ⟨fun h => absurd h nx, fun _ => fun I2_ e1 => (by subst e1; exact ⟨_, I4, k1, fun y6_ e2 => (by subst e2; exact fun y7_ e3 => (by subst e3; exact (by rw [zi1 k, if_neg hr, Int32.or_zero]; exact q1)))⟩)⟩
      · rw [hA.2.2.2.2.2.2.2.1]
        exact ⟨fun h => absurd h nx, fun _ => fun I3_ e1 => (by subst e1; exact ⟨r, J6, k2, ⟨fun _ => fun y8_ e2 => (by subst e2; exact fun y9_ e3 => (by subst e3; exact (by rw [zi1 k, Int32.or_zero]; exact q2))), fun h => absurd h hr⟩⟩)⟩
theorem q_laws (x1 x2 : Int32) : Quiet 108 198 [.int x1, .int x2] := by
  intro X n m G I J R
  have hS := R.S
  have hn := R.H.le
  obtain ⟨v, c1, c2, h⟩ := told_sim (X := X) (d := 96) R x1 x2
  by_cases hv : v = 0
  · obtain ⟨s, k, x, rfl, hk, rfl, hx⟩ := h hv
    subst hv
    obtain ⟨r, I0, c0, f0, hA, f00⟩ := think (X := X) (d := 98) R
    have hk0 : SHk I0 J s k := hk.fr (fun c _ _ => f00 c (by omega)) rfl rfl
    obtain ⟨w, I1, J1, q1, q2, q3, q4, q5, q6⟩ := laws_loop (X := X) (d := 91) hS hn R.T.2.1 hx (J 57 9) m 0 r I0 J 0 (by omega) hA R.q hk0
    exact ⟨.int w, I1, J1, Cv.of hq_108 (z_le rfl) rfl (wp_T_laws _ _ hS ⟨0, I, c1, ⟨fun _ => ⟨I0, c0, q1⟩, fun h => absurd rfl h⟩⟩), Cv.of hq_198 (z_le rfl) rfl (wp_Z_laws _ _ hS ⟨0, J, c2, ⟨fun _ => fun y5_ e1 => (by subst e1; exact q2), fun h => absurd rfl h⟩⟩), f0.tr q3, ⟨q4, fun k hk => by
      by_cases e : k = 9
      · rw [e]; exact q6
      · exact q5 k hk e⟩⟩
  · exact ⟨.int v, I, J, Cv.of hq_108 (z_le rfl) rfl (wp_T_laws _ _ hS ⟨v, I, c1, ⟨fun h => absurd h hv, fun _ => rfl⟩⟩), Cv.of hq_198 (z_le rfl) rfl (wp_Z_laws _ _ hS ⟨v, J, c2, ⟨fun h => absurd h hv, fun _ => rfl⟩⟩), FC.rf, FZ.rf⟩
