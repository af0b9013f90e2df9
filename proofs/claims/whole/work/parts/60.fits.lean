/-! WHAT COULD BE, BY A SHEET -/
theorem up_id {J : zI} {a j : Nat} {v : Int32} (h : J a j = v) : z_up J a j v = J := by
  funext b k
  unfold z_up
  by_cases e : b = a ∧ k = j
  · rw [if_pos e, e.1, e.2, h]
  · rw [if_neg e]
theorem bit_or {acc r : Int32} {b : Nat} : acc ||| (if r = -1 then 1 <<< (zi b &&& 31) else 0) = if r = -1 then acc ||| (1 <<< (zi b &&& 31)) else acc := by
  by_cases h : r = -1
  · rw [if_pos h, if_pos h]
  · rw [if_neg h, if_neg h, Int32.or_zero]
theorem fitA_loop {X : Nat × (Nat → Int32)} {d : Nat} {G : zG} (hS : SG G) {n r0 m s c x : Nat} (hn : n ≤ 4) (hx : x < n) {x3 : Int32} (h3 : x3 = 0) (was : Int32) :
    ∀ (j k : Nat) (I J : zI) (acc : Int32), k + j = 5 → AD 9 n r0 m G I J → J 57 34 = -1 → SHk I J s c →
    ∃ (w : Int32) (I1 J1 : zI), Ev X (d + 9) 105 63 [.ref 0, .int (zi s), .int (zi x), .int x3, .int 0, .int 0, .int 4, .int acc, .int (zi k)] [] G I (some (.int w), G, I1) ∧ Ev X (d + 9) 196 52 [.ref 57, .int (zi s), .int (zi x), .int x3, .int 0, .int (zi (5 * x)), .int was, .int acc, .int (zi k)] [] G J (some (.int w), G, J1) ∧ FC I I1 ∧ FZ6 (fun q => q = 5 * x) J J1 ∧ J1 60 (5 * x) = was := by
  have hH := hS.H (o := 9) (by omega)
  intro j
  induction j with
  | zero =>
    intro k I J acc hk hA hq hs
    obtain rfl : k = 5 := by omega
    refine ⟨acc, I, z_up J 60 (5 * x) was, wp_T_fits_63 _ _ _ _ _ _ _ _ hS ⟨fun _ => rfl, fun h => absurd (by decide) h⟩, wp_Z_fits_52 _ _ _ _ _ _ _ _ hS ?_, FC.rf, FZ6.up rfl, up_same⟩
    rw [zi_nat (show 5 * x < _ by omega)]
    exact ⟨fun h => absurd h3 h, fun _ => ⟨fun _ => ⟨zi_inr (by omega) (by omega), fun I17_ e1 => (by subst e1; exact rfl)⟩, fun h => absurd (by decide) h⟩⟩
  | succ j ih =>
    intro k I J acc hk hA hq hs
    have nh : ¬ (4 : Int32) < zi k := fun e => absurd ((zi_lt (a := 4) (by omega) (by omega)).1 e) (by omega)
    have cc : Cv X (d + 8) 58 [.ref 9, .int (zi x), .int 0, .int (zi k)] G I (none, G, z_up I 12 x (zi k)) := Cv.of hq_58 (z_le rfl) rfl (wp_H_change 9 _ _ _ hH (by rw [zi_nat (show x < _ by omega)]; exact ⟨fun _ => ⟨zi_inr (by omega) (by omega), fun I3_ e1 => (by subst e1; exact rfl)⟩, fun h => absurd rfl h⟩))
    have hA3 := hA.lateUp (x := x) (h := k) hx (by omega)
    obtain ⟨r, I4, J6, k1, k2, k3, k4⟩ := shown_sim (X := X) (d := d) hS (b := k) hn hx hA3 (by rw [up_cell (by decide)]; exact hq) (hs.fr (fun c _ _ => up_cell (by omega)) (up_cell (by decide)) (up_cell (by decide)))
    have hA6 := hA3.fr (by omega) k3 k4
    have hq6 : J6 57 34 = -1 := by rw [k4 57 (by omega), up_cell (by decide)]; exact hq
    have hk6 : SHk I4 J6 s c := hs.fr (fun c _ _ => by rw [k3.F (by omega), up_cell (by omega)]) (by rw [k4 66 (by omega), up_cell (by decide)]) (by rw [k4 67 (by omega), up_cell (by decide)])
    have fc : FC I I4 := fun c a b e => by rw [k3 c b e, up_cell (by omega)]
    have fz : FZ6 (fun q => q = 5 * x) J J6 := (FZ6.up (p := fun q => q = 5 * x) rfl).tr (FrR.Z k4).six
    by_cases hr : r = -1
    · obtain ⟨w, I9, J9, q1, q2, q3, q4, q5⟩ := ih (k + 1) I4 J6 (acc ||| (1 <<< (zi k &&& 31))) (by omega) hA6 hq6 hk6
      refine ⟨w, I9, J9, wp_T_fits_63 _ _ _ _ _ _ _ _ hS ?_, wp_Z_fits_52 _ _ _ _ _ _ _ _ hS ?_, fc.tr q3, fz.tr q4, q5⟩
      · exact ⟨fun h => absurd h nh, fun _ => ⟨_, cc, ⟨_, I4, k1, fun y7_ e1 => (by subst e1; exact fun y8_ e2 => (by subst e2; exact (by rw [zi1 k, if_pos hr]; exact q1)))⟩⟩⟩
      · rw [zi_nat (show 5 * x < _ by omega)]
        exact ⟨fun h => absurd h3 h, fun _ => ⟨fun h => absurd h nh, fun _ => ⟨zi_inr (by omega) (by omega), fun I19_ e1 => (by subst e1; exact ⟨r, J6, k2, ⟨fun h => absurd hr h, fun _ => fun y26_ e2 => (by subst e2; exact fun y27_ e3 => (by subst e3; exact (by rw [zi1 k]; exact q2)))⟩⟩)⟩⟩⟩
    · obtain ⟨w, I9, J9, q1, q2, q3, q4, q5⟩ := ih (k + 1) I4 J6 (acc) (by omega) hA6 hq6 hk6
      refine ⟨w, I9, J9, wp_T_fits_63 _ _ _ _ _ _ _ _ hS ?_, wp_Z_fits_52 _ _ _ _ _ _ _ _ hS ?_, fc.tr q3, fz.tr q4, q5⟩
      · exact ⟨fun h => absurd h nh, fun _ => ⟨_, cc, ⟨_, I4, k1, fun y7_ e1 => (by subst e1; exact fun y8_ e2 => (by subst e2; exact (by rw [zi1 k, if_neg hr, Int32.or_zero]; exact q1)))⟩⟩⟩
      · rw [zi_nat (show 5 * x < _ by omega)]
        exact ⟨fun h => absurd h3 h, fun _ => ⟨fun h => absurd h nh, fun _ => ⟨zi_inr (by omega) (by omega), fun I19_ e1 => (by subst e1; exact ⟨r, J6, k2, ⟨fun _ => fun y24_ e2 => (by subst e2; exact fun y25_ e3 => (by subst e3; exact (by rw [zi1 k, Int32.or_zero]; exact q2))), fun h => absurd h hr⟩⟩)⟩⟩⟩
theorem fitB_loop {X : Nat × (Nat → Int32)} {d : Nat} {G : zG} (hS : SG G) {n r0 m s c x : Nat} (hn : n ≤ 4) (hx : x < n) {x3 : Int32} (h3 : ¬ x3 = 0) (was : Int32) :
    ∀ (j k : Nat) (I J : zI) (acc : Int32), k + j = 17 → AD 9 n r0 m G I J → J 57 34 = -1 → SHk I J s c →
    ∃ (w : Int32) (I1 J1 : zI), Ev X (d + 9) 105 63 [.ref 0, .int (zi s), .int (zi x), .int x3, .int 0, .int 3, .int 16, .int acc, .int (zi k)] [] G I (some (.int w), G, I1) ∧ Ev X (d + 9) 196 52 [.ref 57, .int (zi s), .int (zi x), .int x3, .int 0, .int (zi (5 * x + 3)), .int was, .int acc, .int (zi k)] [] G J (some (.int w), G, J1) ∧ FC I I1 ∧ FZ6 (fun q => q = 5 * x + 3) J J1 ∧ J1 60 (5 * x + 3) = was := by
  have hH := hS.H (o := 9) (by omega)
  intro j
  induction j with
  | zero =>
    intro k I J acc hk hA hq hs
    obtain rfl : k = 17 := by omega
    refine ⟨acc, I, z_up J 60 (5 * x + 3) was, wp_T_fits_63 _ _ _ _ _ _ _ _ hS ⟨fun _ => rfl, fun h => absurd (by decide) h⟩, wp_Z_fits_52 _ _ _ _ _ _ _ _ hS ?_, FC.rf, FZ6.up rfl, up_same⟩
    rw [zi_nat (show 5 * x + 3 < _ by omega)]
    exact ⟨fun _ => ⟨fun _ => ⟨zi_inr (by omega) (by omega), fun I4_ e1 => (by subst e1; exact rfl)⟩, fun h => absurd (by decide) h⟩, fun h => absurd h h3⟩
  | succ j ih =>
    intro k I J acc hk hA hq hs
    have nh : ¬ (16 : Int32) < zi k := fun e => absurd ((zi_lt (a := 16) (by omega) (by omega)).1 e) (by omega)
    have cc : Cv X (d + 8) 58 [.ref 9, .int (zi x), .int 3, .int (zi k)] G I (none, G, z_up I 15 x (zi k)) := Cv.of hq_58 (z_le rfl) rfl (wp_H_change 9 _ _ _ hH (by rw [zi_nat (show x < _ by omega)]; exact ⟨fun h => absurd h (by decide), fun _ => ⟨fun h => absurd h (by decide), fun _ => ⟨fun h => absurd h (by decide), fun _ => ⟨fun _ => ⟨zi_inr (by omega) (by omega), fun I12_ e1 => (by subst e1; exact rfl)⟩, fun h => absurd rfl h⟩⟩⟩⟩))
    have hA3 := hA.hasteUp (x := x) (h := k) hx (by omega)
    obtain ⟨r, I4, J6, k1, k2, k3, k4⟩ := shown_sim (X := X) (d := d) hS (b := k) hn hx hA3 (by rw [up_cell (by decide)]; exact hq) (hs.fr (fun c _ _ => up_cell (by omega)) (up_cell (by decide)) (up_cell (by decide)))
    have hA6 := hA3.fr (by omega) k3 k4
    have hq6 : J6 57 34 = -1 := by rw [k4 57 (by omega), up_cell (by decide)]; exact hq
    have hk6 : SHk I4 J6 s c := hs.fr (fun c _ _ => by rw [k3.F (by omega), up_cell (by omega)]) (by rw [k4 66 (by omega), up_cell (by decide)]) (by rw [k4 67 (by omega), up_cell (by decide)])
    have fc : FC I I4 := fun c a b e => by rw [k3 c b e, up_cell (by omega)]
    have fz : FZ6 (fun q => q = 5 * x + 3) J J6 := (FZ6.up (p := fun q => q = 5 * x + 3) rfl).tr (FrR.Z k4).six
    by_cases hr : r = -1
    · obtain ⟨w, I9, J9, q1, q2, q3, q4, q5⟩ := ih (k + 1) I4 J6 (acc ||| (1 <<< (zi k &&& 31))) (by omega) hA6 hq6 hk6
      refine ⟨w, I9, J9, wp_T_fits_63 _ _ _ _ _ _ _ _ hS ?_, wp_Z_fits_52 _ _ _ _ _ _ _ _ hS ?_, fc.tr q3, fz.tr q4, q5⟩
      · exact ⟨fun h => absurd h nh, fun _ => ⟨_, cc, ⟨_, I4, k1, fun y7_ e1 => (by subst e1; exact fun y8_ e2 => (by subst e2; exact (by rw [zi1 k, if_pos hr]; exact q1)))⟩⟩⟩
      · rw [zi_nat (show 5 * x + 3 < _ by omega)]
        exact ⟨fun _ => ⟨fun h => absurd h nh, fun _ => ⟨zi_inr (by omega) (by omega), fun I6_ e1 => (by subst e1; exact ⟨r, J6, k2, ⟨fun h => absurd hr h, fun _ => fun y13_ e2 => (by subst e2; exact fun y14_ e3 => (by subst e3; exact (by rw [zi1 k]; exact q2)))⟩⟩)⟩⟩, fun h => absurd h h3⟩
    · obtain ⟨w, I9, J9, q1, q2, q3, q4, q5⟩ := ih (k + 1) I4 J6 (acc) (by omega) hA6 hq6 hk6
      refine ⟨w, I9, J9, wp_T_fits_63 _ _ _ _ _ _ _ _ hS ?_, wp_Z_fits_52 _ _ _ _ _ _ _ _ hS ?_, fc.tr q3, fz.tr q4, q5⟩
      · exact ⟨fun h => absurd h nh, fun _ => ⟨_, cc, ⟨_, I4, k1, fun y7_ e1 => (by subst e1; exact fun y8_ e2 => (by subst e2; exact (by rw [zi1 k, if_neg hr, Int32.or_zero]; exact q1)))⟩⟩⟩
      · rw [zi_nat (show 5 * x + 3 < _ by omega)]
        exact ⟨fun _ => ⟨fun h => absurd h nh, fun _ => ⟨zi_inr (by omega) (by omega), fun I6_ e1 => (by subst e1; exact ⟨r, J6, k2, ⟨fun _ => fun y11_ e2 => (by subst e2; exact fun y12_ e3 => (by subst e3; exact (by rw [zi1 k, Int32.or_zero]; exact q2))), fun h => absurd h hr⟩⟩)⟩⟩, fun h => absurd h h3⟩
theorem q_fits (x1 x2 x3 : Int32) : Quiet 105 196 [.int x1, .int x2, .int x3] := by
  intro X n m G I J R
  have hS := R.S
  have hn := R.H.le
  obtain ⟨v, c1, c2, h⟩ := told_sim (X := X) (d := 96) R x1 x2
  by_cases hv : v = 0
  · obtain ⟨s, k, x, rfl, hk, rfl, hx⟩ := h hv
    subst hv
    by_cases h1 : f_T_within x3 0 1 = 0
    · exact ⟨.int (-7), I, J, Cv.of hq_105 (z_le rfl) rfl (wp_T_fits _ _ _ hS ⟨0, I, c1, ⟨fun _ => ⟨fun h => absurd h1 h, fun _ => rfl⟩, fun h => absurd rfl h⟩⟩), Cv.of hq_196 (z_le rfl) rfl (wp_Z_fits _ _ _ hS ⟨0, J, c2, ⟨fun _ => ⟨fun h => absurd h1 h, fun _ => rfl⟩, fun h => absurd rfl h⟩⟩), FC.rf, FZ.rf⟩
    obtain ⟨r, I0, c0, f0, hA, f00⟩ := think (X := X) (d := 98) R
    have hk0 : SHk I0 J s k := hk.fr (fun c _ _ => f00 c (by omega)) rfl rfl
    have s01 : x3 = 0 ∨ x3 = 1 := by
      obtain ⟨q, -, q2, rfl⟩ := wi_spec (a := 0) (b := 1) (by omega) (by omega) h1
      have : q = 0 ∨ q = 1 := by omega
      rcases this with rfl | rfl
      · exact Or.inl rfl
      · exact Or.inr rfl
    by_cases h3 : x3 = 0
    · obtain ⟨w, I1, J1, q1, q2, q3, q4, q5⟩ := fitA_loop (X := X) (d := 91) hS hn hx h3 (J 60 (5 * x)) 5 0 I0 J 0 (by omega) hA R.q hk0
      have e3 : (5 : Int32) * zi x + 3 * x3 = zi (5 * x) := by
        rw [h3]; exact (Int32.add_zero _).trans (zi_mul (a := 5))
      refine ⟨.int w, I1, J1, Cv.of hq_105 (z_le rfl) rfl (wp_T_fits _ _ _ hS ⟨0, I, c1, ⟨fun _ => ⟨fun _ => ⟨fun h => absurd h3 h, fun _ => fun y10_ e1 => (by subst e1; exact ⟨I0, c0, q1⟩)⟩, fun h => absurd h h1⟩, fun h => absurd rfl h⟩⟩), Cv.of hq_196 (z_le rfl) rfl (wp_Z_fits _ _ _ hS ?_), f0.tr q3, q4.back (fun q hq => by rw [hq, q5])⟩
      rw [e3]
      exact ⟨0, J, c2, ⟨fun _ => ⟨fun _ => fun y6_ e1 => (by subst e1; exact ⟨(zi_inr (by omega) (by omega)), fun y8_ e2 => (by subst e2; exact (by rw [zi_nat (show 5 * x < _ by omega)]; exact q2))⟩), fun h => absurd h h1⟩, fun h => absurd rfl h⟩⟩
    · obtain ⟨w, I1, J1, q1, q2, q3, q4, q5⟩ := fitB_loop (X := X) (d := 91) hS hn hx h3 (J 60 (5 * x + 3)) 17 0 I0 J 0 (by omega) hA R.q hk0
      have e3 : (5 : Int32) * zi x + 3 * x3 = zi (5 * x + 3) := by
        rw [s01.resolve_left h3]; exact z51 x 3
      refine ⟨.int w, I1, J1, Cv.of hq_105 (z_le rfl) rfl (wp_T_fits _ _ _ hS ⟨0, I, c1, ⟨fun _ => ⟨fun _ => ⟨fun _ => fun y7_ e1 => (by subst e1; exact ⟨I0, c0, q1⟩), fun h => absurd h h3⟩, fun h => absurd h h1⟩, fun h => absurd rfl h⟩⟩), Cv.of hq_196 (z_le rfl) rfl (wp_Z_fits _ _ _ hS ?_), f0.tr q3, q4.back (fun q hq => by rw [hq, q5])⟩
      rw [e3]
      exact ⟨0, J, c2, ⟨fun _ => ⟨fun _ => fun y6_ e1 => (by subst e1; exact ⟨(zi_inr (by omega) (by omega)), fun y8_ e2 => (by subst e2; exact (by rw [zi_nat (show 5 * x + 3 < _ by omega)]; exact q2))⟩), fun h => absurd h h1⟩, fun h => absurd rfl h⟩⟩
  · exact ⟨.int v, I, J, Cv.of hq_105 (z_le rfl) rfl (wp_T_fits _ _ _ hS ⟨v, I, c1, ⟨fun h => absurd h hv, fun _ => rfl⟩⟩), Cv.of hq_196 (z_le rfl) rfl (wp_Z_fits _ _ _ hS ⟨v, J, c2, ⟨fun h => absurd h hv, fun _ => rfl⟩⟩), FC.rf, FZ.rf⟩
