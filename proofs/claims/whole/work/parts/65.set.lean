/-! CALLS THAT CHANGE SOMETHING -/
theorem Rel.chg {n m n' : Nat} {G : zG} {I J I1 J1 : zI} (R : Rel n m G I J) (hI : ∀ c, 52 ≤ c → I1 c = I c) (hI0 : ∀ k, k ≠ 9 → k ≠ 3 → I1 0 k = I 0 k)
    (hJ : ∀ c, (c = 62 ∨ c = 63 ∨ c = 69) → J1 c = J c) (hJ57 : ∀ k, (k = 8 ∨ k = 34) → J1 57 k = J 57 k) (h1 : RH 1 I1 J1 n') (h2 : LWs m I1 J1) (h3 : TPs I1 J1) (h4 : SHs I1 J1) (h5 : IMs n' m I1 J1) : Rel n' m G I1 J1 :=
  ⟨R.S, R.room, h1, R.T.fr (hI0 7 (by omega) (by omega)) (hJ57 8 (by omega)) (fun c h _ => hI c h) (hJ 62 (by omega)) (hJ 63 (by omega)), h2, h3, h4, h5, (hJ57 34 (by omega)).trans R.q, fun k hk => by rw [hJ 69 (by omega)]; exact R.w k hk⟩
theorem TPs.fr {I J I1 J1 : zI} (h : TPs I J) (h0 : I1 0 9 = I 0 9) (h1 : J1 57 5 = J 57 5) (h2 : I1 44 = I 44) (h3 : J1 61 = J 61) : TPs I1 J1 := by
  obtain ⟨k, a, b, c, d⟩ := h
  exact ⟨k, a, h0.trans b, h1.trans c, by rw [h2, h3]; exact d⟩
theorem SHs.fr {I J I1 J1 : zI} (h : SHs I J) (h1 : ∀ c, 46 ≤ c → c ≤ 51 → I1 c = I c) (h2 : J1 65 = J 65) (h3 : J1 66 = J 66) (h4 : J1 67 = J 67) : SHs I1 J1 := by
  intro s hs
  obtain ⟨a, b⟩ := h s hs
  refine ⟨by rw [h1 50 (by omega) (by omega), h2]; exact a, ?_⟩
  rw [h2, h3, h4, h1 51 (by omega) (by omega), h1 (46 + s) (by omega) (by omega)]
  exact b
theorem IMs.fr {n n' m : Nat} {I J I1 J1 : zI} (h : IMs n m I J) (hn : n ≤ n') (h0 : I1 0 3 = I 0 3) (h17 : ∀ c, 17 ≤ c → c ≤ 24 → I1 c = I c) (h57 : ∀ k, 10 ≤ k → k ≤ 12 → J1 57 k = J 57 k) (h64 : J1 64 = J 64) (h58 : ∀ x, x < n → J1 58 x = J 58 x ∧ J1 59 x = J 59 x) : IMs n' m I1 J1 := by
  obtain ⟨a, b⟩ := h
  refine ⟨by rw [h0, h57 10 (by omega) (by omega)]; exact a, ?_⟩
  rw [h57 10 (by omega) (by omega), h57 11 (by omega) (by omega), h57 12 (by omega) (by omega), h17 17 (by omega) (by omega)]
  rcases b with b | ⟨b, k, r, c1, c2, c3, c4, c5, c6, c7⟩
  · exact Or.inl b
  · refine Or.inr ⟨b, k, r, by omega, c2, c3, c4, c5, c6, fun x hx => ?_⟩
    have := c7 x hx
    unfold KX at this ⊢
    rw [(h58 x (by omega)).1, (h58 x (by omega)).2, h64, h17 18 (by omega) (by omega), h17 19 (by omega) (by omega), h17 20 (by omega) (by omega), h17 21 (by omega) (by omega), h17 22 (by omega) (by omega), h17 23 (by omega) (by omega), h17 24 (by omega) (by omega)]
    exact this
theorem LWs.fr {m : Nat} {I J I1 J1 : zI} (h : LWs m I J) (h1 : I1 1 8 = I 1 8) (h2 : J1 57 9 = J 57 9) : LWs m I1 J1 := by
  obtain ⟨r, a, b, c⟩ := h
  exact ⟨r, a, h1.trans b, h2.trans c⟩
theorem RH.wantUp {o n x : Nat} {I J I1 J1 : zI} {v : Int32} (h : RH o I J n) (ho : o + 7 < 57) (hx : x < n) (hv : rg v 999) (hI : ∀ c, o ≤ c → c ≤ o + 7 → c ≠ o + 4 → I1 c = I c) (hI2 : ∀ y, y < n → I1 (o + 4) y = if y = x then v else I (o + 4) y)
    (h57 : J1 57 0 = J 57 0) (hJ : ∀ c, 58 ≤ c → c ≤ 60 → c ≠ 60 → J1 c = J c) (hJ2 : ∀ k, k < 20 → J1 60 k = if k = 5 * x + 1 then v else J 60 k) : RH o I1 J1 n := by
  have h4 := h.le
  refine ⟨h.le, by rw [hI o (by omega) (by omega) (by omega)]; exact h.ci, h57.trans h.cj, fun y hy => ?_⟩
  have hX := h.at' y hy
  refine ⟨?_, ?_, ?_, ?_, ?_, ?_, ?_, ?_, ?_, ?_, ?_, ?_, ?_, ?_⟩
  · rw [hI _ (by omega) (by omega) (by omega), hJ _ (by omega) (by omega) (by omega)]; exact hX.kind
  · rw [hI _ (by omega) (by omega) (by omega), hJ _ (by omega) (by omega) (by omega)]; exact hX.more
  · rw [hI _ (by omega) (by omega) (by omega), hJ2 _ (by omega), if_neg (by omega)]; exact hX.late
  · rw [hI2 y hy, hJ2 _ (by omega)]
    by_cases e : y = x
    · subst e; rw [if_pos rfl, if_pos rfl]
    · rw [if_neg e, if_neg (by omega)]; exact hX.want
  · rw [hI _ (by omega) (by omega) (by omega), hJ2 _ (by omega), if_neg (by omega)]; exact hX.set
  · rw [hI _ (by omega) (by omega) (by omega), hJ2 _ (by omega), if_neg (by omega)]; exact hX.haste
  · rw [hI _ (by omega) (by omega) (by omega), hJ2 _ (by omega), if_neg (by omega)]; exact hX.on
  · rw [hJ _ (by omega) (by omega) (by omega)]; exact hX.rk
  · rw [hJ _ (by omega) (by omega) (by omega)]; exact hX.rm
  · rw [hJ2 _ (by omega), if_neg (by omega)]; exact hX.rl
  · rw [hJ2 _ (by omega)]
    by_cases e : y = x
    · subst e; rw [if_pos rfl]; exact hv
    · rw [if_neg (by omega)]; exact hX.rw1
  · rw [hJ2 _ (by omega), if_neg (by omega)]; exact hX.rs
  · rw [hJ2 _ (by omega), if_neg (by omega)]; exact hX.rh
  · rw [hJ2 _ (by omega), if_neg (by omega)]; exact hX.ro
theorem q_set (x1 x2 x3 : Int32) : CallOK 55 154 [.int x1, .int x2, .int x3] := by
  intro X n m G I J R
  have hS := R.S
  have hn := R.H.le
  have es := R.sh x1
  by_cases hs : f_T_isShower I x1 = 0
  · exact ⟨n, m, G, _, I, J, Cv.of hq_55 (z_le rfl) rfl (wp_T_set _ _ _ (by omega) hS ⟨fun h => absurd hs h, fun _ => rfl⟩), Cv.of hq_154 (z_le rfl) rfl (wp_Z_set _ _ _ (by omega) hS ⟨fun h => absurd (es.trans hs) h, fun _ => rfl⟩), R, fun _ _ _ => rfl, fun _ _ => rfl⟩
  have hs' : ¬ f_Z_isShower J x1 = 0 := fun h => hs (es.symm.trans h)
  by_cases h2 : f_T_within x2 0 4 = 0
  · exact ⟨n, m, G, _, I, J, Cv.of hq_55 (z_le rfl) rfl (wp_T_set _ _ _ (by omega) hS ⟨fun _ => ⟨fun _ => rfl, fun h => absurd h2 h⟩, fun h => absurd h hs⟩), Cv.of hq_154 (z_le rfl) rfl (wp_Z_set _ _ _ (by omega) hS ⟨fun _ => ⟨fun _ => rfl, fun h => absurd h2 h⟩, fun h => absurd h hs'⟩), R, fun _ _ _ => rfl, fun _ _ => rfl⟩
  have em : f_Z_most x2 = f_T_mostOf x2 := by
    obtain ⟨k, -, hk, rfl⟩ := wi_spec (a := 0) (b := 4) (by omega) (by omega) h2
    have : k = 0 ∨ k = 1 ∨ k = 2 ∨ k = 3 ∨ k = 4 := by omega
    rcases this with rfl | rfl | rfl | rfl | rfl <;> rfl
  by_cases h3 : f_T_within x3 0 (f_T_mostOf x2) = 0
  · have h3' : f_Z_in x3 0 (f_Z_most x2) = 0 := by rw [em]; exact h3
    exact ⟨n, m, G, _, I, J, Cv.of hq_55 (z_le rfl) rfl (wp_T_set _ _ _ (by omega) hS ⟨fun _ => ⟨fun h => absurd h h2, fun _ => ⟨fun h => absurd h3 h, fun _ => rfl⟩⟩, fun h => absurd h hs⟩), Cv.of hq_154 (z_le rfl) rfl (wp_Z_set _ _ _ (by omega) hS ⟨fun _ => ⟨fun h => absurd h h2, fun _ => ⟨fun h => absurd h3' h, fun _ => rfl⟩⟩, fun h => absurd h hs'⟩), R, fun _ _ _ => rfl, fun _ _ => rfl⟩
  have h3' : ¬ f_Z_in x3 0 (f_Z_most x2) = 0 := by rw [em]; exact h3
  obtain ⟨x, hx, rfl⟩ := R.shx hs
  obtain ⟨w, -, hw, rfl⟩ := wi_spec (a := 0) (b := 4) (by omega) (by omega) h2
  have hX := R.H.at' x hx
  have hH := hS.H (o := 1) (by omega)
  have h5 : w = 0 ∨ w = 1 ∨ w = 2 ∨ w = 3 ∨ w = 4 := by omega
  rcases h5 with rfl | rfl | rfl | rfl | rfl
  · obtain ⟨v, -, hv, rfl⟩ := wi_spec (a := 0) (b := 4) (by omega) (by omega) h3
    have c1 : Cv X 99 57 [.ref 1, .int (zi x), .int (zi 0)] G I (some (.int (J 60 (5 * x))), G, I) := Cv.of hq_57 (z_le rfl) rfl (wp_H_numberOf 1 _ _ hH (by rw [zi_nat (show x < _ by omega)]; exact ⟨fun _ => ⟨zi_inr (by omega) (by omega), (by rw [show I (1 + (2 + 1)) x = J 60 (5 * x) from hX.late])⟩, fun h => absurd rfl h⟩))
    have c2 : Cv X 99 58 [.ref 1, .int (zi x), .int (zi 0), .int (zi v)] G I (none, G, z_up I 4 x (zi v)) := Cv.of hq_58 (z_le rfl) rfl (wp_H_change 1 _ _ _ hH (by rw [zi_nat (show x < _ by omega)]; exact ⟨fun _ => ⟨zi_inr (by omega) (by omega), fun I3_ e1 => (by subst e1; exact rfl)⟩, fun h => absurd rfl h⟩))
    refine ⟨n, m, G, _, z_up I 4 x (zi v), z_up J 60 (5 * x) (zi v), Cv.of hq_55 (z_le rfl) rfl (wp_T_set _ _ _ (by omega) hS ⟨fun _ => ⟨fun h => absurd h h2, fun _ => ⟨fun _ => ⟨_, I, c1, ⟨_, c2, rfl⟩⟩, fun h => absurd h h3⟩⟩, fun h => absurd h hs⟩), Cv.of hq_154 (z_le rfl) rfl (wp_Z_set _ _ _ (by omega) hS ?_), R.chg (fun c h => up_cell (by omega)) (fun k _ _ => by rw [up_cell (by decide)]) (fun c h => up_cell (by omega)) (fun k _ => by rw [up_cell (by decide)]) ?_ (R.L.fr (by rw [up_cell (by decide)]) (by rw [up_cell (by decide)])) (R.P.fr (by rw [up_cell (by decide)]) (by rw [up_cell (by decide)]) (up_cell (by decide)) (up_cell (by decide))) (R.s.fr (fun c _ _ => up_cell (by omega)) (up_cell (by decide)) (up_cell (by decide)) (up_cell (by decide))) (R.i.fr (Nat.le_refl _) (by rw [up_cell (by decide)]) (fun c _ _ => up_cell (by omega)) (fun k _ _ => by rw [up_cell (by decide)]) (up_cell (by decide)) (fun y _ => by rw [up_cell (by decide), up_cell (by decide)]; exact ⟨rfl, rfl⟩)), fun c h1 h2 => up_cell (by omega), fun c h => up_cell (by omega)⟩
    · rw [show (5 : Int32) * zi x + zi 0 = zi (5 * x) from z51 x 0, zi_nat (show 5 * x < _ by omega)]
      exact ⟨fun _ => ⟨fun h => absurd h h2, fun _ => ⟨fun _ => ⟨zi_inr (by omega) (by omega), fun y5_ e1 => (by subst e1; exact ⟨zi_inr (by omega) (by omega), fun I7_ e2 => (by subst e2; exact rfl)⟩)⟩, fun h => absurd h h3'⟩⟩, fun h => absurd h hs'⟩
    · refine R.H.lateUp (v := zi v) (by omega) hx (rg_zi (k := 4) hv (by omega)) (fun c _ _ hc => up_cell hc) (fun y hy => ?_) (by rw [up_cell (by decide)]) (fun c _ _ hc => up_cell hc) (fun k hk => ?_)
      · show z_up I 4 x (zi v) 4 y = if y = x then zi v else I 4 y
        by_cases q : y = x
        · rw [if_pos q, q, up_same]
        · rw [if_neg q, up_place q]
      · by_cases q : k = 5 * x
        · rw [if_pos q, q, up_same]
        · rw [if_neg q, up_place q]
  · obtain ⟨v, -, hv, rfl⟩ := wi_spec (a := 0) (b := 999) (by omega) (by omega) h3
    have c1 : Cv X 99 57 [.ref 1, .int (zi x), .int (zi 1)] G I (some (.int (J 60 (5 * x + 1))), G, I) := Cv.of hq_57 (z_le rfl) rfl (wp_H_numberOf 1 _ _ hH (by rw [zi_nat (show x < _ by omega)]; exact ⟨fun h => absurd h (by decide), fun _ => ⟨fun _ => ⟨zi_inr (by omega) (by omega), (by rw [show I (1 + (3 + 1)) x = J 60 (5 * x + 1) from hX.want])⟩, fun h => absurd rfl h⟩⟩))
    have c2 : Cv X 99 58 [.ref 1, .int (zi x), .int (zi 1), .int (zi v)] G I (none, G, z_up I 5 x (zi v)) := Cv.of hq_58 (z_le rfl) rfl (wp_H_change 1 _ _ _ hH (by rw [zi_nat (show x < _ by omega)]; exact ⟨fun h => absurd h (by decide), fun _ => ⟨fun _ => ⟨zi_inr (by omega) (by omega), fun I6_ e1 => (by subst e1; exact rfl)⟩, fun h => absurd rfl h⟩⟩))
    refine ⟨n, m, G, _, z_up I 5 x (zi v), z_up J 60 (5 * x + 1) (zi v), Cv.of hq_55 (z_le rfl) rfl (wp_T_set _ _ _ (by omega) hS ⟨fun _ => ⟨fun h => absurd h h2, fun _ => ⟨fun _ => ⟨_, I, c1, ⟨_, c2, rfl⟩⟩, fun h => absurd h h3⟩⟩, fun h => absurd h hs⟩), Cv.of hq_154 (z_le rfl) rfl (wp_Z_set _ _ _ (by omega) hS ?_), R.chg (fun c h => up_cell (by omega)) (fun k _ _ => by rw [up_cell (by decide)]) (fun c h => up_cell (by omega)) (fun k _ => by rw [up_cell (by decide)]) ?_ (R.L.fr (by rw [up_cell (by decide)]) (by rw [up_cell (by decide)])) (R.P.fr (by rw [up_cell (by decide)]) (by rw [up_cell (by decide)]) (up_cell (by decide)) (up_cell (by decide))) (R.s.fr (fun c _ _ => up_cell (by omega)) (up_cell (by decide)) (up_cell (by decide)) (up_cell (by decide))) (R.i.fr (Nat.le_refl _) (by rw [up_cell (by decide)]) (fun c _ _ => up_cell (by omega)) (fun k _ _ => by rw [up_cell (by decide)]) (up_cell (by decide)) (fun y _ => by rw [up_cell (by decide), up_cell (by decide)]; exact ⟨rfl, rfl⟩)), fun c h1 h2 => up_cell (by omega), fun c h => up_cell (by omega)⟩
    · rw [show (5 : Int32) * zi x + zi 1 = zi (5 * x + 1) from z51 x 1, zi_nat (show 5 * x + 1 < _ by omega)]
      exact ⟨fun _ => ⟨fun h => absurd h h2, fun _ => ⟨fun _ => ⟨zi_inr (by omega) (by omega), fun y5_ e1 => (by subst e1; exact ⟨zi_inr (by omega) (by omega), fun I7_ e2 => (by subst e2; exact rfl)⟩)⟩, fun h => absurd h h3'⟩⟩, fun h => absurd h hs'⟩
    · refine R.H.wantUp (v := zi v) (by omega) hx (rg_zi (k := 999) hv (by omega)) (fun c _ _ hc => up_cell hc) (fun y hy => ?_) (by rw [up_cell (by decide)]) (fun c _ _ hc => up_cell hc) (fun k hk => ?_)
      · show z_up I 5 x (zi v) 5 y = if y = x then zi v else I 5 y
        by_cases q : y = x
        · rw [if_pos q, q, up_same]
        · rw [if_neg q, up_place q]
      · by_cases q : k = 5 * x + 1
        · rw [if_pos q, q, up_same]
        · rw [if_neg q, up_place q]
  · obtain ⟨v, -, hv, rfl⟩ := wi_spec (a := 0) (b := 999) (by omega) (by omega) h3
    have c1 : Cv X 99 57 [.ref 1, .int (zi x), .int (zi 2)] G I (some (.int (J 60 (5 * x + 2))), G, I) := Cv.of hq_57 (z_le rfl) rfl (wp_H_numberOf 1 _ _ hH (by rw [zi_nat (show x < _ by omega)]; exact ⟨fun h => absurd h (by decide), fun _ => ⟨fun h => absurd h (by decide), fun _ => ⟨fun _ => ⟨zi_inr (by omega) (by omega), (by rw [show I (1 + (4 + 1)) x = J 60 (5 * x + 2) from hX.set])⟩, fun h => absurd rfl h⟩⟩⟩))
    have c2 : Cv X 99 58 [.ref 1, .int (zi x), .int (zi 2), .int (zi v)] G I (none, G, z_up I 6 x (zi v)) := Cv.of hq_58 (z_le rfl) rfl (wp_H_change 1 _ _ _ hH (by rw [zi_nat (show x < _ by omega)]; exact ⟨fun h => absurd h (by decide), fun _ => ⟨fun h => absurd h (by decide), fun _ => ⟨fun _ => ⟨zi_inr (by omega) (by omega), fun I9_ e1 => (by subst e1; exact rfl)⟩, fun h => absurd rfl h⟩⟩⟩))
    refine ⟨n, m, G, _, z_up I 6 x (zi v), z_up J 60 (5 * x + 2) (zi v), Cv.of hq_55 (z_le rfl) rfl (wp_T_set _ _ _ (by omega) hS ⟨fun _ => ⟨fun h => absurd h h2, fun _ => ⟨fun _ => ⟨_, I, c1, ⟨_, c2, rfl⟩⟩, fun h => absurd h h3⟩⟩, fun h => absurd h hs⟩), Cv.of hq_154 (z_le rfl) rfl (wp_Z_set _ _ _ (by omega) hS ?_), R.chg (fun c h => up_cell (by omega)) (fun k _ _ => by rw [up_cell (by decide)]) (fun c h => up_cell (by omega)) (fun k _ => by rw [up_cell (by decide)]) ?_ (R.L.fr (by rw [up_cell (by decide)]) (by rw [up_cell (by decide)])) (R.P.fr (by rw [up_cell (by decide)]) (by rw [up_cell (by decide)]) (up_cell (by decide)) (up_cell (by decide))) (R.s.fr (fun c _ _ => up_cell (by omega)) (up_cell (by decide)) (up_cell (by decide)) (up_cell (by decide))) (R.i.fr (Nat.le_refl _) (by rw [up_cell (by decide)]) (fun c _ _ => up_cell (by omega)) (fun k _ _ => by rw [up_cell (by decide)]) (up_cell (by decide)) (fun y _ => by rw [up_cell (by decide), up_cell (by decide)]; exact ⟨rfl, rfl⟩)), fun c h1 h2 => up_cell (by omega), fun c h => up_cell (by omega)⟩
    · rw [show (5 : Int32) * zi x + zi 2 = zi (5 * x + 2) from z51 x 2, zi_nat (show 5 * x + 2 < _ by omega)]
      exact ⟨fun _ => ⟨fun h => absurd h h2, fun _ => ⟨fun _ => ⟨zi_inr (by omega) (by omega), fun y5_ e1 => (by subst e1; exact ⟨zi_inr (by omega) (by omega), fun I7_ e2 => (by subst e2; exact rfl)⟩)⟩, fun h => absurd h h3'⟩⟩, fun h => absurd h hs'⟩
    · refine R.H.setUp (v := zi v) (by omega) hx (rg_zi (k := 999) hv (by omega)) (fun c _ _ hc => up_cell hc) (fun y hy => ?_) (by rw [up_cell (by decide)]) (fun c _ _ hc => up_cell hc) (fun k hk => ?_)
      · show z_up I 6 x (zi v) 6 y = if y = x then zi v else I 6 y
        by_cases q : y = x
        · rw [if_pos q, q, up_same]
        · rw [if_neg q, up_place q]
      · by_cases q : k = 5 * x + 2
        · rw [if_pos q, q, up_same]
        · rw [if_neg q, up_place q]
  · obtain ⟨v, -, hv, rfl⟩ := wi_spec (a := 0) (b := 16) (by omega) (by omega) h3
    have c1 : Cv X 99 57 [.ref 1, .int (zi x), .int (zi 3)] G I (some (.int (J 60 (5 * x + 3))), G, I) := Cv.of hq_57 (z_le rfl) rfl (wp_H_numberOf 1 _ _ hH (by rw [zi_nat (show x < _ by omega)]; exact ⟨fun h => absurd h (by decide), fun _ => ⟨fun h => absurd h (by decide), fun _ => ⟨fun h => absurd h (by decide), fun _ => ⟨fun _ => ⟨zi_inr (by omega) (by omega), (by rw [show I (1 + (5 + 1)) x = J 60 (5 * x + 3) from hX.haste])⟩, fun h => absurd rfl h⟩⟩⟩⟩))
    have c2 : Cv X 99 58 [.ref 1, .int (zi x), .int (zi 3), .int (zi v)] G I (none, G, z_up I 7 x (zi v)) := Cv.of hq_58 (z_le rfl) rfl (wp_H_change 1 _ _ _ hH (by rw [zi_nat (show x < _ by omega)]; exact ⟨fun h => absurd h (by decide), fun _ => ⟨fun h => absurd h (by decide), fun _ => ⟨fun h => absurd h (by decide), fun _ => ⟨fun _ => ⟨zi_inr (by omega) (by omega), fun I12_ e1 => (by subst e1; exact rfl)⟩, fun h => absurd rfl h⟩⟩⟩⟩))
    refine ⟨n, m, G, _, z_up I 7 x (zi v), z_up J 60 (5 * x + 3) (zi v), Cv.of hq_55 (z_le rfl) rfl (wp_T_set _ _ _ (by omega) hS ⟨fun _ => ⟨fun h => absurd h h2, fun _ => ⟨fun _ => ⟨_, I, c1, ⟨_, c2, rfl⟩⟩, fun h => absurd h h3⟩⟩, fun h => absurd h hs⟩), Cv.of hq_154 (z_le rfl) rfl (wp_Z_set _ _ _ (by omega) hS ?_), R.chg (fun c h => up_cell (by omega)) (fun k _ _ => by rw [up_cell (by decide)]) (fun c h => up_cell (by omega)) (fun k _ => by rw [up_cell (by decide)]) ?_ (R.L.fr (by rw [up_cell (by decide)]) (by rw [up_cell (by decide)])) (R.P.fr (by rw [up_cell (by decide)]) (by rw [up_cell (by decide)]) (up_cell (by decide)) (up_cell (by decide))) (R.s.fr (fun c _ _ => up_cell (by omega)) (up_cell (by decide)) (up_cell (by decide)) (up_cell (by decide))) (R.i.fr (Nat.le_refl _) (by rw [up_cell (by decide)]) (fun c _ _ => up_cell (by omega)) (fun k _ _ => by rw [up_cell (by decide)]) (up_cell (by decide)) (fun y _ => by rw [up_cell (by decide), up_cell (by decide)]; exact ⟨rfl, rfl⟩)), fun c h1 h2 => up_cell (by omega), fun c h => up_cell (by omega)⟩
    · rw [show (5 : Int32) * zi x + zi 3 = zi (5 * x + 3) from z51 x 3, zi_nat (show 5 * x + 3 < _ by omega)]
      exact ⟨fun _ => ⟨fun h => absurd h h2, fun _ => ⟨fun _ => ⟨zi_inr (by omega) (by omega), fun y5_ e1 => (by subst e1; exact ⟨zi_inr (by omega) (by omega), fun I7_ e2 => (by subst e2; exact rfl)⟩)⟩, fun h => absurd h h3'⟩⟩, fun h => absurd h hs'⟩
    · refine R.H.hasteUp (v := zi v) (by omega) hx (rg_zi (k := 16) hv (by omega)) (fun c _ _ hc => up_cell hc) (fun y hy => ?_) (by rw [up_cell (by decide)]) (fun c _ _ hc => up_cell hc) (fun k hk => ?_)
      · show z_up I 7 x (zi v) 7 y = if y = x then zi v else I 7 y
        by_cases q : y = x
        · rw [if_pos q, q, up_same]
        · rw [if_neg q, up_place q]
      · by_cases q : k = 5 * x + 3
        · rw [if_pos q, q, up_same]
        · rw [if_neg q, up_place q]
  · obtain ⟨v, -, hv, rfl⟩ := wi_spec (a := 0) (b := 1) (by omega) (by omega) h3
    have c1 : Cv X 99 57 [.ref 1, .int (zi x), .int (zi 4)] G I (some (.int (J 60 (5 * x + 4))), G, I) := Cv.of hq_57 (z_le rfl) rfl (wp_H_numberOf 1 _ _ hH (by rw [zi_nat (show x < _ by omega)]; exact ⟨fun h => absurd h (by decide), fun _ => ⟨fun h => absurd h (by decide), fun _ => ⟨fun h => absurd h (by decide), fun _ => ⟨fun h => absurd h (by decide), fun _ => ⟨zi_inr (by omega) (by omega), (by rw [show I (1 + (6 + 1)) x = J 60 (5 * x + 4) from hX.on])⟩⟩⟩⟩⟩))
    have c2 : Cv X 99 58 [.ref 1, .int (zi x), .int (zi 4), .int (zi v)] G I (none, G, z_up I 8 x (zi v)) := Cv.of hq_58 (z_le rfl) rfl (wp_H_change 1 _ _ _ hH (by rw [zi_nat (show x < _ by omega)]; exact ⟨fun h => absurd h (by decide), fun _ => ⟨fun h => absurd h (by decide), fun _ => ⟨fun h => absurd h (by decide), fun _ => ⟨fun h => absurd h (by decide), fun _ => ⟨zi_inr (by omega) (by omega), fun I14_ e1 => (by subst e1; exact rfl)⟩⟩⟩⟩⟩))
    refine ⟨n, m, G, _, z_up I 8 x (zi v), z_up J 60 (5 * x + 4) (zi v), Cv.of hq_55 (z_le rfl) rfl (wp_T_set _ _ _ (by omega) hS ⟨fun _ => ⟨fun h => absurd h h2, fun _ => ⟨fun _ => ⟨_, I, c1, ⟨_, c2, rfl⟩⟩, fun h => absurd h h3⟩⟩, fun h => absurd h hs⟩), Cv.of hq_154 (z_le rfl) rfl (wp_Z_set _ _ _ (by omega) hS ?_), R.chg (fun c h => up_cell (by omega)) (fun k _ _ => by rw [up_cell (by decide)]) (fun c h => up_cell (by omega)) (fun k _ => by rw [up_cell (by decide)]) ?_ (R.L.fr (by rw [up_cell (by decide)]) (by rw [up_cell (by decide)])) (R.P.fr (by rw [up_cell (by decide)]) (by rw [up_cell (by decide)]) (up_cell (by decide)) (up_cell (by decide))) (R.s.fr (fun c _ _ => up_cell (by omega)) (up_cell (by decide)) (up_cell (by decide)) (up_cell (by decide))) (R.i.fr (Nat.le_refl _) (by rw [up_cell (by decide)]) (fun c _ _ => up_cell (by omega)) (fun k _ _ => by rw [up_cell (by decide)]) (up_cell (by decide)) (fun y _ => by rw [up_cell (by decide), up_cell (by decide)]; exact ⟨rfl, rfl⟩)), fun c h1 h2 => up_cell (by omega), fun c h => up_cell (by omega)⟩
    · rw [show (5 : Int32) * zi x + zi 4 = zi (5 * x + 4) from z51 x 4, zi_nat (show 5 * x + 4 < _ by omega)]
      exact ⟨fun _ => ⟨fun h => absurd h h2, fun _ => ⟨fun _ => ⟨zi_inr (by omega) (by omega), fun y5_ e1 => (by subst e1; exact ⟨zi_inr (by omega) (by omega), fun I7_ e2 => (by subst e2; exact rfl)⟩)⟩, fun h => absurd h h3'⟩⟩, fun h => absurd h hs'⟩
    · refine R.H.onUp (v := zi v) (by omega) hx ((show v = 0 ∨ v = 1 by omega).elim (fun e => Or.inl (by rw [e]; rfl)) (fun e => Or.inr (by rw [e]; rfl))) (fun c _ _ hc => up_cell hc) (fun y hy => ?_) (by rw [up_cell (by decide)]) (fun c _ _ hc => up_cell hc) (fun k hk => ?_)
      · show z_up I 8 x (zi v) 8 y = if y = x then zi v else I 8 y
        by_cases q : y = x
        · rw [if_pos q, q, up_same]
        · rw [if_neg q, up_place q]
      · by_cases q : k = 5 * x + 4
        · rw [if_pos q, q, up_same]
        · rw [if_neg q, up_place q]
theorem q_force (x1 : Int32) : CallOK 43 146 [.int x1] := by
  intro X n m G I J R
  have hS := R.S
  have hn := R.H.le
  have hm1 := R.T.1
  have hm6 := R.T.2.1
  have em : I 0 7 - 1 = zi (m - 1) := by rw [R.T.2.2.1]; exact zi_sub (b := 1) hm1
  have ez : J 57 8 - 1 = zi (m - 1) := by rw [R.T.2.2.2.1]; exact zi_sub (b := 1) hm1
  obtain ⟨r0, r1, r2, r3⟩ := R.L
  by_cases h1 : f_T_within x1 0 (zi (m - 1)) = 0
  · exact ⟨n, m, G, _, I, J, Cv.of hq_43 (z_le rfl) rfl (wp_T_force _ hS (by rw [em]; exact ⟨fun h => absurd h1 h, fun _ => rfl⟩)), Cv.of hq_146 (z_le rfl) rfl (wp_Z_force _ hS (by rw [ez]; exact ⟨fun h => absurd h1 h, fun _ => rfl⟩)), R, fun _ _ _ => rfl, fun _ _ => rfl⟩
  · obtain ⟨t, -, ht, rfl⟩ := wi_spec (a := 0) (b := m - 1) (by omega) (by omega) h1
    refine ⟨n, m, G, .int (zi r0), z_up I 1 8 (zi t), z_up J 57 9 (zi t), Cv.of hq_43 (z_le rfl) rfl (wp_T_force _ hS (by rw [em, r2]; exact ⟨fun _ => fun y2_ e1 => (by subst e1; exact fun I3_ e2 => (by subst e2; exact rfl)), fun h => absurd h h1⟩)), Cv.of hq_146 (z_le rfl) rfl (wp_Z_force _ hS (by rw [ez, r3]; exact ⟨fun _ => fun y2_ e1 => (by subst e1; exact fun I3_ e2 => (by subst e2; exact rfl)), fun h => absurd h h1⟩)), R.chg (fun c h => up_cell (by omega)) (fun k _ _ => by rw [up_cell (by decide)]) (fun c h => up_cell (by omega)) (fun k h => up_place (by omega)) ?_ ⟨t, by omega, up_same, up_same⟩ (R.P.fr (by rw [up_cell (by decide)]) (up_place (by decide)) (up_cell (by decide)) (up_cell (by decide))) (R.s.fr (fun c _ _ => up_cell (by omega)) (up_cell (by decide)) (up_cell (by decide)) (up_cell (by decide))) (R.i.fr (Nat.le_refl _) (by rw [up_cell (by decide)]) (fun c _ _ => up_cell (by omega)) (fun k _ _ => up_place (by omega)) (up_cell (by decide)) (fun y _ => by rw [up_cell (by decide), up_cell (by decide)]; exact ⟨rfl, rfl⟩)), fun c h1 h2 => up_cell (by omega), fun c h => up_cell (by omega)⟩
    refine ⟨R.H.le, by rw [up_place (by decide)]; exact R.H.ci, by rw [up_place (by decide)]; exact R.H.cj, fun y hy => ?_⟩
    have hX := R.H.at' y hy
    unfold RX at hX ⊢
    rw [up_cell (show 58 ≠ 57 by decide), up_cell (show 59 ≠ 57 by decide), up_cell (show 60 ≠ 57 by decide), up_cell (show 1 + 1 ≠ 1 by decide), up_cell (show 1 + 2 ≠ 1 by decide), up_cell (show 1 + 3 ≠ 1 by decide), up_cell (show 1 + 4 ≠ 1 by decide), up_cell (show 1 + 5 ≠ 1 by decide), up_cell (show 1 + 6 ≠ 1 by decide), up_cell (show 1 + 7 ≠ 1 by decide)]
    exact hX
