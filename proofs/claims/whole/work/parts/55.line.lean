theorem Cv_det {X : Nat × (Nat → Int32)} {d1 d2 ν : Nat} {as : List Value} {G : zG} {I : zI} {r1 r2 : Option Value × zG × zI} (h1 : Cv X d1 ν as G I r1) (h2 : Cv X d2 ν as G I r2) : r1 = r2 := by
  obtain ⟨q1, a1, b1, f1, e1⟩ := h1
  obtain ⟨q2, a2, b2, f2, e2⟩ := h2
  rw [a1] at a2
  cases a2
  have g1 := evF_mono _ _ _ _ _ _ _ _ _ e1 (f1 + f2) (d1 + d2) (by omega) (by omega)
  have g2 := evF_mono _ _ _ _ _ _ _ _ _ e2 (f1 + f2) (d1 + d2) (by omega) (by omega)
  rw [g1] at g2
  exact Option.some.inj g2
theorem AD.cong {o n r m : Nat} {G : zG} {I J I1 J1 : zI} (h : AD o n r m G I J) (ho : o + 7 < 27) (h1 : ∀ c, c < 27 → I1 c = I c) (h2 : ∀ c, 52 ≤ c → ¬ isScr c → I1 c = I c) (h3 : ∀ c, 58 ≤ c → c ≤ 63 → c ≠ 61 → J1 c = J c) (h4 : ∀ k, k < 18 → J1 57 k = J 57 k) : AD o n r m G I1 J1 := by
  obtain ⟨a, b, c, d, e⟩ := h
  exact ⟨a.fr (fun c _ _ => h1 c (by omega)) (h4 0 (by omega)) (h3 58 (by omega) (by omega) (by omega)) (h3 59 (by omega) (by omega) (by omega)) (h3 60 (by omega) (by omega) (by omega)), b, by rw [h1 o (by omega)]; exact c, (h4 9 (by omega)).trans d, e.fr (by rw [h1 0 (by omega)]) (h4 8 (by omega)) h2 (h3 62 (by omega) (by omega) (by omega)) (h3 63 (by omega) (by omega) (by omega))⟩
/-- the house that is thought of is the reference's, but for the haste of x -/
def ADh (x n r m : Nat) (G : zG) (I J : zI) : Prop := ∀ h, h ≤ 16 → AD 9 n r m G (z_up I 15 x (zi h)) (z_up J 60 (5 * x + 3) (zi h))
/-- the class's own cells, but for the haste of x -/
def FrH (x : Nat) (I I1 : zI) : Prop := (∀ c, c ≠ 15 → ¬ (27 ≤ c ∧ c ≤ 38) → ¬ isScr c → I1 c = I c) ∧ ∀ y, y ≠ x → I1 15 y = I 15 y
theorem FrH.rf {x : Nat} {I : zI} : FrH x I I := ⟨fun _ _ _ _ => rfl, fun _ _ => rfl⟩
theorem FrH.tr {x : Nat} {I I1 I2 : zI} (h : FrH x I I1) (h2 : FrH x I1 I2) : FrH x I I2 := ⟨fun c a b e => (h2.1 c a b e).trans (h.1 c a b e), fun y e => (h2.2 y e).trans (h.2 y e)⟩
theorem FrH.C {x : Nat} {I I1 : zI} (h : FrH x I I1) : FC I I1 := fun c a b e => h.1 c (by omega) b e
theorem ADh.fr {x n r m : Nat} {G : zG} {I J I1 J1 : zI} (h : ADh x n r m G I J) (hI : FrH x I I1) (hJ : FZ J J1) : ADh x n r m G I1 J1 := by
  intro k hk
  refine (h k hk).cong (by omega) (fun c hc => ?_) (fun c hc hs => ?_) (fun c c1 c2 c3 => ?_) (fun k hk => ?_)
  · by_cases e : c = 15
    · subst e
      funext y
      by_cases q : y = x
      · rw [q, up_same, up_same]
      · rw [up_place q, up_place q]; exact hI.2 y q
    · rw [up_cell e, up_cell e]; exact hI.1 c e (by omega) (by unfold isScr; omega)
  · rw [up_cell (by omega), up_cell (by omega)]; exact hI.1 c (by omega) (by omega) hs
  · have e := hJ.1 c (by omega) (by omega)
    by_cases q : c = 60
    · subst q
      funext y
      by_cases q : y = 5 * x + 3
      · rw [q, up_same, up_same]
      · rw [up_place q, up_place q, e]
    · rw [up_cell q, up_cell q]; exact e
  · rw [up_cell (by decide), up_cell (by decide)]; exact hJ.2 k (by omega)
/-- it is tried by one haste from when on it rests -/
theorem rh_sim {X : Nat × (Nat → Int32)} {d : Nat} {G : zG} (hS : SG G) {n r m x h : Nat} (hn : n ≤ 4) (hx : x < n) (hh : h ≤ 16) {I J : zI} (hA : ADh x n r m G I J) (hq : J 57 34 = -1) (near : Int32) :
    ∃ (v : Int32) (I1 J1 : zI), (v = -1 ∨ ∃ e : Nat, e < 30 ∧ v = zi e) ∧ Cv X (d + 7) 88 [.ref 0, .int (zi x), .int near, .int (zi h)] G I (some (.int v), G, I1) ∧ Cv X (d + 8) 181 [.ref 57, .int (zi x), .int near, .int (zi h)] G J (some (.int v), G, J1) ∧ FrH x I I1 ∧ FZ J J1 := by
  have hA3 := hA h hh
  obtain ⟨I4, J6, k1, k2, k3, k4, mf, ms, mc⟩ := live_sim (X := X) (d := d) hS (Or.inr rfl) hA3 (by rw [up_cell (by decide)]; exact hq)
  obtain ⟨v, hv, c1, c2⟩ := rest_sim (X := X) (d := d + 5) hS (I := I4) (J := J6) (x := x) (by omega) (fun s h => (mf s x (by omega) hx).1) near
  have eW : I4 13 x = J6 60 (5 * x + 1) := by rw [k3.F (by omega), k4 60 (by omega)]; exact (hA3.1.at' x hx).want
  have c3 : Cv X (d + 7) 169 [.ref 57, .int (zi x), .int near] G (z_up J 60 (5 * x + 3) (zi h)) (some (.int v), G, J6) := Cv.of hq_169 (z_le rfl) rfl (wp_Z_restsNow _ _ hS ⟨J6, k2, v, J6, c2, rfl⟩)
  refine ⟨v, I4, z_up J6 60 (5 * x + 3) (J 60 (5 * x + 3)), hv, Cv.of hq_88 (z_le rfl) rfl (wp_T_restsByHaste _ _ _ hS ?_), Cv.of hq_181 (z_le rfl) rfl (wp_Z_restsHasty _ _ _ hS ?_), ⟨fun c a b e => ?_, fun y hy => ?_⟩, ?_⟩
  · rw [zi_nat (show x < _ by omega)]
    exact ⟨zi_inr (by omega) (by omega), fun I2_ e1 => (by subst e1; exact ⟨I4, k1, ⟨zi_inr (by omega) (by omega), ⟨v, I4, (by rw [eW]; exact c1), rfl⟩⟩⟩)⟩
  · rw [show (5 : Int32) * zi x + 3 = zi (5 * x + 3) from z51 x 3, zi_nat (show 5 * x + 3 < _ by omega)]
    exact ⟨zi_inr (by omega) (by omega), fun y2_ e1 => (by subst e1; exact ⟨zi_inr (by omega) (by omega), fun I4_ e2 => (by subst e2; exact ⟨v, J6, c3, ⟨zi_inr (by omega) (by omega), fun I9_ e3 => (by subst e3; exact rfl)⟩⟩)⟩)⟩
  · rw [k3 c b e, up_cell a]
  · rw [k3 15 (by omega) (by unfold isScr; omega), up_place hy]
  · exact (((FZ6.up (p := fun k => k = 5 * x + 3) rfl).tr (FrR.Z k4).six).tr (FZ6.up rfl)).back (fun k hk => by rw [hk, up_same])
/-- the greatest below k that isn't -1 -/
def gl (v : Nat → Int32) : Nat → Int32
  | 0 => -1
  | k + 1 => if v k = -1 then gl v k else zi k
theorem line_T {X : Nat × (Nat → Int32)} {d : Nat} {G : zG} (hS : SG G) {n r m x : Nat} (hn : n ≤ 4) (hx : x < n) {J0 : zI} (hq : J0 57 34 = -1) (near : Int32) (v : Nat → Int32) (hv : ∀ h, h ≤ 16 → ∃ J1, Cv X (d + 8) 181 [.ref 57, .int (zi x), .int near, .int (zi h)] G J0 (some (.int (v h)), G, J1)) :
    ∀ (k : Nat) (I : zI), k ≤ 17 → ADh x n r m G I J0 → ∃ I1, Ev X (d + 8) 87 35 [.ref 0, .int (zi x), .int near, .int (zi k - 1)] [] G I (some (.int (gl v k)), G, I1) ∧ FrH x I I1 := by
  intro k
  induction k with
  | zero =>
    intro I _ _
    exact ⟨I, wp_T_line_35 _ _ _ hS ⟨fun _ => rfl, fun h => absurd (by decide) h⟩, FrH.rf⟩
  | succ k ih =>
    intro I hk hA
    have nt : ¬ zi (k + 1) - 1 < 0 := fun h => absurd ((pd_lt (by omega)).1 h) (by omega)
    have e1 : zi (k + 1) - 1 = zi k := zi_sub (b := 1) (by omega)
    rw [e1] at nt ⊢
    have e2 : zi k + (-1) = zi k - 1 := (Int32.sub_eq_add_neg _ _).symm
    obtain ⟨w, I1, J1, -, c1, c2, c3, c4⟩ := rh_sim (X := X) (d := d) hS hn hx (show k ≤ 16 by omega) hA hq near
    obtain ⟨J2, c5⟩ := hv k (by omega)
    obtain rfl : w = v k := by
      have := Cv_det c2 c5
      cases this; rfl
    by_cases hw : v k = -1
    · obtain ⟨I2, g1, g2⟩ := ih I1 (by omega) (hA.fr c3 FZ.rf)
      refine ⟨I2, wp_T_line_35 _ _ _ hS ⟨fun h => absurd h nt, fun _ => ⟨_, I1, c1, ⟨fun _ => fun y6_ e1 => (by subst e1; exact (by rw [e2, gl, if_pos hw]; exact g1)), fun h => absurd hw h⟩⟩⟩, c3.tr g2⟩
    · exact ⟨I1, wp_T_line_35 _ _ _ hS ⟨fun h => absurd h nt, fun _ => ⟨_, I1, c1, ⟨fun h => absurd h hw, fun _ => (by rw [gl, if_neg hw])⟩⟩⟩, c3⟩
theorem line_Z {X : Nat × (Nat → Int32)} {d : Nat} {G : zG} (hS : SG G) {n r m x : Nat} (hn : n ≤ 4) (hx : x < n) {I0 : zI} (near : Int32) (v : Nat → Int32) (hv : ∀ h, h ≤ 16 → ∃ I1, Cv X (d + 7) 88 [.ref 0, .int (zi x), .int near, .int (zi h)] G I0 (some (.int (v h)), G, I1)) :
    ∀ (j k : Nat) (J : zI), k + j = 17 → J 57 34 = -1 → ADh x n r m G I0 J → ∃ J1, Ev X (d + 9) 180 26 [.ref 57, .int (zi x), .int near, .int (gl v k), .int (zi k)] [] G J (some (.int (gl v 17)), G, J1) ∧ FZ J J1 := by
  intro j
  induction j with
  | zero =>
    intro k J hk _ _
    obtain rfl : k = 17 := by omega
    exact ⟨J, wp_Z_line_26 _ _ _ _ hS ⟨fun _ => rfl, fun h => absurd (by decide) h⟩, FZ.rf⟩
  | succ j ih =>
    intro k J hk hq hA
    have nh : ¬ (16 : Int32) < zi k := fun e => absurd ((zi_lt (a := 16) (by omega) (by omega)).1 e) (by omega)
    obtain ⟨w, I1, J1, -, c1, c2, c3, c4⟩ := rh_sim (X := X) (d := d) hS hn hx (show k ≤ 16 by omega) hA hq near
    obtain ⟨J2, c5⟩ := hv k (by omega)
    obtain rfl : w = v k := by
      have := Cv_det c1 c5
      cases this; rfl
    obtain ⟨J3, g1, g2⟩ := ih (k + 1) J1 (by omega) ((c4.2 34 (by omega)).trans hq) (hA.fr FrH.rf c4)
    by_cases hw : v k = -1
    · rw [show gl v (k + 1) = gl v k from if_pos hw] at g1
      exact ⟨J3, wp_Z_line_26 _ _ _ _ hS ⟨fun h => absurd h nh, fun _ => ⟨_, J1, c2, ⟨fun _ => fun y6_ e1 => (by subst e1; exact (by rw [zi1 k]; exact g1)), fun h => absurd hw h⟩⟩⟩, c4.tr g2⟩
    · rw [show gl v (k + 1) = zi k from if_neg hw] at g1
      exact ⟨J3, wp_Z_line_26 _ _ _ _ hS ⟨fun h => absurd h nh, fun _ => ⟨_, J1, c2, ⟨fun h => absurd h hw, fun _ => fun y7_ e1 => (by subst e1; exact (by rw [zi1 k]; exact g1))⟩⟩⟩, c4.tr g2⟩
theorem q_line (x1 x2 : Int32) : Quiet 87 180 [.int x1, .int x2] := by
  intro X n m G I J R
  have hS := R.S
  have hn := R.H.le
  have es := R.sh x1
  by_cases hs : f_T_isShower I x1 = 0
  · exact ⟨_, I, J, Cv.of hq_87 (z_le rfl) rfl (wp_T_line _ _ (by omega) hS ⟨fun h => absurd hs h, fun _ => rfl⟩), Cv.of hq_180 (z_le rfl) rfl (wp_Z_line _ _ (by omega) hS ⟨fun h => absurd (es.trans hs) h, fun _ => rfl⟩), FC.rf, FZ.rf⟩
  have hs' : ¬ f_Z_isShower J x1 = 0 := fun h => hs (es.symm.trans h)
  by_cases h2 : f_T_isWarm x2 = 0
  · exact ⟨_, I, J, Cv.of hq_87 (z_le rfl) rfl (wp_T_line _ _ (by omega) hS ⟨fun _ => ⟨fun h => absurd h2 h, fun _ => rfl⟩, fun h => absurd h hs⟩), Cv.of hq_180 (z_le rfl) rfl (wp_Z_line _ _ (by omega) hS ⟨fun _ => ⟨fun h => absurd h2 h, fun _ => rfl⟩, fun h => absurd h hs'⟩), FC.rf, FZ.rf⟩
  obtain ⟨x, hx, rfl⟩ := R.shx hs
  obtain ⟨r, I0, c0, f0, hA, -⟩ := think (X := X) (d := 98) R
  have hA0 : ADh x n r m G I0 J := fun h hh => hA.hasteUp hx hh
  obtain ⟨v, hv⟩ := Classical.skolem.1 (fun h => show ∃ w : Int32, h ≤ 16 → (∃ I1, Cv X (91 + 7) 88 [.ref 0, .int (zi x), .int x2, .int (zi h)] G I0 (some (.int w), G, I1)) ∧ ∃ J1, Cv X (91 + 8) 181 [.ref 57, .int (zi x), .int x2, .int (zi h)] G J (some (.int w), G, J1) by
    by_cases hh : h ≤ 16
    · obtain ⟨w, I1, J1, -, c1, c2, -, -⟩ := rh_sim (X := X) (d := 91) hS hn hx hh hA0 R.q x2
      exact ⟨w, fun _ => ⟨⟨I1, c1⟩, ⟨J1, c2⟩⟩⟩
    · exact ⟨0, fun e => absurd e hh⟩)
  obtain ⟨I1, k1, k2⟩ := line_T (X := X) (d := 91) hS hn hx R.q x2 v (fun h hh => (hv h hh).2) 17 I0 (by omega) hA0
  obtain ⟨J1, k3, k4⟩ := line_Z (X := X) (d := 91) hS hn hx x2 v (fun h hh => (hv h hh).1) 17 0 J (by omega) R.q hA0
  exact ⟨_, I1, J1, Cv.of hq_87 (z_le rfl) rfl (wp_T_line _ _ (by omega) hS ⟨fun _ => ⟨fun _ => ⟨I0, c0, (k1.deep (by omega))⟩, fun h => absurd h h2⟩, fun h => absurd h hs⟩), Cv.of hq_180 (z_le rfl) rfl (wp_Z_line _ _ (by omega) hS ⟨fun _ => ⟨fun _ => k3, fun h => absurd h h2⟩, fun h => absurd h hs'⟩), f0.tr k2.C, k4⟩
theorem soon_loop {X : Nat × (Nat → Int32)} {d : Nat} {G : zG} (hS : SG G) {n r m x : Nat} (hn : n ≤ 4) (hx : x < n) (near x3 : Int32) :
    ∀ (j k : Nat) (I J : zI) (L b l : Int32), k + j = 17 → J 57 34 = -1 → ADh x n r m G I J → CT L b l k → (b = -1 → l = -1) → ∃ (w : Int32) (I1 J1 : zI), (∀ v6 : Value, v6.category = 1 → Ev X (d + 9) 89 48 [.ref 0, .int (zi x), .int near, .int x3, .int L, .int (zi k), v6] [] G I (some (.int w), G, I1)) ∧
      (∀ v7 v8 : Value, v7.category = 1 → v8.category = 1 → Ev X (d + 9) 182 39 [.ref 57, .int (zi x), .int near, .int x3, .int b, .int l, .int (zi k), v7, v8] [] G J (some (.int w), G, J1)) ∧ FrH x I I1 ∧ FZ J J1 := by
  intro j
  induction j with
  | zero =>
    intro k I J L b l hk _ _ hC hl
    obtain rfl : k = 17 := by omega
    obtain ⟨n1, n2⟩ := CT_no (by omega) hC
    by_cases hb : b = -1
    · refine ⟨-1, I, J, fun v6 c6 => wp_T_soon_48 _ _ _ _ _ v6 c6 hS ⟨fun _ => ⟨fun h => absurd (n1 hb) h, fun _ => rfl⟩, fun h => absurd (by decide) h⟩, fun v7 v8 c7 c8 => wp_Z_soon_39 _ _ _ _ _ _ v7 c7 v8 c8 hS ⟨fun _ => ⟨fun _ => by rw [hl hb], fun _ => by rw [hb]⟩, fun h => absurd (by decide) h⟩, FrH.rf, FZ.rf⟩
    · obtain ⟨g0, g1, g2⟩ := CT_end (by omega) hC hb
      refine ⟨f_T_choiceOrCost L x3, I, J, fun v6 c6 => wp_T_soon_48 _ _ _ _ _ v6 c6 hS ⟨fun _ => ⟨fun _ => rfl, fun h => absurd h g0⟩, fun h => absurd (by decide) h⟩, fun v7 v8 c7 c8 => wp_Z_soon_39 _ _ _ _ _ _ v7 c7 v8 c8 hS ⟨fun _ => ⟨fun h => by rw [g2 _ h], fun h => by rw [g1 _ h]⟩, fun h => absurd (by decide) h⟩, FrH.rf, FZ.rf⟩
  | succ j ih =>
    intro k I J L b l hk hq hA hC hl
    have nh : ¬ (16 : Int32) < zi k := fun e => absurd ((zi_lt (a := 16) (by omega) (by omega)).1 e) (by omega)
    obtain ⟨w, I1, J1, hw, c1, c2, c3, c4⟩ := rh_sim (X := X) (d := d) hS hn hx (show k ≤ 16 by omega) hA hq near
    have hA1 := hA.fr c3 c4
    have hq1 := (c4.2 34 (by omega)).trans hq
    rcases hw with hw | ⟨e, he, rfl⟩
    · obtain ⟨u, I2, J2, g1, g2, g3, g4⟩ := ih (k + 1) I1 J1 L b l (by omega) hq1 hA1 (CT_keep (by omega) hC) hl
      exact ⟨u, I2, J2, fun v6 c6 => wp_T_soon_48 _ _ _ _ _ v6 c6 hS ⟨fun h => absurd h nh, fun _ => ⟨_, I1, c1.deep (by omega), ⟨fun _ => fun y7_ e1 => (by subst e1; exact (by rw [zi1 k]; exact g1 _ rfl)), fun h => absurd hw h⟩⟩⟩, fun v7 v8 c7 c8 => wp_Z_soon_39 _ _ _ _ _ _ v7 c7 v8 c8 hS ⟨fun h => absurd h nh, fun _ => ⟨_, J1, c2, ⟨fun _ => fun y7_ e1 => (by subst e1; exact (by rw [zi1 k]; exact g2 _ _ rfl rfl)), fun h => absurd hw h⟩⟩⟩, c3.tr g3, c4.tr g4⟩
    · have hw : ¬ zi e = -1 := zi_nm (by omega)
      obtain ⟨s1, s2, s3⟩ := CT_step (k := k + 1) (c := e) (h := k) (by omega) (by omega) (by omega) hC
      by_cases b1 : b = -1
      · obtain ⟨u, I2, J2, g1, g2, g3, g4⟩ := ih (k + 1) I1 J1 _ _ _ (by omega) hq1 hA1 (s1 b1) (fun h => absurd h (zi_nm (by omega)))
        exact ⟨u, I2, J2, fun v6 c6 => wp_T_soon_48 _ _ _ _ _ v6 c6 hS ⟨fun h => absurd h nh, fun _ => ⟨_, I1, c1.deep (by omega), ⟨fun h => absurd h hw, fun _ => fun y8_ e1 => (by subst e1; exact fun y9_ e2 => (by subst e2; exact (by rw [zi1 k]; exact g1 _ rfl)))⟩⟩⟩, fun v7 v8 c7 c8 => wp_Z_soon_39 _ _ _ _ _ _ v7 c7 v8 c8 hS ⟨fun h => absurd h nh, fun _ => ⟨_, J1, c2, ⟨fun h => absurd h hw, fun _ => ⟨fun _ => fun y9_ e1 => (by subst e1; exact (by rw [zi1 k]; exact g2 _ _ rfl rfl)), fun h => absurd b1 h⟩⟩⟩⟩, c3.tr g3, c4.tr g4⟩
      by_cases b2 : l ≤ zi e
      · obtain ⟨u, I2, J2, g1, g2, g3, g4⟩ := ih (k + 1) I1 J1 _ _ _ (by omega) hq1 hA1 (s2 b1 b2) hl
        exact ⟨u, I2, J2, fun v6 c6 => wp_T_soon_48 _ _ _ _ _ v6 c6 hS ⟨fun h => absurd h nh, fun _ => ⟨_, I1, c1.deep (by omega), ⟨fun h => absurd h hw, fun _ => fun y8_ e1 => (by subst e1; exact fun y9_ e2 => (by subst e2; exact (by rw [zi1 k]; exact g1 _ rfl)))⟩⟩⟩, fun v7 v8 c7 c8 => wp_Z_soon_39 _ _ _ _ _ _ v7 c7 v8 c8 hS ⟨fun h => absurd h nh, fun _ => ⟨_, J1, c2, ⟨fun h => absurd h hw, fun _ => ⟨fun h => absurd h b1, fun _ => ⟨fun _ => fun y11_ e1 => (by subst e1; exact (by rw [zi1 k]; exact g2 _ _ rfl rfl)), fun h => absurd b2 h⟩⟩⟩⟩⟩, c3.tr g3, c4.tr g4⟩
      · obtain ⟨u, I2, J2, g1, g2, g3, g4⟩ := ih (k + 1) I1 J1 _ _ _ (by omega) hq1 hA1 (s3 b1 b2) (fun h => absurd h (zi_nm (by omega)))
        exact ⟨u, I2, J2, fun v6 c6 => wp_T_soon_48 _ _ _ _ _ v6 c6 hS ⟨fun h => absurd h nh, fun _ => ⟨_, I1, c1.deep (by omega), ⟨fun h => absurd h hw, fun _ => fun y8_ e1 => (by subst e1; exact fun y9_ e2 => (by subst e2; exact (by rw [zi1 k]; exact g1 _ rfl)))⟩⟩⟩, fun v7 v8 c7 c8 => wp_Z_soon_39 _ _ _ _ _ _ v7 c7 v8 c8 hS ⟨fun h => absurd h nh, fun _ => ⟨_, J1, c2, ⟨fun h => absurd h hw, fun _ => ⟨fun h => absurd h b1, fun _ => ⟨fun h => absurd h b2, fun _ => fun y12_ e1 => (by subst e1; exact (by rw [zi1 k]; exact g2 _ _ rfl rfl))⟩⟩⟩⟩⟩, c3.tr g3, c4.tr g4⟩
theorem q_soon (x1 x2 x3 : Int32) : Quiet 89 182 [.int x1, .int x2, .int x3] := by
  intro X n m G I J R
  have hS := R.S
  have hn := R.H.le
  have es := R.sh x1
  by_cases hs : f_T_isShower I x1 = 0
  · exact ⟨_, I, J, Cv.of hq_89 (z_le rfl) rfl (wp_T_soon _ _ _ (by omega) hS ⟨fun h => absurd hs h, fun _ => rfl⟩), Cv.of hq_182 (z_le rfl) rfl (wp_Z_soon _ _ _ (by omega) hS ⟨fun h => absurd (es.trans hs) h, fun _ => rfl⟩), FC.rf, FZ.rf⟩
  have hs' : ¬ f_Z_isShower J x1 = 0 := fun h => hs (es.symm.trans h)
  by_cases h2 : f_T_isWarm x2 = 0
  · exact ⟨_, I, J, Cv.of hq_89 (z_le rfl) rfl (wp_T_soon _ _ _ (by omega) hS ⟨fun _ => ⟨fun _ => rfl, fun h => absurd h2 h⟩, fun h => absurd h hs⟩), Cv.of hq_182 (z_le rfl) rfl (wp_Z_soon _ _ _ (by omega) hS ⟨fun _ => ⟨fun _ => rfl, fun h => absurd h2 h⟩, fun h => absurd h hs'⟩), FC.rf, FZ.rf⟩
  by_cases h3 : f_T_within x3 0 1 = 0
  · exact ⟨_, I, J, Cv.of hq_89 (z_le rfl) rfl (wp_T_soon _ _ _ (by omega) hS ⟨fun _ => ⟨fun h => absurd h h2, fun _ => ⟨fun h => absurd h3 h, fun _ => rfl⟩⟩, fun h => absurd h hs⟩), Cv.of hq_182 (z_le rfl) rfl (wp_Z_soon _ _ _ (by omega) hS ⟨fun _ => ⟨fun h => absurd h h2, fun _ => ⟨fun h => absurd h3 h, fun _ => rfl⟩⟩, fun h => absurd h hs'⟩), FC.rf, FZ.rf⟩
  obtain ⟨x, hx, rfl⟩ := R.shx hs
  obtain ⟨r, I0, c0, f0, hA, -⟩ := think (X := X) (d := 98) R
  have hA0 : ADh x n r m G I0 J := fun h hh => hA.hasteUp hx hh
  obtain ⟨w, I1, J1, k1, k2, k3, k4⟩ := soon_loop (X := X) (d := 91) hS hn hx x2 x3 17 0 I0 J 2147483647 (-1) (-1) (by omega) R.q hA0 CT_none (fun _ => rfl)
  exact ⟨_, I1, J1, Cv.of hq_89 (z_le rfl) rfl (wp_T_soon _ _ _ (by omega) hS ⟨fun _ => ⟨fun h => absurd h h2, fun _ => ⟨fun _ => ⟨I0, c0, (k1 _ rfl)⟩, fun h => absurd h h3⟩⟩, fun h => absurd h hs⟩), Cv.of hq_182 (z_le rfl) rfl (wp_Z_soon _ _ _ (by omega) hS ⟨fun _ => ⟨fun h => absurd h h2, fun _ => ⟨fun _ => (k2 _ _ rfl rfl), fun h => absurd h h3⟩⟩, fun h => absurd h hs'⟩), f0.tr k3.C, k4⟩
