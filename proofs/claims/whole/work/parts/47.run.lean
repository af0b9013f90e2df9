/-! A MORNING, both -/
def MF (I J : zI) (n t x : Nat) : Prop := (∀ s y, (s < t ∨ (s = t ∧ y < x)) → y < n → I (27 + y) s = J 74 (4 * s + y) ∧ rg (J 74 (4 * s + y)) 999) ∧ (∀ s y, s ≤ t → y < n → I (32 + y) s = J 73 (4 * s + y) ∧ rg (J 73 (4 * s + y)) 999) ∧ ∀ y, y < n → I 36 y = J 75 y ∧ I 37 y = J 76 y ∧ I 38 y = J 77 y ∧ rg (J 75 y) ((99 * t : Nat) : Int)
theorem z41 (x t : Nat) : (4 : Int32) * zi t + zi x = zi (4 * t + x) := by rw [show (4 : Int32) = zi 4 from rfl, zi_mul, zi_add]
theorem z51 (x k : Nat) : (5 : Int32) * zi x + zi k = zi (5 * x + k) := by rw [show (5 : Int32) = zi 5 from rfl, zi_mul, zi_add]
theorem zi1 (x : Nat) : zi x + 1 = zi (x + 1) := zi_add (b := 1)
theorem feel_loop {X : Nat × (Nat → Int32)} {d : Nat} {G : zG} (hS : SG G) {o w n t : Nat} (ho : HH G o) (ho7 : o + 7 < 27) (ht : t < 30) (b q b2 : Int32) :
    ∀ (m x : Nat) (I J : zI), x + m = n → RH o I J n → MF I J n t x →
    ∃ I1 J1 : zI, (∀ res, Ev X (d + 4) 63 106 [.ref 25, .ref o, .ref w, .int b, .int q, .int b2, .int (zi t), .int 0] [] G I1 res → Ev X (d + 4) 63 79 [.ref 25, .ref o, .ref w, .int b, .int q, .int b2, .int (zi t), .int (zi x)] [] G I res) ∧
      (∀ res, Ev X (d + 4) 160 34 [.ref 57, .int (zi t), .int 0, zU, zU, zU] [] G J1 res → Ev X (d + 4) 160 2 [.ref 57, .int (zi t), .int (zi x), zU, zU, zU] [] G J res) ∧ FrM w I I1 ∧ FrR J J1 ∧ MX I1 J1 n t 0 := by
  intro m
  induction m with
  | zero =>
    intro x I J hx hR hM
    obtain rfl : x = n := by omega
    have h4 := hR.le
    obtain ⟨a, b, c⟩ := hM
    refine ⟨I, J, fun res k => wp_M_run_79 o w _ _ _ _ _ hS ho ⟨fun _ => k, fun h => absurd ?_ h⟩, fun res k => wp_Z_beats_2 _ _ hS ⟨fun _ => k, fun h => absurd ?_ h⟩, fun _ _ _ _ => rfl, fun _ _ => rfl, fun s y h1 h2 => a s y (by omega) h2, fun s y h1 h2 => b s y (by omega) h2, fun y h2 => ?_⟩
    · rw [hR.ci]; exact Int32.le_refl _
    · rw [hR.cj]; exact Int32.le_refl _
    · rw [if_neg (by omega)]; exact c y h2
  | succ m ih =>
    intro x I J hx hR hM
    have h4 := hR.le
    have hxn : x < n := by omega
    have nx : ¬ zi n ≤ zi x := fun h => absurd ((zi_le (by omega) (by omega)).1 h) (by omega)
    obtain ⟨a, b', c⟩ := id hM
    obtain ⟨r, hr, cc, cz⟩ := feel_sim (X := X) (d := d + 1) hS ho hR hxn ht (fun s y h1 h2 => (b' s y h1 h2).1)
    obtain ⟨I2, hI2⟩ : ∃ I2 : zI, I2 = z_up I (27 + x) t r := ⟨_, rfl⟩
    obtain ⟨J2, hJ2⟩ : ∃ J2 : zI, J2 = z_up J 74 (4 * t + x) r := ⟨_, rfl⟩
    have fI : ∀ c, c ≠ 27 + x → I2 c = I c := fun c h => by rw [hI2, up_cell h]
    have fJ : ∀ c, c ≠ 74 → J2 c = J c := fun c h => by rw [hJ2, up_cell h]
    obtain ⟨I1, J1, k1, k2, k3, k4, k5⟩ := ih (x + 1) I2 J2 (by omega) (hR.fr (fun c _ _ => fI c (by omega)) (by rw [fJ 57 (by decide)]) (fJ 58 (by decide)) (fJ 59 (by decide)) (fJ 60 (by decide))) (by
      refine ⟨fun s y h1 h2 => ?_, fun s y h1 h2 => ?_, fun y h2 => ?_⟩
      · by_cases e : s = t ∧ y = x
        · obtain ⟨rfl, rfl⟩ := e
          rw [hI2, hJ2, up_same, up_same]; exact ⟨rfl, hr⟩
        · have e1 : I2 (27 + y) s = I (27 + y) s := by
            by_cases e2 : y = x
            · subst e2; rw [hI2, up_place (by omega)]
            · exact congrFun (fI _ (by omega)) s
          rw [e1, hJ2, up_place (by omega)]; exact a s y (by omega) h2
      · rw [fI _ (by omega), fJ 73 (by decide)]; exact b' s y h1 h2
      · rw [fI 36 (by omega), fI 37 (by omega), fI 38 (by omega), fJ 75 (by decide), fJ 76 (by decide), fJ 77 (by decide)]; exact c y h2)
    refine ⟨I1, J1, fun res k => wp_M_run_79 o w _ _ _ _ _ hS ho ⟨fun h => absurd (by rw [hR.ci] at h; exact h) nx, fun _ => ⟨I2, by rw [hI2]; exact cc, fun y hy => ?_⟩⟩, fun res k => wp_Z_beats_2 _ _ hS ?_, FrM.tr (fun c h _ _ => fI c (by omega)) k3, FrR.tr (fun c h => fJ c (by omega)) k4, k5⟩
    · rw [hy, zi1]; exact k1 res k
    · rw [hR.cj, z41, zi_nat (show 4 * t + x < _ by omega), zi1]
      refine ⟨fun h => absurd h nx, fun _ => ⟨r, J, cz, zi_inr (by omega) (by omega), fun I6 h6 y7 h7 => ?_⟩⟩
      obtain rfl : I6 = J2 := h6.trans hJ2.symm
      rw [h7]; exact k2 res k
theorem body_loop {X : Nat × (Nat → Int32)} {d : Nat} {G : zG} (hS : SG G) {o w t0 n t : Nat} (ho : HH G o) (ho7 : o + 7 < 27) (hw : 52 ≤ w) (ht : t < 30) (b q b2 : Int32) :
    ∀ (m x : Nat) (I J : zI), x + m = n → RH o I J n → TR G I J w t0 → J 57 9 = zi t0 → J 57 34 = q → MX I J n t x →
    ∃ I1 J1 : zI, (∀ res, (∀ v : Value, v.category = 1 → Ev X (d + 4) 63 69 [.ref 25, .ref o, .ref w, .int b, .int q, .int b2, .int (zi (t + 1)), v] [] G I1 res) → Ev X (d + 4) 63 106 [.ref 25, .ref o, .ref w, .int b, .int q, .int b2, .int (zi t), .int (zi x)] [] G I res) ∧
      (∀ v3 v4 v5 : Value, v3.category = 1 → v4.category = 1 → v5.category = 1 → Ev X (d + 4) 160 34 [.ref 57, .int (zi t), .int (zi x), v3, v4, v5] [] G J (none, G, J1)) ∧ FrM w I I1 ∧ FrR J J1 ∧ MX I1 J1 n t n := by
  intro m
  induction m with
  | zero =>
    intro x I J hx hR hT hr hq hM
    obtain rfl : x = n := by omega
    refine ⟨I, J, fun res k => wp_M_run_106 o w _ _ _ _ _ hS ho ⟨fun _ y hy => ?_, fun h => absurd ?_ h⟩, fun v3 v4 v5 c3 c4 c5 => wp_Z_beats_34 _ _ v3 c3 v4 c4 v5 c5 hS ⟨fun _ => rfl, fun h => absurd ?_ h⟩, fun _ _ _ _ => rfl, fun _ _ => rfl, hM⟩
    · rw [hy, zi1]; exact k _ rfl
    · rw [hR.ci]; exact Int32.le_refl _
    · rw [hR.cj]; exact Int32.le_refl _
  | succ m ih =>
    intro x I J hx hR hT hr hq hM
    have h4 := hR.le
    obtain ⟨I2, J2, k1, k2, k3, k4, k5⟩ := body_sim (X := X) (d := d) hS ho ho7 hw hT hr hR (x := x) (by omega) ht hq hM b b2
    obtain ⟨I1, J1, j1, j2, j3, j4, j5⟩ := ih (x + 1) I2 J2 (by omega) (hR.fr (fun c _ _ => k3 c (by omega) (by omega) (by omega)) (by rw [k4 57 (by omega)]) (k4 58 (by omega)) (k4 59 (by omega)) (k4 60 (by omega))) (hT.fr (k3 _ (by omega) (by omega) (by omega)) (k3 _ (by omega) (by omega) (by omega)) (k4 62 (by omega)) (k4 63 (by omega))) (by rw [k4 57 (by omega)]; exact hr) (by rw [k4 57 (by omega)]; exact hq) k5
    exact ⟨I1, J1, fun res k => k1 res (j1 res k), fun v3 v4 v5 c3 c4 c5 => k2 _ j2 v3 v4 v5 c3 c4 c5, k3.tr j3, k4.tr j4, j5⟩
theorem run_loop {X : Nat × (Nat → Int32)} {d : Nat} {G : zG} (hS : SG G) {o w t0 n B : Nat} (ho : HH G o) (ho7 : o + 7 < 27) (hw : 52 ≤ w) (hB : B ≤ 30) (b q : Int32) :
    ∀ (m t : Nat) (I J : zI), t + m = B → RH o I J n → TR G I J w t0 → J 57 9 = zi t0 → J 57 34 = q → MF I J n t 0 →
    ∃ I1 J1 : zI, (∀ v : Value, v.category = 1 → Ev X (d + 4) 63 69 [.ref 25, .ref o, .ref w, .int b, .int q, .int (zi B), .int (zi t), v] [] G I (none, G, I1)) ∧
      Ev X (d + 5) 159 55 [.ref 57, .int (zi B), .int (zi t)] [] G J (none, G, J1) ∧ FrM w I I1 ∧ FrR J J1 ∧ MF I1 J1 n B 0 := by
  intro m
  induction m with
  | zero =>
    intro t I J ht hR hT hr hq hM
    obtain rfl : t = B := by omega
    exact ⟨I, J, fun v cv => wp_M_run_69 o w _ _ _ _ v cv ⟨fun _ => rfl, fun h => absurd (Int32.le_refl _) h⟩, wp_Z_runs_55 _ _ hS ⟨fun _ => rfl, fun h => absurd (Int32.le_refl _) h⟩, fun _ _ _ _ => rfl, fun _ _ => rfl, hM⟩
  | succ m ih =>
    intro t I J ht hR hT hr hq hM
    have nt : ¬ zi B ≤ zi t := fun h => absurd ((zi_le (by omega) (by omega)).1 h) (by omega)
    obtain ⟨I2, J2, k1, k2, k3, k4, k5⟩ := feel_loop (X := X) (d := d) (w := w) hS ho ho7 (t := t) (by omega) b q (zi B) n 0 I J (by omega) hR hM
    have hR2 : RH o I2 J2 n := hR.fr (fun c _ _ => k3 c (by omega) (by omega) (by omega)) (by rw [k4 57 (by omega)]) (k4 58 (by omega)) (k4 59 (by omega)) (k4 60 (by omega))
    have hT2 : TR G I2 J2 w t0 := hT.fr (k3 _ (by omega) (by omega) (by omega)) (k3 _ (by omega) (by omega) (by omega)) (k4 62 (by omega)) (k4 63 (by omega))
    have hr2 : J2 57 9 = zi t0 := by rw [k4 57 (by omega)]; exact hr
    have hq2 : J2 57 34 = q := by rw [k4 57 (by omega)]; exact hq
    obtain ⟨I3, J3, l1, l2, l3, l4, l5⟩ := body_loop (X := X) (d := d) hS ho ho7 hw (t := t) (by omega) b q (zi B) n 0 I2 J2 (by omega) hR2 hT2 hr2 hq2 k5
    obtain ⟨I1, J1, j1, j2, j3, j4, j5⟩ := ih (t + 1) I3 J3 (by omega) (hR2.fr (fun c _ _ => l3 c (by omega) (by omega) (by omega)) (by rw [l4 57 (by omega)]) (l4 58 (by omega)) (l4 59 (by omega)) (l4 60 (by omega))) (hT2.fr (l3 _ (by omega) (by omega) (by omega)) (l3 _ (by omega) (by omega) (by omega)) (l4 62 (by omega)) (l4 63 (by omega))) (by rw [l4 57 (by omega)]; exact hr2) (by rw [l4 57 (by omega)]; exact hq2) (by
      obtain ⟨a, b, c⟩ := l5
      refine ⟨fun s y h1 h2 => a s y (by omega) h2, fun s y h1 h2 => b s y (by omega) h2, fun y h2 => ?_⟩
      have := c y h2
      rw [if_pos h2] at this; exact this)
    refine ⟨I1, J1, fun v cv => wp_M_run_69 o w _ _ _ _ v cv ⟨fun h => absurd h nt, fun _ => ?_⟩, wp_Z_runs_55 _ _ hS ⟨fun h => absurd h nt, fun _ => ⟨J3, ?_, fun y hy => ?_⟩⟩, (k3.tr l3).tr j3, (k4.tr l4).tr j4, j5⟩
    · exact k1 _ (l1 _ j1)
    · exact Cv.of hq_160 (z_le rfl) rfl (wp_Z_beats _ (k2 _ (l2 _ _ _ rfl rfl rfl)))
    · rw [hy, zi1]; exact j2
theorem init_loop {X : Nat × (Nat → Int32)} {d : Nat} {G : zG} (hS : SG G) {o w n : Nat} (ho : HH G o) (ho7 : o + 7 < 27) (b q : Int32) :
    ∀ (m x : Nat) (I J : zI), x + m = n → RH o I J n → (∀ y, y < x → I (32 + y) 0 = J 73 y ∧ rg (J 73 y) 999 ∧ I 36 y = 0 ∧ J 75 y = 0 ∧ I 37 y = 0 ∧ J 76 y = 0 ∧ I 38 y = 0 ∧ J 77 y = 0) →
    ∃ I1 J1 : zI, (∀ res, (∀ v : Value, v.category = 1 → Ev X (d + 1) 63 69 [.ref 25, .ref o, .ref w, .int b, .int q, .int (if 30 < b then 30 else b), .int 0, v] [] G I1 res) → Ev X (d + 1) 63 3 [.ref 25, .ref o, .ref w, .int b, .int q, .int (zi x), zU, zU] [] G I res) ∧
      (∀ res, Ev X (d + 2) 159 55 [.ref 57, .int b, .int 0] [] G J1 res → Ev X (d + 2) 159 2 [.ref 57, .int b, .int (zi x)] [] G J res) ∧ FrM w I I1 ∧ FrR J J1 ∧ MF I1 J1 n 0 0 := by
  intro m
  induction m with
  | zero =>
    intro x I J hx hR hM
    obtain rfl : x = n := by omega
    refine ⟨I, J, fun res k => wp_M_run_3 o w _ _ _ hS ho ⟨fun _ y hy => by rw [hy]; exact k _ rfl, fun h => absurd ?_ h⟩, fun res k => wp_Z_runs_2 _ _ hS ⟨fun _ => k, fun h => absurd ?_ h⟩, fun _ _ _ _ => rfl, fun _ _ => rfl, fun s y h1 h2 => absurd h1 (by omega), fun s y h1 h2 => ?_, fun y h2 => ?_⟩
    · rw [hR.ci]; exact Int32.le_refl _
    · rw [hR.cj]; exact Int32.le_refl _
    · obtain rfl : s = 0 := by omega
      rw [show 4 * 0 + y = y by omega]
      exact ⟨(hM y h2).1, (hM y h2).2.1⟩
    · obtain ⟨-, -, e1, e2, e3, e4, e5, e6⟩ := hM y h2
      rw [e1, e2, e3, e4, e5, e6]
      exact ⟨rfl, rfl, rfl, by decide, by decide⟩
  | succ m ih =>
    intro x I J hx hR hM
    have h4 := hR.le
    have hxn : x < n := by omega
    have hX := hR.at' x hxn
    have nx : ¬ zi n ≤ zi x := fun h => absurd ((zi_le (by omega) (by omega)).1 h) (by omega)
    obtain ⟨I2, hI2⟩ : ∃ I2 : zI, I2 = z_up (z_up (z_up (z_up I (32 + x) 0 (J 60 (5 * x + 2))) 36 x 0) 37 x 0) 38 x 0 := ⟨_, rfl⟩
    obtain ⟨J2, hJ2⟩ : ∃ J2 : zI, J2 = z_up (z_up (z_up (z_up J 73 x (J 60 (5 * x + 2))) 75 x 0) 76 x 0) 77 x 0 := ⟨_, rfl⟩
    have fI : ∀ c, c ≠ 32 + x → c ≠ 36 → c ≠ 37 → c ≠ 38 → I2 c = I c := fun c h1 h2 h3 h5 => by rw [hI2, up_cell h5, up_cell h3, up_cell h2, up_cell h1]
    have fJ : ∀ c, c ≠ 73 → c ≠ 75 → c ≠ 76 → c ≠ 77 → J2 c = J c := fun c h1 h2 h3 h5 => by rw [hJ2, up_cell h5, up_cell h3, up_cell h2, up_cell h1]
    obtain ⟨I1, J1, k1, k2, k3, k4, k5⟩ := ih (x + 1) I2 J2 (by omega) (hR.fr (fun c _ _ => fI c (by omega) (by omega) (by omega) (by omega)) (by rw [fJ 57 (by decide) (by decide) (by decide) (by decide)]) (fJ 58 (by decide) (by decide) (by decide) (by decide)) (fJ 59 (by decide) (by decide) (by decide) (by decide)) (fJ 60 (by decide) (by decide) (by decide) (by decide))) (by
      intro y hy
      by_cases e : y = x
      · subst e
        refine ⟨?_, ?_, ?_, ?_, ?_, ?_, ?_, ?_⟩
        · rw [hI2, hJ2, up_cell (by omega), up_cell (by omega), up_cell (by omega), up_same, up_cell (by omega), up_cell (by omega), up_cell (by omega), up_same]
        · rw [hJ2, up_cell (by omega), up_cell (by omega), up_cell (by omega), up_same]; exact hX.rs
        · rw [hI2, up_cell (by omega), up_cell (by omega), up_same]
        · rw [hJ2, up_cell (by omega), up_cell (by omega), up_same]
        · rw [hI2, up_cell (by omega), up_same]
        · rw [hJ2, up_cell (by omega), up_same]
        · rw [hI2, up_same]
        · rw [hJ2, up_same]
      · obtain ⟨e1, e2, e3, e4, e5, e6, e7, e8⟩ := hM y (by omega)
        refine ⟨?_, ?_, ?_, ?_, ?_, ?_, ?_, ?_⟩
        · rw [fI _ (by omega) (by omega) (by omega) (by omega), hJ2, up_cell (by omega), up_cell (by omega), up_cell (by omega), up_place e]; exact e1
        · rw [hJ2, up_cell (by omega), up_cell (by omega), up_cell (by omega), up_place e]; exact e2
        · rw [hI2, up_cell (by omega), up_cell (by omega), up_place e, up_cell (by omega)]; exact e3
        · rw [hJ2, up_cell (by omega), up_cell (by omega), up_place e, up_cell (by omega)]; exact e4
        · rw [hI2, up_cell (by omega), up_place e, up_cell (by omega), up_cell (by omega)]; exact e5
        · rw [hJ2, up_cell (by omega), up_place e, up_cell (by omega), up_cell (by omega)]; exact e6
        · rw [hI2, up_place e, up_cell (by omega), up_cell (by omega), up_cell (by omega)]; exact e7
        · rw [hJ2, up_place e, up_cell (by omega), up_cell (by omega), up_cell (by omega)]; exact e8)
    refine ⟨I1, J1, fun res k => wp_M_run_3 o w _ _ _ hS ho ?_, fun res k => wp_Z_runs_2 _ _ hS ?_, FrM.tr (fun c h _ _ => fI c (by omega) (by omega) (by omega) (by omega)) k3, FrR.tr (fun c h => fJ c (by omega) (by omega) (by omega) (by omega)) k4, k5⟩
    · rw [hR.ci, zi_nat (show x < _ by omega), zi1, show I (o + (4 + 1)) x = J 60 (5 * x + 2) from hX.set]
      refine ⟨fun h => absurd h nx, fun _ => ⟨zi_inr (by omega) (by omega), zi_inr (by omega) (by omega), fun A1 g1 => ⟨zi_inr (by omega) (by omega), fun A2 g2 => ⟨zi_inr (by omega) (by omega), fun A3 g3 => ⟨zi_inr (by omega) (by omega), fun A4 g4 y hy => ?_⟩⟩⟩⟩⟩
      obtain rfl : A4 = I2 := by rw [g4, g3, g2, g1, hI2]; rfl
      rw [hy]; exact k1 res k
    · rw [hR.cj, show (5 : Int32) * zi x + 2 = zi (5 * x + 2) from z51 x 2, zi_nat (show x < _ by omega), zi_nat (show 5 * x + 2 < _ by omega), zi1]
      refine ⟨fun h => absurd h nx, fun _ => ⟨zi_inr (by omega) (by omega), zi_inr (by omega) (by omega), fun A1 g1 => ⟨zi_inr (by omega) (by omega), fun A2 g2 => ⟨zi_inr (by omega) (by omega), fun A3 g3 => ⟨zi_inr (by omega) (by omega), fun A4 g4 y hy => ?_⟩⟩⟩⟩⟩
      obtain rfl : A4 = J2 := by rw [g4, g3, g2, g1, hJ2]
      rw [hy]; exact k2 res k
/-- a morning of B beats -/
theorem run_sim {X : Nat × (Nat → Int32)} {d : Nat} {G : zG} (hS : SG G) {o w t0 n B : Nat} (ho : HH G o) (ho7 : o + 7 < 27) (hw : 52 ≤ w) (hB : B ≤ 30) {I J : zI} (hR : RH o I J n) (hT : TR G I J w t0) (hr : J 57 9 = zi t0) {q : Int32} (hq : J 57 34 = q) :
    ∃ I1 J1 : zI, Cv X (d + 5) 63 [.ref 25, .ref o, .ref w, .int (zi B), .int q] G I (none, G, I1) ∧ Cv X (d + 5) 159 [.ref 57, .int (zi B)] G J (none, G, J1) ∧ FrM w I I1 ∧ FrR J J1 ∧ MF I1 J1 n B 0 := by
  obtain ⟨I2, J2, k1, k2, k3, k4, k5⟩ := init_loop (X := X) (d := d + 3) (w := w) hS ho ho7 (zi B) q n 0 I J (by omega) hR (fun y h => absurd h (by omega))
  obtain ⟨I1, J1, j1, j2, j3, j4, j5⟩ := run_loop (X := X) (d := d) hS ho ho7 hw hB (zi B) q B 0 I2 J2 (by omega) (hR.fr (fun c _ _ => k3 c (by omega) (by omega) (by omega)) (by rw [k4 57 (by omega)]) (k4 58 (by omega)) (k4 59 (by omega)) (k4 60 (by omega))) (hT.fr (k3 _ (by omega) (by omega) (by omega)) (k3 _ (by omega) (by omega) (by omega)) (k4 62 (by omega)) (k4 63 (by omega))) (by rw [k4 57 (by omega)]; exact hr) (by rw [k4 57 (by omega)]; exact hq) k5
  refine ⟨I1, J1, (Cv.of hq_63 (z_le rfl) rfl (wp_M_run o w _ _ (k1 _ fun v hv => ?_))).deep (by omega), ?_, k3.tr j3, k4.tr j4, j5⟩
  · have e : (if (30 : Int32) < zi B then 30 else zi B) = zi B := if_neg (fun h => absurd ((zi_lt (a := 30) (by omega) (by omega)).1 h) (by omega))
    rw [e]; exact j1 v hv
  · exact Cv.of hq_159 (z_le rfl) rfl (wp_Z_runs _ (k2 _ j2))
