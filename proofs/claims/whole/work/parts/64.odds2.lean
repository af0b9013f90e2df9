set_option maxRecDepth 20000 in
theorem wp_Z_lowest_16b {X : Nat × (Nat → Int32)} {d : Nat} {G : zG} {I : zI} {res : Option Value × zG × zI} (x0 : Int64) (x2 : Int64) (x4 : Int32) (x5 : Int64) (x7 : Int64) (x9 : Int64) 
    (k : ((lg_cmp x7 0) = 0 → (¬ x4 = 0 → (¬ x5 = 0) ∧ (res = (some (.long (x2 / x5)), G, I))) ∧ (x4 = 0 → (¬ x5 = 0) ∧ (res = (some (.long (x0 / x5)), G, I)))) ∧ (¬ (lg_cmp x7 0) = 0 → (¬ x7 = 0) ∧ (∀ y6 : Int64, y6 = (x5 - x5 / x7 * x7) → Ev X d 206 16 [.long x0, zU, .long x2, zU, .int x4, .long x7, zU, .long y6, zU, .long y6, zU] [] G I res))) :
    Ev X d 206 16 [.long x0, zU, .long x2, zU, .int x4, .long x5, zU, .long x7, zU, .long x9, zU] [] G I res := by
  refine Ev_lload hq_206 (show decode prog_7_method_79_code 16 = .ok (.lload 7, 2) by decide +kernel) rfl ?_
  refine Ev_lconst (v := 0) hq_206 (show decode prog_7_method_79_code 18 = .ok (.lconst 0, 1) by decide +kernel) (by decide) ?_
  refine Ev_lcmp hq_206 (show decode prog_7_method_79_code 19 = .ok (.lcmp, 1) by decide +kernel) ?_
  refine Ev_if_eq (tgt := 41) hq_206 (show decode prog_7_method_79_code 20 = .ok (.ifCond .eq 21, 3) by decide +kernel) (by decide) (fun c1 => ?_) (fun c1 => ?_)
  · have k := k.1 c1
    refine Ev_iload hq_206 (show decode prog_7_method_79_code 41 = .ok (.iload 4, 2) by decide +kernel) rfl ?_
    refine Ev_if_ne (tgt := 50) hq_206 (show decode prog_7_method_79_code 43 = .ok (.ifCond .ne 7, 3) by decide +kernel) (by decide) (fun c2 => ?_) (fun c2 => ?_)
    · have k := k.1 c2
      refine Ev_lload_n hq_206 (show decode prog_7_method_79_code 50 = .ok (.lload_n 2, 1) by decide +kernel) rfl ?_
      refine Ev_lload hq_206 (show decode prog_7_method_79_code 51 = .ok (.lload 5, 2) by decide +kernel) rfl ?_
      obtain ⟨h3, k⟩ := k
      refine Ev_ldiv hq_206 (show decode prog_7_method_79_code 53 = .ok (.ldiv, 1) by decide +kernel) h3 ?_
      exact Ev_lret hq_206 (show decode prog_7_method_79_code 54 = .ok (.lreturn, 1) by decide +kernel) k
    · have k := k.2 (Classical.not_not.mp c2)
      refine Ev_lload_n hq_206 (show decode prog_7_method_79_code 46 = .ok (.lload_n 0, 1) by decide +kernel) rfl ?_
      refine Ev_goto (tgt := 51) hq_206 (show decode prog_7_method_79_code 47 = .ok (.goto 4, 3) by decide +kernel) (by decide) ?_
      refine Ev_lload hq_206 (show decode prog_7_method_79_code 51 = .ok (.lload 5, 2) by decide +kernel) rfl ?_
      obtain ⟨h4, k⟩ := k
      refine Ev_ldiv hq_206 (show decode prog_7_method_79_code 53 = .ok (.ldiv, 1) by decide +kernel) h4 ?_
      exact Ev_lret hq_206 (show decode prog_7_method_79_code 54 = .ok (.lreturn, 1) by decide +kernel) k
  · have k := k.2 c1
    refine Ev_lload hq_206 (show decode prog_7_method_79_code 23 = .ok (.lload 5, 2) by decide +kernel) rfl ?_
    refine Ev_lload hq_206 (show decode prog_7_method_79_code 25 = .ok (.lload 7, 2) by decide +kernel) rfl ?_
    obtain ⟨h5, k⟩ := k
    refine Ev_lrem hq_206 (show decode prog_7_method_79_code 27 = .ok (.lrem, 1) by decide +kernel) h5 ?_
    obtain ⟨y6, ey6⟩ : ∃ y6 : Int64, y6 = (x5 - x5 / x7 * x7) := ⟨_, rfl⟩
    have k := k y6 ey6
    rw [← ey6]
    refine Ev_lstore (lo2 := [.long x0, zU, .long x2, zU, .int x4, .long x5, zU, .long x7, zU, .long y6, zU]) hq_206 (show decode prog_7_method_79_code 28 = .ok (.lstore 9, 2) by decide +kernel) (z_le rfl) rfl ?_
    refine Ev_lload hq_206 (show decode prog_7_method_79_code 30 = .ok (.lload 7, 2) by decide +kernel) rfl ?_
    refine Ev_lstore (lo2 := [.long x0, zU, .long x2, zU, .int x4, .long x7, zU, .long x7, zU, .long y6, zU]) hq_206 (show decode prog_7_method_79_code 32 = .ok (.lstore 5, 2) by decide +kernel) (z_le rfl) rfl ?_
    refine Ev_lload hq_206 (show decode prog_7_method_79_code 34 = .ok (.lload 9, 2) by decide +kernel) rfl ?_
    refine Ev_lstore (lo2 := [.long x0, zU, .long x2, zU, .int x4, .long x7, zU, .long y6, zU, .long y6, zU]) hq_206 (show decode prog_7_method_79_code 36 = .ok (.lstore 7, 2) by decide +kernel) (z_le rfl) rfl ?_
    refine Ev_goto (tgt := 16) hq_206 (show decode prog_7_method_79_code 38 = .ok (.goto (-22), 3) by decide +kernel) (by decide) ?_
    exact k
theorem rest_all {X : Nat × (Nat → Int32)} {d : Nat} {G : zG} (hS : SG G) {I J : zI} {n : Nat} (hn : n ≤ 4) (hi : I 9 7 = zi n) (hj : J 57 0 = zi n) (near : Int32)
    (h1 : ∀ x, x < n → I 16 x = J 60 (5 * x + 4) ∧ I 13 x = J 60 (5 * x + 1) ∧ (J 60 (5 * x + 4) = 0 ∨ J 60 (5 * x + 4) = 1) ∧ ∀ s, s < 30 → I (27 + x) s = J 74 (4 * s + x)) :
    ∀ (m x : Nat), x + m = n → ∃ b : Int32, (b = 0 ∨ b = 1) ∧ Ev X (d + 2) 116 2 [.ref 0, .int near, .int (zi x)] [] G I (some (.int b), G, I) ∧ Ev X (d + 2) 205 2 [.ref 57, .int near, .int (zi x)] [] G J (some (.int b), G, J) := by
  intro m
  induction m with
  | zero =>
    intro x hx
    obtain rfl : x = n := by omega
    exact ⟨1, Or.inr rfl, wp_T_allRest_2 _ _ hS ⟨fun _ => rfl, fun h => absurd (by rw [hi]; exact Int32.le_refl _) h⟩, wp_Z_allRest_2 _ _ hS ⟨fun _ => rfl, fun h => absurd (by rw [hj]; exact Int32.le_refl _) h⟩⟩
  | succ m ih =>
    intro x hx
    have nx : ¬ zi n ≤ zi x := fun h => absurd ((zi_le (by omega) (by omega)).1 h) (by omega)
    obtain ⟨a1, a2, a3, a4⟩ := h1 x (by omega)
    have cO := c_isOn (X := X) (d := d + 1) hS (J := J) (x := x) (by omega)
    obtain ⟨r, -, c1, c2⟩ := rest_sim (X := X) (d := d) hS (I := I) (J := J) (x := x) (by omega) a4 near
    rcases a3 with o0 | o1
    · obtain ⟨b, hb, k1, k2⟩ := ih (x + 1) (by omega)
      have o1 : ¬ J 60 (5 * x + 4) = 1 := by rw [o0]; decide
      exact ⟨b, hb, wp_T_allRest_2 _ _ hS (by rw [hi, zi_nat (show x < _ by omega), (h1 x (by omega)).1, (h1 x (by omega)).2.1]; exact ⟨fun h => absurd h nx, fun _ => ⟨zi_inr (by omega) (by omega), ⟨fun _ => fun y4_ e1 => (by subst e1; exact (by rw [zi1 x]; exact k1)), fun h => absurd h o1⟩⟩⟩), wp_Z_allRest_2 _ _ hS (by rw [hj]; exact ⟨fun h => absurd h nx, fun _ => ⟨_, J, cO, ⟨fun _ => fun y6_ e1 => (by subst e1; exact (by rw [zi1 x]; exact k2)), fun h => absurd (by rw [if_neg o1]) h⟩⟩⟩)⟩
    · by_cases hr : r = -1
      · exact ⟨0, Or.inl rfl, wp_T_allRest_2 _ _ hS (by rw [hi, zi_nat (show x < _ by omega), (h1 x (by omega)).1, (h1 x (by omega)).2.1]; exact ⟨fun h => absurd h nx, fun _ => ⟨zi_inr (by omega) (by omega), ⟨fun h => absurd o1 h, fun _ => ⟨zi_inr (by omega) (by omega), ⟨r, I, c1, ⟨fun h => absurd hr h, fun _ => rfl⟩⟩⟩⟩⟩⟩), wp_Z_allRest_2 _ _ hS (by rw [hj]; exact ⟨fun h => absurd h nx, fun _ => ⟨_, J, cO, ⟨fun h => absurd h (by rw [if_pos o1]; decide), fun _ => ⟨r, J, c2, ⟨fun h => absurd hr h, fun _ => rfl⟩⟩⟩⟩⟩)⟩
      · obtain ⟨b, hb, k1, k2⟩ := ih (x + 1) (by omega)
        exact ⟨b, hb, wp_T_allRest_2 _ _ hS (by rw [hi, zi_nat (show x < _ by omega), (h1 x (by omega)).1, (h1 x (by omega)).2.1]; exact ⟨fun h => absurd h nx, fun _ => ⟨zi_inr (by omega) (by omega), ⟨fun h => absurd o1 h, fun _ => ⟨zi_inr (by omega) (by omega), ⟨r, I, c1, ⟨fun _ => fun y10_ e1 => (by subst e1; exact (by rw [zi1 x]; exact k1)), fun h => absurd h hr⟩⟩⟩⟩⟩⟩), wp_Z_allRest_2 _ _ hS (by rw [hj]; exact ⟨fun h => absurd h nx, fun _ => ⟨_, J, cO, ⟨fun h => absurd h (by rw [if_pos o1]; decide), fun _ => ⟨r, J, c2, ⟨fun _ => fun y11_ e1 => (by subst e1; exact (by rw [zi1 x]; exact k2)), fun h => absurd h hr⟩⟩⟩⟩⟩)⟩
/-- the greatest from d down by which both can be divided -/
def cdv (a b : Nat) : Nat → Nat
  | 0 => 1
  | d + 1 => if d = 0 then 1 else if a % (d + 1) = 0 ∧ b % (d + 1) = 0 then d + 1 else cdv a b d
theorem cdv_gcd : ∀ b, b < 31 → 0 < b → ∀ a, a ≤ b → cdv a b b = Nat.gcd a b := by decide +kernel
theorem cdv_loop {X : Nat × (Nat → Int32)} {D : Nat} {G : zG} {I : zI} {a b : Nat} (ha : a < 1000) (hb : b < 1000) :
    ∀ k : Nat, k < 1000 → Ev X D 117 2 [.int (zi a), .int (zi b), .int (zi k)] [] G I (some (.int (zi (cdv a b k))), G, I) := by
  intro k
  induction k with
  | zero => intro _; exact wp_T_commonDivisor_2 _ _ _ ⟨fun _ => rfl, fun h => absurd (by decide) h⟩
  | succ k ih =>
    intro hk
    refine wp_T_commonDivisor_2 _ _ _ ?_
    by_cases h0 : k = 0
    · subst h0
      exact ⟨fun _ => rfl, fun h => absurd (by decide) h⟩
    · have n1 : ¬ zi (k + 1) ≤ 1 := fun h => absurd ((zi_le (b := 1) (by omega) (by omega)).1 h) (by omega)
      have nz : ¬ zi (k + 1) = 0 := fun h => absurd ((zi_eq (b := 0) (by omega) (by omega)).1 h) (by omega)
      have e2 : zi (k + 1) + (-1) = zi k := zi_neg1 (by omega)
      rw [zi_rem (by omega) (by omega) (by omega), zi_rem (by omega) (by omega) (by omega), e2]
      have z0 : ∀ j : Nat, j < 1000 → (zi j = 0 ↔ j = 0) := fun j hj => zi_eq (b := 0) (by omega) (by omega)
      have la : a % (k + 1) < 1000 := by have := Nat.mod_lt a (show 0 < k + 1 by omega); omega
      have lb : b % (k + 1) < 1000 := by have := Nat.mod_lt b (show 0 < k + 1 by omega); omega
      refine ⟨fun h => absurd h n1, fun _ => ⟨nz, fun h1 y hy => ?_, fun h1 => ⟨nz, fun h2 y hy => ?_, fun h2 => ?_⟩⟩⟩
      · rw [hy, cdv, if_neg h0, if_neg (fun h => h1 ((z0 _ la).2 h.1))]; exact ih (by omega)
      · rw [hy, cdv, if_neg h0, if_neg (fun h => h2 ((z0 _ lb).2 h.2))]; exact ih (by omega)
      · rw [cdv, if_neg h0, if_pos ⟨(z0 _ la).1 h1, (z0 _ lb).1 h2⟩]
theorem lc0 {k : Nat} (h : k < 1000) : lg_cmp (lN k) 0 = 0 ↔ k = 0 := by
  rw [lg_cmp_eq]
  exact pk_lEQ (b := 0) (by omega) (by omega)
theorem low_loop {X : Nat × (Nat → Int32)} {D : Nat} {G : zG} {I : zI} {c s : Nat} (hc : c < 1000) (hs : s < 1000) (x4 : Int32) :
    ∀ N y : Nat, y < N → ∀ x : Nat, x < 1000 → y < 1000 → 0 < Nat.gcd x y → ∀ x9 : Int64, Ev X D 206 16 [.long (lN c), zU, .long (lN s), zU, .int x4, .long (lN x), zU, .long (lN y), zU, .long x9, zU] [] G I (some (.long (lN ((if x4 = 0 then c else s) / Nat.gcd x y))), G, I) := by
  intro N
  induction N with
  | zero => intro y h; exact absurd h (by omega)
  | succ N ih =>
    intro y hy x hx hy2 hg x9
    refine wp_Z_lowest_16b _ _ _ _ _ _ ?_
    by_cases h0 : y = 0
    · subst h0
      rw [Nat.gcd_zero_right] at hg ⊢
      have nz : ¬ lN x = 0 := fun h => absurd ((pk_lEQ (b := 0) (by omega) (by omega)).1 h) (by omega)
      refine ⟨fun _ => ⟨fun h => ⟨nz, ?_⟩, fun h => ⟨nz, ?_⟩⟩, fun h => absurd ((lc0 (by omega)).2 rfl) h⟩
      · rw [if_neg h, pk_lDiv (by omega) hg (by omega)]
      · rw [if_pos h, pk_lDiv (by omega) hg (by omega)]
    · have nz : ¬ lN y = 0 := fun h => absurd ((pk_lEQ (b := 0) (by omega) (by omega)).1 h) (by omega)
      have e : Nat.gcd x y = Nat.gcd y (x % y) := by rw [Nat.gcd_comm x y, Nat.gcd_rec y x, Nat.gcd_comm]
      have hl := Nat.mod_lt x (show 0 < y by omega)
      refine ⟨fun h => absurd ((lc0 (by omega)).1 h) h0, fun _ => ⟨nz, fun y6 h6 => ?_⟩⟩
      rw [pk_lRem (by omega) (by omega) (by omega)] at h6
      rw [h6, e]
      exact ih (x % y) (by omega) y hy2 (by omega) (by rw [← e]; exact hg) _
theorem low_sim {X : Nat × (Nat → Int32)} {D : Nat} {G : zG} {I : zI} {c s p : Nat} (hc : c ≤ s) (hs : s < 31) (h0 : 0 < s) (hp : p = 0 ∨ p = 1) : Cv X D 206 [.long (lN c), .long (lN s), .int (zi p)] G I (some (.long (lN ((if p = 0 then c else s) / Nat.gcd c s))), G, I) := by
  have ep : (if zi p = 0 then c else s) = if p = 0 then c else s := by rcases hp with rfl | rfl <;> rfl
  refine Cv.of hq_206 (z_le rfl) rfl (wp_Z_lowest _ _ _ ⟨fun h => ?_, fun h => ?_⟩)
  · have cn : ¬ c = 0 := fun e => h ((lc0 (by omega)).2 e)
    have hg : 0 < Nat.gcd c s := Nat.gcd_pos_of_pos_left _ (by omega)
    have sn : ¬ s = 0 := by omega
    have nz : ¬ lN s = 0 := fun h => absurd ((pk_lEQ (b := 0) (by omega) (by omega)).1 h) (by omega)
    have e : Nat.gcd c s = Nat.gcd s (c % s) := by rw [Nat.gcd_comm c s, Nat.gcd_rec s c, Nat.gcd_comm]
    have hl := Nat.mod_lt c h0
    refine wp_Z_lowest_16 _ _ _ _ _ zU rfl ⟨fun h => absurd ((lc0 (by omega)).1 h) sn, fun _ => ⟨nz, fun y6 h6 => ?_⟩⟩
    rw [pk_lRem (by omega) (by omega) (by omega)] at h6
    rw [h6, e, ← ep]
    exact low_loop (by omega) (by omega) (zi p) (c % s + 1) (c % s) (by omega) s (by omega) (by omega) (by rw [← e]; exact hg) _
  · have c0 := (lc0 (by omega)).1 h
    subst c0
    rw [Nat.gcd_zero_left]
    rcases hp with rfl | rfl
    · rw [if_pos rfl, Nat.zero_div]; rfl
    · rw [if_neg (by decide), Nat.div_self h0]; rfl
theorem odds_loop {X : Nat × (Nat → Int32)} {d : Nat} {G : zG} (hS : SG G) {n r m q sd p : Nat} (hn : n ≤ 4) (hq : q < 100000) (hsd : sd < 31) (h0 : 0 < sd) (hp : p = 0 ∨ p = 1) (near : Int32) :
    ∀ (j k c : Nat) (I J : zI), k + j = sd → c ≤ k → ADr 0 n r m G I J → J 57 34 = -1 →
    ∃ (w : Int64) (I1 J1 : zI), Ev X (d + 8) 115 63 [.ref 0, .int (zi q), .int (zi sd), .int near, .int (zi p), .int (zi c), .int (zi k)] [] G I (some (.long w), G, I1) ∧ Ev X (d + 8) 204 48 [.ref 57, .int (zi q), .int (zi sd), .int near, .int (zi p), .long (lN c), zU, .int (zi k)] [] G J (some (.long w), G, J1) ∧ FC I I1 ∧ FZ J J1 := by
  intro j
  induction j with
  | zero =>
    intro k c I J hk hc hA h34
    obtain rfl : k = sd := by omega
    have hg : 0 < Nat.gcd c k := Nat.gcd_pos_of_pos_right _ h0
    have hg2 : Nat.gcd c k ≤ k := Nat.gcd_le_right _ h0
    have cd : Cv X (d + 7) 117 [.int (zi c), .int (zi k)] G I (some (.int (zi (Nat.gcd c k))), G, I) := by
      have := cdv_loop (X := X) (D := d + 7) (G := G) (I := I) (a := c) (b := k) (by omega) (by omega) k (by omega)
      rw [cdv_gcd k (by omega) h0 c hc] at this
      exact Cv.of hq_117 (z_le rfl) rfl (wp_T_commonDivisor _ _ this)
    have em : (if (1 : Int32) < zi (Nat.gcd c k) then zi (Nat.gcd c k) else 1) = zi (Nat.gcd c k) := by
      by_cases e : (1 : Int32) < zi (Nat.gcd c k)
      · rw [if_pos e]
      · rw [if_neg e]
        have : ¬ 1 < Nat.gcd c k := fun h => e ((zi_lt (a := 1) (by omega) (by omega)).2 h)
        rw [show Nat.gcd c k = 1 by omega]; rfl
    have nz : ¬ zi (Nat.gcd c k) = 0 := fun h => absurd ((zi_eq (b := 0) (by omega) (by omega)).1 h) (by omega)
    have dv : ∀ v : Nat, v < 1000 → (zi v / zi (Nat.gcd c k)).toInt64 = lN (v / Nat.gcd c k) := fun v hv => by
      rw [zi_div (by omega) hg (by omega)]
      exact nI_l (Nat.lt_of_le_of_lt (Nat.div_le_self _ _) (by omega))
    have el : (zi k).toInt64 = lN k := nI_l (by omega)
    refine ⟨_, I, J, wp_T_odds_63 _ _ _ _ _ _ hS ⟨fun _ => ⟨_, I, cd, fun y5 h5 => ?_⟩, fun h => absurd (Int32.le_refl _) h⟩, wp_Z_odds_48 _ _ _ _ _ _ hS ⟨fun _ => ⟨_, J, (by rw [el]; exact low_sim hc hsd h0 hp), rfl⟩, fun h => absurd (Int32.le_refl _) h⟩, FC.rf, FZ.rf⟩
    rw [em] at h5
    subst h5
    refine ⟨fun h => ⟨nz, ?_⟩, fun h => ⟨nz, ?_⟩⟩
    · have hp0 : ¬ p = 0 := fun e => h (by rw [e]; rfl)
      rw [if_neg hp0, dv k (by omega)]
    · have hp0 : p = 0 := (zi_eq (b := 0) (by omega) (by omega)).1 h
      rw [if_pos hp0, dv c (by omega)]
  | succ j ih =>
    intro k c I J hk hc hA h34
    have nx : ¬ zi sd ≤ zi k := fun h => absurd ((zi_le (by omega) (by omega)).1 h) (by omega)
    have eq : zi q + zi k = zi (q + k) := zi_add
    obtain ⟨I1, J1, k1, k2, k3, k4, k5, mf, ms, mc⟩ := draw_sim (X := X) (d := d) hS hn (q := q + k) (by omega) hA h34
    have h34b : J1 57 34 = -1 := (k4.2 34 (by omega)).trans h34
    have i9 : I1 9 7 = zi n := by obtain ⟨J', a, -⟩ := k5; exact a.1.ci
    have j9 : J1 57 0 = zi n := by obtain ⟨J', a, b, c, -⟩ := k5; exact (c 0 (by omega)).symm.trans a.1.cj
    obtain ⟨b, hb, r1, r2⟩ := rest_all (X := X) (d := d + 5) hS hn i9 j9 near (fun x hx => by
      obtain ⟨J', a, b, c, e⟩ := k5
      have hX := a.1.at' x hx
      have p1 := e (5 * x + 4) (by omega)
      have p2 := e (5 * x + 1) (by omega)
      refine ⟨by rw [← p1]; exact hX.on, by rw [← p2]; exact hX.want, by rw [← p1]; exact hX.ro, fun s hs => (mf s x (by omega) hx).1⟩) n 0 (by omega)
    have cr : Cv X (d + 7) 116 [.ref 0, .int near] G I1 (some (.int b), G, I1) := Cv.of hq_116 (z_le rfl) rfl (wp_T_allRest _ r1)
    have cs : Cv X (d + 7) 205 [.ref 57, .int near] G J1 (some (.int b), G, J1) := Cv.of hq_205 (z_le rfl) rfl (wp_Z_allRest _ r2)
    rcases hb with rfl | rfl
    · obtain ⟨w, I9, J9, q1, q2, q3, q4⟩ := ih (k + 1) (c) I1 J1 (by omega) (by omega) k5 h34b
      refine ⟨w, I9, J9, wp_T_odds_63 _ _ _ _ _ _ hS ?_, wp_Z_odds_48 _ _ _ _ _ _ hS ?_, k3.tr q3, k4.tr q4⟩
      · rw [eq]
        exact ⟨fun h => absurd h nx, fun _ => ⟨I1, k1, ⟨0, I1, cr, ⟨fun _ => fun y15_ e1 => (by subst e1; exact (by rw [zi1 k]; exact q1)), fun h => absurd rfl h⟩⟩⟩⟩
      · rw [eq]
        exact ⟨fun h => absurd h nx, fun _ => ⟨J1, k2, ⟨0, J1, cs, ⟨fun _ => fun y11_ e1 => (by subst e1; exact fun y12_ e2 => (by subst e2; exact (by rw [zi1 k, show lN c + 0 = lN c from lN_add c 0]; exact q2))), fun h => absurd rfl h⟩⟩⟩⟩
    · obtain ⟨w, I9, J9, q1, q2, q3, q4⟩ := ih (k + 1) (c + 1) I1 J1 (by omega) (by omega) k5 h34b
      refine ⟨w, I9, J9, wp_T_odds_63 _ _ _ _ _ _ hS ?_, wp_Z_odds_48 _ _ _ _ _ _ hS ?_, k3.tr q3, k4.tr q4⟩
      · rw [eq]
        exact ⟨fun h => absurd h nx, fun _ => ⟨I1, k1, ⟨1, I1, cr, ⟨fun h => absurd h (by decide), fun _ => fun y16_ e1 => (by subst e1; exact fun y17_ e2 => (by subst e2; exact (by rw [zi1 k, zi1 c]; exact q1)))⟩⟩⟩⟩
      · rw [eq]
        exact ⟨fun h => absurd h nx, fun _ => ⟨J1, k2, ⟨1, J1, cs, ⟨fun h => absurd h (by decide), fun _ => fun y13_ e1 => (by subst e1; exact fun y14_ e2 => (by subst e2; exact (by rw [zi1 k, lN_1]; exact q2)))⟩⟩⟩⟩
theorem q_odds (x1 x2 x3 x4 : Int32) : Quiet 115 204 [.int x1, .int x2, .int x3, .int x4] := by
  intro X n m G I J R
  have hS := R.S
  have hn := R.H.le
  by_cases h1 : f_T_within x1 0 99999 = 0
  · exact ⟨_, I, J, Cv.of hq_115 (z_le rfl) rfl (wp_T_odds _ _ _ _ (by omega) hS ⟨fun _ => rfl, fun h => absurd h1 h⟩), Cv.of hq_204 (z_le rfl) rfl (wp_Z_odds _ _ _ _ (by omega) ⟨fun _ => rfl, fun h => absurd h1 h⟩), FC.rf, FZ.rf⟩
  by_cases h2 : f_T_within x2 1 30 = 0
  · exact ⟨_, I, J, Cv.of hq_115 (z_le rfl) rfl (wp_T_odds _ _ _ _ (by omega) hS ⟨fun h => absurd h h1, fun _ => ⟨fun h => absurd h2 h, fun _ => rfl⟩⟩), Cv.of hq_204 (z_le rfl) rfl (wp_Z_odds _ _ _ _ (by omega) ⟨fun h => absurd h h1, fun _ => ⟨fun _ => rfl, fun h => absurd h2 h⟩⟩), FC.rf, FZ.rf⟩
  by_cases h3 : f_T_isWarm x3 = 0
  · exact ⟨_, I, J, Cv.of hq_115 (z_le rfl) rfl (wp_T_odds _ _ _ _ (by omega) hS ⟨fun h => absurd h h1, fun _ => ⟨fun _ => ⟨fun _ => rfl, fun h => absurd h3 h⟩, fun h => absurd h h2⟩⟩), Cv.of hq_204 (z_le rfl) rfl (wp_Z_odds _ _ _ _ (by omega) ⟨fun h => absurd h h1, fun _ => ⟨fun h => absurd h h2, fun _ => ⟨fun _ => rfl, fun h => absurd h3 h⟩⟩⟩), FC.rf, FZ.rf⟩
  by_cases h4 : f_T_within x4 0 1 = 0
  · exact ⟨_, I, J, Cv.of hq_115 (z_le rfl) rfl (wp_T_odds _ _ _ _ (by omega) hS ⟨fun h => absurd h h1, fun _ => ⟨fun _ => ⟨fun h => absurd h h3, fun _ => ⟨fun h => absurd h4 h, fun _ => rfl⟩⟩, fun h => absurd h h2⟩⟩), Cv.of hq_204 (z_le rfl) rfl (wp_Z_odds _ _ _ _ (by omega) ⟨fun h => absurd h h1, fun _ => ⟨fun h => absurd h h2, fun _ => ⟨fun h => absurd h h3, fun _ => ⟨fun h => absurd h4 h, fun _ => rfl⟩⟩⟩⟩), FC.rf, FZ.rf⟩
  obtain ⟨q, -, hq, rfl⟩ := wi_spec (a := 0) (b := 99999) (by omega) (by omega) h1
  obtain ⟨sd, hs0, hs1, rfl⟩ := wi_spec (a := 1) (b := 30) (by omega) (by omega) h2
  obtain ⟨p, -, hp, rfl⟩ := wi_spec (a := 0) (b := 1) (by omega) (by omega) h4
  obtain ⟨r, I0, c0, f0, hA, -⟩ := think (X := X) (d := 98) R
  obtain ⟨w, I1, J1, q1, q2, q3, q4⟩ := odds_loop (X := X) (d := 92) hS hn (q := q) (sd := sd) (p := p) (by omega) (by omega) (by omega) (by omega) x3 sd 0 0 I0 J (by omega) (by omega) hA.r R.q
  exact ⟨.long w, I1, J1, Cv.of hq_115 (z_le rfl) rfl (wp_T_odds _ _ _ _ (by omega) hS ⟨fun h => absurd h h1, fun _ => ⟨fun _ => ⟨fun h => absurd h h3, fun _ => ⟨fun _ => ⟨I0, c0, q1⟩, fun h => absurd h h4⟩⟩, fun h => absurd h h2⟩⟩), Cv.of hq_204 (z_le rfl) rfl (wp_Z_odds _ _ _ _ (by omega) ⟨fun h => absurd h h1, fun _ => ⟨fun h => absurd h h2, fun _ => ⟨fun h => absurd h h3, fun _ => ⟨fun _ => q2, fun h => absurd h h4⟩⟩⟩⟩), f0.tr q3, q4⟩
