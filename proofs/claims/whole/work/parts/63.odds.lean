set_option maxRecDepth 20000 in
theorem wp_Z_odds {X : Nat × (Nat → Int32)} {d : Nat} {G : zG} {I : zI} {res : Option Value × zG × zI} (x1 : Int32) (x2 : Int32) (x3 : Int32) (x4 : Int32) (hd : 1 ≤ d) 
    (k : ((f_Z_in x1 0 99999) = 0 → res = (some (.long (-4611686018427387904)), G, I)) ∧ (¬ (f_Z_in x1 0 99999) = 0 → ((f_Z_in x2 1 30) = 0 → res = (some (.long (-4611686018427387904)), G, I)) ∧ (¬ (f_Z_in x2 1 30) = 0 → ((f_Z_isNear x3) = 0 → res = (some (.long (-4611686018427387904)), G, I)) ∧ (¬ (f_Z_isNear x3) = 0 → (¬ (f_Z_in x4 0 1) = 0 → Ev X (d + 1) 204 48 [.ref 57, .int x1, .int x2, .int x3, .int x4, .long 0, zU, .int 0] [] G I res) ∧ ((f_Z_in x4 0 1) = 0 → res = (some (.long (-4611686018427387904)), G, I)))))) :
    Ev X (d + 1) 204 0 [.ref 57, .int x1, .int x2, .int x3, .int x4, zU, zU, zU] [] G I res := by
  refine Ev_iload_n hq_204 (show decode prog_7_method_80_code 0 = .ok (.iload_n 1, 1) by decide +kernel) rfl ?_
  refine Ev_iconst (v := 0) hq_204 (show decode prog_7_method_80_code 1 = .ok (.iconst 0, 1) by decide +kernel) (by decide) ?_
  refine Ev_ldcw (v := 99999) hq_204 (show decode prog_7_method_80_code 2 = .ok (.ldc_w 269, 3) by decide +kernel) rfl ?_
  refine Ev_stat (as := [.int x1, .int 0, .int 99999]) hq_204 (show decode prog_7_method_80_code 5 = .ok (.invokestatic 90, 3) by decide +kernel) rfl (Or.inl rfl) hq_131 rfl (z_le rfl) (c_Z_in x1 0 99999) ?_
  refine Ev_if_eq (tgt := 38) hq_204 (show decode prog_7_method_80_code 8 = .ok (.ifCond .eq 30, 3) by decide +kernel) (by decide) (fun c1 => ?_) (fun c1 => ?_)
  · have k := k.1 c1
    refine Ev_ldc2 (v := (-4611686018427387904)) hq_204 (show decode prog_7_method_80_code 38 = .ok (.ldc2_w 273, 3) by decide +kernel) rfl ?_
    exact Ev_lret hq_204 (show decode prog_7_method_80_code 41 = .ok (.lreturn, 1) by decide +kernel) k
  · have k := k.2 c1
    refine Ev_iload_n hq_204 (show decode prog_7_method_80_code 11 = .ok (.iload_n 2, 1) by decide +kernel) rfl ?_
    refine Ev_iconst (v := 1) hq_204 (show decode prog_7_method_80_code 12 = .ok (.iconst 1, 1) by decide +kernel) (by decide) ?_
    refine Ev_bipush (v := 30) hq_204 (show decode prog_7_method_80_code 13 = .ok (.bipush 30, 2) by decide +kernel) (by decide) ?_
    refine Ev_stat (as := [.int x2, .int 1, .int 30]) hq_204 (show decode prog_7_method_80_code 15 = .ok (.invokestatic 90, 3) by decide +kernel) rfl (Or.inl rfl) hq_131 rfl (z_le rfl) (c_Z_in x2 1 30) ?_
    refine Ev_if_eq (tgt := 38) hq_204 (show decode prog_7_method_80_code 18 = .ok (.ifCond .eq 20, 3) by decide +kernel) (by decide) (fun c2 => ?_) (fun c2 => ?_)
    · have k := k.1 c2
      refine Ev_ldc2 (v := (-4611686018427387904)) hq_204 (show decode prog_7_method_80_code 38 = .ok (.ldc2_w 273, 3) by decide +kernel) rfl ?_
      exact Ev_lret hq_204 (show decode prog_7_method_80_code 41 = .ok (.lreturn, 1) by decide +kernel) k
    · have k := k.2 c2
      refine Ev_iload_n hq_204 (show decode prog_7_method_80_code 21 = .ok (.iload_n 3, 1) by decide +kernel) rfl ?_
      refine Ev_stat (as := [.int x3]) hq_204 (show decode prog_7_method_80_code 22 = .ok (.invokestatic 220, 3) by decide +kernel) rfl (Or.inl rfl) hq_168 rfl (z_le rfl) (c_Z_isNear (by omega) x3) ?_
      refine Ev_if_eq (tgt := 38) hq_204 (show decode prog_7_method_80_code 25 = .ok (.ifCond .eq 13, 3) by decide +kernel) (by decide) (fun c3 => ?_) (fun c3 => ?_)
      · have k := k.1 c3
        refine Ev_ldc2 (v := (-4611686018427387904)) hq_204 (show decode prog_7_method_80_code 38 = .ok (.ldc2_w 273, 3) by decide +kernel) rfl ?_
        exact Ev_lret hq_204 (show decode prog_7_method_80_code 41 = .ok (.lreturn, 1) by decide +kernel) k
      · have k := k.2 c3
        refine Ev_iload hq_204 (show decode prog_7_method_80_code 28 = .ok (.iload 4, 2) by decide +kernel) rfl ?_
        refine Ev_iconst (v := 0) hq_204 (show decode prog_7_method_80_code 30 = .ok (.iconst 0, 1) by decide +kernel) (by decide) ?_
        refine Ev_iconst (v := 1) hq_204 (show decode prog_7_method_80_code 31 = .ok (.iconst 1, 1) by decide +kernel) (by decide) ?_
        refine Ev_stat (as := [.int x4, .int 0, .int 1]) hq_204 (show decode prog_7_method_80_code 32 = .ok (.invokestatic 90, 3) by decide +kernel) rfl (Or.inl rfl) hq_131 rfl (z_le rfl) (c_Z_in x4 0 1) ?_
        refine Ev_if_ne (tgt := 42) hq_204 (show decode prog_7_method_80_code 35 = .ok (.ifCond .ne 7, 3) by decide +kernel) (by decide) (fun c4 => ?_) (fun c4 => ?_)
        · have k := k.1 c4
          refine Ev_lconst (v := 0) hq_204 (show decode prog_7_method_80_code 42 = .ok (.lconst 0, 1) by decide +kernel) (by decide) ?_
          refine Ev_lstore (lo2 := [.ref 57, .int x1, .int x2, .int x3, .int x4, .long 0, zU, zU]) hq_204 (show decode prog_7_method_80_code 43 = .ok (.lstore 5, 2) by decide +kernel) (z_le rfl) rfl ?_
          refine Ev_iconst (v := 0) hq_204 (show decode prog_7_method_80_code 45 = .ok (.iconst 0, 1) by decide +kernel) (by decide) ?_
          refine Ev_istore (lo2 := [.ref 57, .int x1, .int x2, .int x3, .int x4, .long 0, zU, .int 0]) hq_204 (show decode prog_7_method_80_code 46 = .ok (.istore 7, 2) by decide +kernel) (z_le rfl) rfl ?_
          exact k
        · have k := k.2 (Classical.not_not.mp c4)
          refine Ev_ldc2 (v := (-4611686018427387904)) hq_204 (show decode prog_7_method_80_code 38 = .ok (.ldc2_w 273, 3) by decide +kernel) rfl ?_
          exact Ev_lret hq_204 (show decode prog_7_method_80_code 41 = .ok (.lreturn, 1) by decide +kernel) k
set_option maxRecDepth 20000 in
theorem wp_Z_odds_48 {X : Nat × (Nat → Int32)} {d : Nat} {G : zG} {I : zI} {res : Option Value × zG × zI} (x1 : Int32) (x2 : Int32) (x3 : Int32) (x4 : Int32) (x5 : Int64) (x7 : Int32) (hS : SG G) 
    (k : (x2 ≤ x7 → ∃ (r4 : Int64) (I2 : zI), Cv X d 206 [.long x5, .long (x2.toInt64), .int x4] G I (some (.long r4), G, I2) ∧ (res = (some (.long r4), G, I2))) ∧ (¬ x2 ≤ x7 → ∃ (I5 : zI), Cv X d 203 [.ref 57, .int (x1 + x7)] G I (none, G, I5) ∧ (∃ (r9 : Int32) (I7 : zI), Cv X d 205 [.ref 57, .int x3] G I5 (some (.int r9), G, I7) ∧ ((r9 = 0 → ∀ y11 : Int64, y11 = (x5 + 0) → ∀ y12 : Int32, y12 = x7 + 1 → Ev X (d + 1) 204 48 [.ref 57, .int x1, .int x2, .int x3, .int x4, .long y11, zU, .int y12] [] G I7 res) ∧ (¬ r9 = 0 → ∀ y13 : Int64, y13 = (x5 + 1) → ∀ y14 : Int32, y14 = x7 + 1 → Ev X (d + 1) 204 48 [.ref 57, .int x1, .int x2, .int x3, .int x4, .long y13, zU, .int y14] [] G I7 res))))) :
    Ev X (d + 1) 204 48 [.ref 57, .int x1, .int x2, .int x3, .int x4, .long x5, zU, .int x7] [] G I res := by
  refine Ev_iload hq_204 (show decode prog_7_method_80_code 48 = .ok (.iload 7, 2) by decide +kernel) rfl ?_
  refine Ev_iload_n hq_204 (show decode prog_7_method_80_code 50 = .ok (.iload_n 2, 1) by decide +kernel) rfl ?_
  refine Ev_icmp_ge (tgt := 86) hq_204 (show decode prog_7_method_80_code 51 = .ok (.if_icmp .ge 35, 3) by decide +kernel) (by decide) (fun c1 => ?_) (fun c1 => ?_)
  · have k := k.1 c1
    refine Ev_lload hq_204 (show decode prog_7_method_80_code 86 = .ok (.lload 5, 2) by decide +kernel) rfl ?_
    refine Ev_iload_n hq_204 (show decode prog_7_method_80_code 88 = .ok (.iload_n 2, 1) by decide +kernel) rfl ?_
    refine Ev_i2l hq_204 (show decode prog_7_method_80_code 89 = .ok (.i2l, 1) by decide +kernel) ?_
    refine Ev_iload hq_204 (show decode prog_7_method_80_code 90 = .ok (.iload 4, 2) by decide +kernel) rfl ?_
    obtain ⟨r4, I2, h3, k⟩ := k
    refine Ev_stat (as := [.long x5, .long (x2.toInt64), .int x4]) hq_204 (show decode prog_7_method_80_code 92 = .ok (.invokestatic 278, 3) by decide +kernel) rfl (Or.inl rfl) hq_206 rfl (z_le rfl) h3 ?_
    exact Ev_lret hq_204 (show decode prog_7_method_80_code 95 = .ok (.lreturn, 1) by decide +kernel) k
  · have k := k.2 c1
    refine Ev_aload_n hq_204 (show decode prog_7_method_80_code 54 = .ok (.aload_n 0, 1) by decide +kernel) rfl ?_
    refine Ev_iload_n hq_204 (show decode prog_7_method_80_code 55 = .ok (.iload_n 1, 1) by decide +kernel) rfl ?_
    refine Ev_iload hq_204 (show decode prog_7_method_80_code 56 = .ok (.iload 7, 2) by decide +kernel) rfl ?_
    refine Ev_iadd hq_204 (show decode prog_7_method_80_code 58 = .ok (.iadd, 1) by decide +kernel) ?_
    obtain ⟨I5, h6, k⟩ := k
    refine Ev_virt (as := [.int (x1 + x7)]) hq_204 (show decode prog_7_method_80_code 59 = .ok (.invokevirtual 270, 3) by decide +kernel) rfl hq_203 rfl (z_le rfl) ⟨(SGn hS (by decide)), (SGk hS rfl), by decide⟩ h6 ?_
    refine Ev_lload hq_204 (show decode prog_7_method_80_code 62 = .ok (.lload 5, 2) by decide +kernel) rfl ?_
    refine Ev_aload_n hq_204 (show decode prog_7_method_80_code 64 = .ok (.aload_n 0, 1) by decide +kernel) rfl ?_
    refine Ev_iload_n hq_204 (show decode prog_7_method_80_code 65 = .ok (.iload_n 3, 1) by decide +kernel) rfl ?_
    obtain ⟨r9, I7, h8, k⟩ := k
    refine Ev_virt (as := [.int x3]) hq_204 (show decode prog_7_method_80_code 66 = .ok (.invokevirtual 275, 3) by decide +kernel) rfl hq_205 rfl (z_le rfl) ⟨(SGn hS (by decide)), (SGk hS rfl), by decide⟩ h8 ?_
    refine Ev_if_eq (tgt := 76) hq_204 (show decode prog_7_method_80_code 69 = .ok (.ifCond .eq 7, 3) by decide +kernel) (by decide) (fun c10 => ?_) (fun c10 => ?_)
    · have k := k.1 c10
      refine Ev_lconst (v := 0) hq_204 (show decode prog_7_method_80_code 76 = .ok (.lconst 0, 1) by decide +kernel) (by decide) ?_
      refine Ev_ladd hq_204 (show decode prog_7_method_80_code 77 = .ok (.ladd, 1) by decide +kernel) ?_
      obtain ⟨y11, ey11⟩ : ∃ y11 : Int64, y11 = (x5 + 0) := ⟨_, rfl⟩
      have k := k y11 ey11
      rw [← ey11]
      refine Ev_lstore (lo2 := [.ref 57, .int x1, .int x2, .int x3, .int x4, .long y11, zU, .int x7]) hq_204 (show decode prog_7_method_80_code 78 = .ok (.lstore 5, 2) by decide +kernel) (z_le rfl) rfl ?_
      obtain ⟨y12, ey12⟩ : ∃ y12 : Int32, y12 = x7 + 1 := ⟨_, rfl⟩
      have k := k y12 ey12
      refine Ev_iinc (v := y12) (lo2 := [.ref 57, .int x1, .int x2, .int x3, .int x4, .long y11, zU, .int y12]) hq_204 (show decode prog_7_method_80_code 80 = .ok (.iinc 7 1, 3) by decide +kernel) rfl (by rw [ey12]; rfl) rfl ?_
      refine Ev_goto (tgt := 48) hq_204 (show decode prog_7_method_80_code 83 = .ok (.goto (-35), 3) by decide +kernel) (by decide) ?_
      exact k
    · have k := k.2 c10
      refine Ev_lconst (v := 1) hq_204 (show decode prog_7_method_80_code 72 = .ok (.lconst 1, 1) by decide +kernel) (by decide) ?_
      refine Ev_goto (tgt := 77) hq_204 (show decode prog_7_method_80_code 73 = .ok (.goto 4, 3) by decide +kernel) (by decide) ?_
      refine Ev_ladd hq_204 (show decode prog_7_method_80_code 77 = .ok (.ladd, 1) by decide +kernel) ?_
      obtain ⟨y13, ey13⟩ : ∃ y13 : Int64, y13 = (x5 + 1) := ⟨_, rfl⟩
      have k := k y13 ey13
      rw [← ey13]
      refine Ev_lstore (lo2 := [.ref 57, .int x1, .int x2, .int x3, .int x4, .long y13, zU, .int x7]) hq_204 (show decode prog_7_method_80_code 78 = .ok (.lstore 5, 2) by decide +kernel) (z_le rfl) rfl ?_
      obtain ⟨y14, ey14⟩ : ∃ y14 : Int32, y14 = x7 + 1 := ⟨_, rfl⟩
      have k := k y14 ey14
      refine Ev_iinc (v := y14) (lo2 := [.ref 57, .int x1, .int x2, .int x3, .int x4, .long y13, zU, .int y14]) hq_204 (show decode prog_7_method_80_code 80 = .ok (.iinc 7 1, 3) by decide +kernel) rfl (by rw [ey14]; rfl) rfl ?_
      refine Ev_goto (tgt := 48) hq_204 (show decode prog_7_method_80_code 83 = .ok (.goto (-35), 3) by decide +kernel) (by decide) ?_
      exact k
/-! MORNINGS BY LOT -/
/-- the house that is thought of is the reference's, but for what those from x on are set to -/
def ADr (x n r m : Nat) (G : zG) (I J : zI) : Prop := ∃ J' : zI, AD 9 n r m G I J' ∧ (∀ c, c ≠ 57 → c ≠ 60 → ¬ (71 ≤ c ∧ c ≤ 79) → J' c = J c) ∧ (∀ k, k < 18 → J' 57 k = J 57 k) ∧ ∀ k, ¬ (k % 5 = 2 ∧ x ≤ k / 5 ∧ k / 5 < n) → J' 60 k = J 60 k
theorem ADr.end {n r m : Nat} {G : zG} {I J : zI} (h : ADr n n r m G I J) : AD 9 n r m G I J := by
  obtain ⟨J', a, b, c, d⟩ := h
  refine a.cong (by omega) (fun _ _ => rfl) (fun _ _ _ => rfl) (fun c h1 h2 h3 => ?_) (fun k hk => (c k hk).symm)
  by_cases e : c = 60
  · subst e
    funext k
    exact (d k (by omega)).symm
  · exact (b c (by omega) e (by omega)).symm
theorem ADr.step {x n r m v : Nat} {G : zG} {I J : zI} {u : Int32} (h : ADr x n r m G I J) (hx : x < n) (hv : v ≤ 999) : ADr (x + 1) n r m G (z_up I 14 x (zi v)) (z_up (z_up J 79 x u) 60 (5 * x + 2) (zi v)) := by
  obtain ⟨J', a, b, c, d⟩ := h
  refine ⟨z_up J' 60 (5 * x + 2) (zi v), a.setUp hx hv, fun c h1 h2 h3 => ?_, fun k hk => ?_, fun k hk => ?_⟩
  · rw [up_cell h2, up_cell h2, up_cell (by omega)]; exact b c h1 h2 h3
  · rw [up_cell (by decide), up_cell (by decide), up_cell (by decide)]; exact c k hk
  · by_cases e : k = 5 * x + 2
    · rw [e, up_same, up_same]
    · rw [up_place e, up_place e, up_cell (by decide)]; exact d k (by omega)
theorem lay_back {X : Nat × (Nat → Int32)} {d : Nat} {G : zG} (hS : SG G) {n : Nat} (hn : n ≤ 4) (x1 : Int32) (q : Int64) :
    ∀ (m x : Nat) (J : zI), x + m = n → J 57 0 = zi n → ∃ J1 : zI, Ev X d 203 77 [.ref 57, .int x1, .long q, zU, .int (zi x)] [] G J (none, G, J1) ∧ (∀ c, c ≠ 60 → J1 c = J c) ∧ (∀ k, ¬ (k % 5 = 2 ∧ x ≤ k / 5 ∧ k / 5 < n) → J1 60 k = J 60 k) ∧ ∀ y, x ≤ y → y < n → J1 60 (5 * y + 2) = J 79 y := by
  intro m
  induction m with
  | zero =>
    intro x J hx hj
    obtain rfl : x = n := by omega
    exact ⟨J, wp_Z_runsBy_77 _ _ _ hS ⟨fun _ => rfl, fun h => absurd (by rw [hj]; exact Int32.le_refl _) h⟩, fun _ _ => rfl, fun _ _ => rfl, fun y h1 h2 => absurd h2 (by omega)⟩
  | succ m ih =>
    intro x J hx hj
    have nx : ¬ zi n ≤ zi x := fun h => absurd ((zi_le (by omega) (by omega)).1 h) (by omega)
    obtain ⟨J1, k1, k2, k3, k4⟩ := ih (x + 1) (z_up J 60 (5 * x + 2) (J 79 x)) (by omega) (by rw [up_cell (by decide)]; exact hj)
    refine ⟨J1, wp_Z_runsBy_77 _ _ _ hS ?_, fun c hc => (k2 c hc).trans (up_cell hc), fun k hk => ?_, fun y h1 h2 => ?_⟩
    · rw [hj, show (5 : Int32) * zi x + 2 = zi (5 * x + 2) from z51 x 2, zi_nat (show 5 * x + 2 < _ by omega), zi_nat (show x < _ by omega), zi1 x]
      exact ⟨fun h => absurd h nx, fun _ => ⟨zi_inr (by omega) (by omega), ⟨zi_inr (by omega) (by omega), fun I4_ e1 => (by subst e1; exact fun y5_ e2 => (by subst e2; exact k1))⟩⟩⟩
    · rw [k3 k (by omega), up_place (by omega)]
    · by_cases e : y = x
      · subst e; rw [k3 _ (by omega), up_same]
      · rw [k4 y (by omega) h2, up_cell (by decide)]
theorem draw_loop {X : Nat × (Nat → Int32)} {d : Nat} {G : zG} (hS : SG G) {n r m : Nat} (hn : n ≤ 4) (x1 : Int32) :
    ∀ (j x q : Nat) (I J : zI), x + j = n → q < 2147483647 → ADr x n r m G I J → J 57 34 = -1 →
    ∃ I1 J1 : zI, Ev X (d + 7) 114 8 [.ref 0, .int x1, .long (lN q), zU, .int (zi x)] [] G I (none, G, I1) ∧ Ev X (d + 7) 203 8 [.ref 57, .int x1, .long (lN q), zU, .int (zi x)] [] G J (none, G, J1) ∧ FC I I1 ∧ (∀ c, c ≠ 60 → ¬ (71 ≤ c ∧ c ≤ 79) → J1 c = J c) ∧ (∀ k, ¬ (k % 5 = 2 ∧ k / 5 < x) → J1 60 k = J 60 k) ∧ (∀ y, y < x → J1 60 (5 * y + 2) = J 79 y) ∧ ADr 0 n r m G I1 J1 ∧ MF I1 J1 n 30 0 := by
  intro j
  induction j with
  | zero =>
    intro x q I J hx hq hA h34
    obtain rfl : x = n := by omega
    have hA := hA.end
    obtain ⟨I1, J1, k1, k2, k3, k4, k5⟩ := live_sim (X := X) (d := d) hS (Or.inr rfl) hA h34
    have hA1 := hA.fr (by omega) k3 k4
    obtain ⟨J2, l1, l2, l3, l4⟩ := lay_back (X := X) (d := d + 7) hS hn x1 (lN q) x 0 J1 (by omega) hA1.1.cj
    have f60 : J1 60 = J 60 := k4 60 (by omega)
    refine ⟨I1, J2, wp_T_liveDrawn_8 _ _ _ hS ⟨fun _ => ⟨I1, k1, rfl⟩, fun h => absurd (by rw [hA.1.ci]; exact Int32.le_refl _) h⟩, wp_Z_runsBy_8 _ _ _ hS ⟨fun _ => ⟨J1, k2, l1⟩, fun h => absurd (by rw [hA.1.cj]; exact Int32.le_refl _) h⟩, k3.C, fun c h1 h2 => by rw [l2 c h1, k4 c (by omega)], fun k hk => by rw [l3 k (by omega), f60], fun y hy => by rw [l4 y (by omega) hy, k4 79 (by omega)], ⟨J1, hA1, fun c _ h2 _ => (l2 c h2).symm, fun k _ => by rw [l2 57 (by decide)], fun k hk => (l3 k hk).symm⟩, ?_⟩
    obtain ⟨mf, ms, mc⟩ := k5
    refine ⟨?_, ?_, ?_⟩
    · rw [l2 74 (by decide)]; exact mf
    · rw [l2 73 (by decide)]; exact ms
    · rw [l2 75 (by decide), l2 76 (by decide), l2 77 (by decide)]; exact mc
  | succ j ih =>
    intro x q I J hx hq hA h34
    have i9 : I 9 7 = zi n := by obtain ⟨J', a, -⟩ := hA; exact a.1.ci
    have j9 : J 57 0 = zi n := by obtain ⟨J', a, b, c, -⟩ := hA; exact (c 0 (by omega)).symm.trans a.1.cj
    have nx : ¬ zi n ≤ zi x := fun h => absurd ((zi_le (by omega) (by omega)).1 h) (by omega)
    obtain ⟨v, hv⟩ : ∃ v : Nat, v = q * 48271 % 2147483647 := ⟨_, rfl⟩
    have ev : lN q * 48271 - lN q * 48271 / 2147483647 * 2147483647 = lN v := by
      rw [show (48271 : Int64) = lN 48271 from rfl, show (2147483647 : Int64) = lN 2147483647 from rfl, lN_mul, pk_lRem (by omega) (by omega) (by omega), hv]
    have es : (lN v - lN v / 1000 * 1000).toInt32 = zi (v % 1000) := by
      rw [show (1000 : Int64) = lN 1000 from rfl, pk_lRem (by omega) (by omega) (by omega), lN_i]; rfl
    have hA1 := hA.step (u := J 60 (5 * x + 2)) (v := v % 1000) (by omega) (by omega)
    obtain ⟨I1, J1, q1, q2, q3, q4, q5, q6, q7, q8⟩ := ih (x + 1) v _ _ (by omega) (by omega) hA1 (by rw [up_cell (by decide), up_cell (by decide)]; exact h34)
    refine ⟨I1, J1, wp_T_liveDrawn_8 _ _ _ hS ?_, wp_Z_runsBy_8 _ _ _ hS ?_, fun c a b e => by rw [q3 c a b e, up_cell (by omega)], fun c h1 h2 => by rw [q4 c h1 h2, up_cell h1, up_cell (by omega)], fun k hk => ?_, fun y hy => ?_, q7, q8⟩
    · rw [i9, zi_nat (show x < _ by omega), zi1 x]
      exact ⟨fun h => absurd h nx, fun _ y4 h4 => ⟨zi_inr (by omega) (by omega), fun I6 h6 y7 h7 => by
        rw [ev] at h4
        subst h4
        rw [es] at h6
        subst h6
        subst h7
        exact q1⟩⟩
    · rw [j9, show (5 : Int32) * zi x + 2 = zi (5 * x + 2) from z51 x 2, zi_nat (show 5 * x + 2 < _ by omega), zi_nat (show x < _ by omega), zi1 x]
      exact ⟨fun h => absurd h nx, fun _ y4 h4 => ⟨zi_inr (by omega) (by omega), zi_inr (by omega) (by omega), fun I7 h7 => ⟨zi_inr (by omega) (by omega), fun I9 h9 y10 h10 => by
        rw [ev] at h4
        subst h4
        rw [es] at h9
        subst h7
        subst h9
        subst h10
        exact q2⟩⟩⟩
    · by_cases e : k = 5 * x + 2
      · rw [e, q6 x (by omega), up_cell (by decide), up_same]
      · rw [q5 k (by omega), up_place e, up_cell (by decide)]
    · rw [q6 y (by omega), up_cell (by decide), up_place (by omega)]
/-- a morning drawn by a seed, in thought -/
theorem draw_sim {X : Nat × (Nat → Int32)} {d : Nat} {G : zG} (hS : SG G) {n r m q : Nat} (hn : n ≤ 4) (hq : q < 200000) {I J : zI} (hA : ADr 0 n r m G I J) (h34 : J 57 34 = -1) :
    ∃ I1 J1 : zI, Cv X (d + 7) 114 [.ref 0, .int (zi q)] G I (none, G, I1) ∧ Cv X (d + 7) 203 [.ref 57, .int (zi q)] G J (none, G, J1) ∧ FC I I1 ∧ FZ J J1 ∧ ADr 0 n r m G I1 J1 ∧ MF I1 J1 n 30 0 := by
  obtain ⟨I1, J1, q1, q2, q3, q4, q5, -, q7, q8⟩ := draw_loop (X := X) (d := d) hS hn (zi q) n 0 (q + 1) I J (by omega) (by omega) hA h34
  have e : (zi q).toInt64 + 1 = lN (q + 1) := by
    rw [show (zi q).toInt64 = lN q from nI_l (by omega), lN_1]
  refine ⟨I1, J1, Cv.of hq_114 (z_le rfl) rfl (wp_T_liveDrawn _ fun y hy => by rw [hy, e]; exact q1), Cv.of hq_203 (z_le rfl) rfl (wp_Z_runsBy _ fun y hy => by rw [hy, e]; exact q2), q3, ⟨fun c a b => ?_, fun k _ => by rw [q4 57 (by decide) (by omega)]⟩, q7, q8⟩
  by_cases h : c = 60
  · subst h
    funext k
    exact q5 k (by omega)
  · exact q4 c h b
theorem AD.r {n r m : Nat} {G : zG} {I J : zI} (h : AD 9 n r m G I J) : ADr 0 n r m G I J := ⟨J, h, fun _ _ _ _ => rfl, fun _ _ => rfl, fun _ _ => rfl⟩
theorem q_drawn (x1 x2 : Int32) : Quiet 113 202 [.int x1, .int x2] := by
  intro X n m G I J R
  have hS := R.S
  have hn := R.H.le
  by_cases h1 : f_T_within x1 0 99999 = 0
  · exact ⟨_, I, J, Cv.of hq_113 (z_le rfl) rfl (wp_T_drawn _ _ hS ⟨fun _ => rfl, fun h => absurd h1 h⟩), Cv.of hq_202 (z_le rfl) rfl (wp_Z_drawn _ _ hS ⟨fun _ => rfl, fun h => absurd h1 h⟩), FC.rf, FZ.rf⟩
  by_cases h2 : f_T_within x2 0 1 = 0
  · exact ⟨_, I, J, Cv.of hq_113 (z_le rfl) rfl (wp_T_drawn _ _ hS ⟨fun h => absurd h h1, fun _ => ⟨fun h => absurd h2 h, fun _ => rfl⟩⟩), Cv.of hq_202 (z_le rfl) rfl (wp_Z_drawn _ _ hS ⟨fun h => absurd h h1, fun _ => ⟨fun h => absurd h2 h, fun _ => rfl⟩⟩), FC.rf, FZ.rf⟩
  obtain ⟨q, -, hq, rfl⟩ := wi_spec (a := 0) (b := 99999) (by omega) (by omega) h1
  obtain ⟨r, I0, c0, f0, hA, -⟩ := think (X := X) (d := 98) R
  obtain ⟨I1, J1, k1, k2, k3, k4, k5, mf, ms, mc⟩ := draw_sim (X := X) (d := 92) hS hn (q := q) (by omega) hA.r R.q
  have i9 : I1 9 7 = zi n := by obtain ⟨J', a, -⟩ := k5; exact a.1.ci
  have j9 : J1 57 0 = zi n := by rw [k4.2 0 (by omega)]; exact R.H.cj
  by_cases q0 : x2 = 0
  · obtain ⟨w, -, c1, c2⟩ := cost_sim (X := X) (d := 99) hS (I := I1) (J := J1) hn j9 (fun y hy => ⟨(mc y hy).1, (mc y hy).2.2.2⟩)
    exact ⟨.int w, I1, J1, Cv.of hq_113 (z_le rfl) rfl (wp_T_drawn _ _ hS ⟨fun h => absurd h h1, fun _ => ⟨fun _ => ⟨I0, c0, ⟨I1, k1, ⟨fun h => absurd q0 h, fun _ => ⟨w, I1, (by rw [i9]; exact c1), rfl⟩⟩⟩⟩, fun h => absurd h h2⟩⟩), Cv.of hq_202 (z_le rfl) rfl (wp_Z_drawn _ _ hS ⟨fun h => absurd h h1, fun _ => ⟨fun _ => ⟨J1, k2, ⟨fun h => absurd q0 h, fun _ => ⟨w, J1, c2, rfl⟩⟩⟩, fun h => absurd h h2⟩⟩), f0.tr k3, k4⟩
  · obtain ⟨w, c1, c2⟩ := criers_sim (X := X) (d := 99) hS (I := I1) (J := J1) hn j9 (fun y hy => (mc y hy).2.1)
    exact ⟨.int w, I1, J1, Cv.of hq_113 (z_le rfl) rfl (wp_T_drawn _ _ hS ⟨fun h => absurd h h1, fun _ => ⟨fun _ => ⟨I0, c0, ⟨I1, k1, ⟨fun _ => ⟨w, I1, (by rw [i9]; exact c1), rfl⟩, fun h => absurd h q0⟩⟩⟩, fun h => absurd h h2⟩⟩), Cv.of hq_202 (z_le rfl) rfl (wp_Z_drawn _ _ hS ⟨fun h => absurd h h1, fun _ => ⟨fun _ => ⟨J1, k2, ⟨fun _ => ⟨w, J1, c2, rfl⟩, fun h => absurd h q0⟩⟩, fun h => absurd h h2⟩⟩), f0.tr k3, k4⟩
