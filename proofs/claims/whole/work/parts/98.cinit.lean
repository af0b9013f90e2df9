/-! A NEW CLASS -/
theorem tab_ok {L : List Nat} {g : Nat → Nat} (h : ∀ a, a < L.length → g a = L.getD a 0) : ∀ a k : Nat, L[a]? = some k → g a = k := by
  intro a k e
  obtain ⟨l, e2⟩ := List.getElem?_eq_some_iff.1 e
  rw [h a l, List.getD_eq_getElem?_getD, e]
  rfl
theorem gd_lt {l : List (Option Nat)} {j b : Nat} (h : l.getD j none = some b) : j < l.length := by
  rcases Nat.lt_or_ge j l.length with e | e
  · exact e
  · rw [List.getD_eq_getElem?_getD, List.getElem?_eq_none e] at h
    cases h
theorem zRf_lt {a j b : Nat} (h : zRf a j = some b) : a < 80 ∧ j < 45 := by
  constructor
  · rcases Nat.lt_or_ge a 80 with e | e
    · exact e
    · rw [zRf_big e] at h
      cases h
  · unfold zRf at h
    split at h
    all_goals first
      | (have q := gd_lt h; exact Nat.lt_of_lt_of_le q (by decide))
      | (split at h <;> first | omega | cases h)
      | cases h
theorem ref_ok {G : zG} {n : Nat} (h : ∀ a, a < n → ∀ j, j < 45 → (zRf a j).all (fun b => zr G a j == some b) = true) {a j b : Nat} (ha : a < n) (hr : zRf a j = some b) : zr G a j = some b := by
  have q := h a ha j (zRf_lt hr).2
  rw [hr] at q
  exact eq_of_beq q
def cG80 : zG := zPR_ cG79 39 0 44
theorem cG80_5 : S5 cG80 := ⟨by decide +kernel, tab_ok (by decide +kernel), tab_ok (by decide +kernel), fun a j b ha hr => ref_ok (n := 52) (by decide +kernel) ha hr⟩
def cGL : zG := zLW cG80 9
def cT1 : zG := zPR_ cGL 43 0 52
def cT2 : zG := zPR_ cT1 43 1 52
def cT3 : zG := zPR_ cT2 43 2 52
def cT4 : zG := zPR_ cT3 43 3 52
def cT5 : zG := zPR_ cT4 43 4 52
def cT6 : zG := zPR_ cT5 43 5 52
set_option maxRecDepth 20000 in
theorem T_fill {X : Nat × (Nat → Int32)} : ∀ (m c : Nat) (I : zI), c + m = 54 → (∀ k, k < c → I 44 k = b0 k) → ∃ I1 : zI, (∀ k, k < 54 → I1 44 k = b0 k) ∧ (∀ a, a ≠ 44 → I1 a = I a) ∧ ∀ res, Ev X 58 1 154 [.ref 0, .int (zi 54), .int (zi 54), zU] [] cG79 I1 res → Ev X 58 1 131 [.ref 0, .int (zi 54), .int (zi c), zU] [] cG79 I res := by
  intro m
  induction m with
  | zero =>
    intro c I hc h
    obtain rfl : c = 54 := by omega
    refine ⟨I, h, fun _ _ => rfl, fun res k => ?_⟩
    refine Ev_iload_n hq_1 (show decode prog_1_method_1_code 131 = .ok (.iload_n 2, 1) by decide +kernel) rfl ?_
    refine Ev_iload_n hq_1 (show decode prog_1_method_1_code 132 = .ok (.iload_n 1, 1) by decide +kernel) rfl ?_
    exact Ev_icmp_ge (tgt := 154) hq_1 (show decode prog_1_method_1_code 133 = .ok (.if_icmp .ge 21, 3) by decide +kernel) (by decide) (fun _ => k) (fun h => absurd (Int32.le_refl _) h)
  | succ m ih =>
    intro c I hc h
    have nx : ¬ zi 54 ≤ zi c := fun h => absurd ((zi_le (by omega) (by omega)).1 h) (by omega)
    obtain ⟨I1, a1, a2, go⟩ := ih (c + 1) (z_up I 44 c (b0 c)) (by omega) (fun k hk => by
      by_cases q : k = c
      · subst q; exact up_same
      · rw [up_place q]; exact h k (by omega))
    refine ⟨I1, a1, fun a ha => by rw [a2 a ha, up_cell ha], fun res k => ?_⟩
    have go := go res k
    have hl := b0_len
    have ec := c_chr (X := X) (d := 54) (G := cG79) (I := I) (j := 0) (by omega) (i := c) (by omega)
    refine Ev_iload_n hq_1 (show decode prog_1_method_1_code 131 = .ok (.iload_n 2, 1) by decide +kernel) rfl ?_
    refine Ev_iload_n hq_1 (show decode prog_1_method_1_code 132 = .ok (.iload_n 1, 1) by decide +kernel) rfl ?_
    refine Ev_icmp_ge (tgt := 154) hq_1 (show decode prog_1_method_1_code 133 = .ok (.if_icmp .ge 21, 3) by decide +kernel) (by decide) (fun h => absurd h nx) (fun _ => ?_)
    refine Ev_aload_n hq_1 (show decode prog_1_method_1_code 136 = .ok (.aload_n 0, 1) by decide +kernel) rfl ?_
    refine Ev_getR hq_1 (show decode prog_1_method_1_code 137 = .ok (.getfield 50, 3) by decide +kernel) rfl (by decide +kernel) (by decide +kernel) (by decide) rfl (show zr cG79 0 8 = some 44 by decide +kernel) ?_
    refine Ev_iload_n hq_1 (show decode prog_1_method_1_code 140 = .ok (.iload_n 2, 1) by decide +kernel) rfl ?_
    refine Ev_ldcs hq_1 (show decode prog_1_method_1_code 141 = .ok (.ldc 68, 2) by decide +kernel) rfl rfl ?_
    refine Ev_iload_n hq_1 (show decode prog_1_method_1_code 143 = .ok (.iload_n 2, 1) by decide +kernel) rfl ?_
    refine Ev_virtx (j := 2) (as := [.int (zi c)]) hq_1 (show decode prog_1_method_1_code 144 = .ok (.invokevirtual 82, 3) by decide +kernel) rfl hq_7 rfl (z_le rfl) ⟨by omega, by omega, rfl⟩ ec ?_
    refine Ev_iast hq_1 (show decode prog_1_method_1_code 147 = .ok (.iastore, 1) by decide +kernel) (by decide +kernel) (by decide +kernel) (by rw [show zl cG79 44 = 160 by decide +kernel]; exact zi_inr (by omega) (by omega)) ?_
    rw [zi_nat (show c < _ by omega)]
    refine Ev_iinc (v := zi (c + 1)) (lo2 := [.ref 0, .int (zi 54), .int (zi (c + 1)), zU]) hq_1 (show decode prog_1_method_1_code 148 = .ok (.iinc 2 1, 3) by decide +kernel) rfl (zi1 c) rfl ?_
    exact Ev_goto (tgt := 131) hq_1 (show decode prog_1_method_1_code 151 = .ok (.goto (-20), 3) by decide +kernel) (by decide) go
def fl4 (I : zI) : zI := z_up (z_up (z_up (z_up I 50 0 (-1)) 50 1 (-1)) 50 2 (-1)) 50 3 (-1)
set_option maxRecDepth 20000 in
theorem c_fill50 {X : Nat × (Nat → Int32)} {d : Nat} {I : zI} : Cv X d 36 [.ref 50, .int (-1)] cT6 I (none, cT6, fl4 I) := by
  refine Cv.of hq_36 (z_le rfl) rfl ?_
  refine Ev_iconst (v := 0) hq_36 (show decode prog_15_method_103_code 0 = .ok (.iconst 0, 1) by decide +kernel) (by decide) ?_
  refine Ev_istore_n (lo2 := [.ref 50, .int (-1), .int 0, zU]) hq_36 (show decode prog_15_method_103_code 1 = .ok (.istore_n 2, 1) by decide +kernel) (z_le rfl) rfl ?_
  refine Ev_aload_n hq_36 (show decode prog_15_method_103_code 2 = .ok (.aload_n 0, 1) by decide +kernel) rfl ?_
  refine Ev_alen hq_36 (show decode prog_15_method_103_code 3 = .ok (.arraylength, 1) by decide +kernel) (by decide +kernel) (by decide +kernel) (by decide +kernel) ?_
  rw [show Int32.ofNat (zl cT6 50) = 4 by decide +kernel]
  refine Ev_istore_n (lo2 := [.ref 50, .int (-1), .int 0, .int 4]) hq_36 (show decode prog_15_method_103_code 4 = .ok (.istore_n 3, 1) by decide +kernel) (z_le rfl) rfl ?_
  refine Ev_iload_n hq_36 (show decode prog_15_method_103_code 5 = .ok (.iload_n 2, 1) by decide +kernel) rfl ?_
  refine Ev_iload_n hq_36 (show decode prog_15_method_103_code 6 = .ok (.iload_n 3, 1) by decide +kernel) rfl ?_
  refine Ev_icmp_ge (tgt := 20) hq_36 (show decode prog_15_method_103_code 7 = .ok (.if_icmp .ge 13, 3) by decide +kernel) (by decide) (fun h => absurd h (by decide)) (fun _ => ?_)
  refine Ev_aload_n hq_36 (show decode prog_15_method_103_code 10 = .ok (.aload_n 0, 1) by decide +kernel) rfl ?_
  refine Ev_iload_n hq_36 (show decode prog_15_method_103_code 11 = .ok (.iload_n 2, 1) by decide +kernel) rfl ?_
  refine Ev_iload_n hq_36 (show decode prog_15_method_103_code 12 = .ok (.iload_n 1, 1) by decide +kernel) rfl ?_
  refine Ev_iast hq_36 (show decode prog_15_method_103_code 13 = .ok (.iastore, 1) by decide +kernel) (by decide +kernel) (by decide +kernel) (by decide +kernel) ?_
  refine Ev_iinc (v := 1) (lo2 := [.ref 50, .int (-1), .int 1, .int 4]) hq_36 (show decode prog_15_method_103_code 14 = .ok (.iinc 2 1, 3) by decide +kernel) rfl (by decide) rfl ?_
  refine Ev_goto (tgt := 5) hq_36 (show decode prog_15_method_103_code 17 = .ok (.goto (-12), 3) by decide +kernel) (by decide) ?_
  refine Ev_iload_n hq_36 (show decode prog_15_method_103_code 5 = .ok (.iload_n 2, 1) by decide +kernel) rfl ?_
  refine Ev_iload_n hq_36 (show decode prog_15_method_103_code 6 = .ok (.iload_n 3, 1) by decide +kernel) rfl ?_
  refine Ev_icmp_ge (tgt := 20) hq_36 (show decode prog_15_method_103_code 7 = .ok (.if_icmp .ge 13, 3) by decide +kernel) (by decide) (fun h => absurd h (by decide)) (fun _ => ?_)
  refine Ev_aload_n hq_36 (show decode prog_15_method_103_code 10 = .ok (.aload_n 0, 1) by decide +kernel) rfl ?_
  refine Ev_iload_n hq_36 (show decode prog_15_method_103_code 11 = .ok (.iload_n 2, 1) by decide +kernel) rfl ?_
  refine Ev_iload_n hq_36 (show decode prog_15_method_103_code 12 = .ok (.iload_n 1, 1) by decide +kernel) rfl ?_
  refine Ev_iast hq_36 (show decode prog_15_method_103_code 13 = .ok (.iastore, 1) by decide +kernel) (by decide +kernel) (by decide +kernel) (by decide +kernel) ?_
  refine Ev_iinc (v := 2) (lo2 := [.ref 50, .int (-1), .int 2, .int 4]) hq_36 (show decode prog_15_method_103_code 14 = .ok (.iinc 2 1, 3) by decide +kernel) rfl (by decide) rfl ?_
  refine Ev_goto (tgt := 5) hq_36 (show decode prog_15_method_103_code 17 = .ok (.goto (-12), 3) by decide +kernel) (by decide) ?_
  refine Ev_iload_n hq_36 (show decode prog_15_method_103_code 5 = .ok (.iload_n 2, 1) by decide +kernel) rfl ?_
  refine Ev_iload_n hq_36 (show decode prog_15_method_103_code 6 = .ok (.iload_n 3, 1) by decide +kernel) rfl ?_
  refine Ev_icmp_ge (tgt := 20) hq_36 (show decode prog_15_method_103_code 7 = .ok (.if_icmp .ge 13, 3) by decide +kernel) (by decide) (fun h => absurd h (by decide)) (fun _ => ?_)
  refine Ev_aload_n hq_36 (show decode prog_15_method_103_code 10 = .ok (.aload_n 0, 1) by decide +kernel) rfl ?_
  refine Ev_iload_n hq_36 (show decode prog_15_method_103_code 11 = .ok (.iload_n 2, 1) by decide +kernel) rfl ?_
  refine Ev_iload_n hq_36 (show decode prog_15_method_103_code 12 = .ok (.iload_n 1, 1) by decide +kernel) rfl ?_
  refine Ev_iast hq_36 (show decode prog_15_method_103_code 13 = .ok (.iastore, 1) by decide +kernel) (by decide +kernel) (by decide +kernel) (by decide +kernel) ?_
  refine Ev_iinc (v := 3) (lo2 := [.ref 50, .int (-1), .int 3, .int 4]) hq_36 (show decode prog_15_method_103_code 14 = .ok (.iinc 2 1, 3) by decide +kernel) rfl (by decide) rfl ?_
  refine Ev_goto (tgt := 5) hq_36 (show decode prog_15_method_103_code 17 = .ok (.goto (-12), 3) by decide +kernel) (by decide) ?_
  refine Ev_iload_n hq_36 (show decode prog_15_method_103_code 5 = .ok (.iload_n 2, 1) by decide +kernel) rfl ?_
  refine Ev_iload_n hq_36 (show decode prog_15_method_103_code 6 = .ok (.iload_n 3, 1) by decide +kernel) rfl ?_
  refine Ev_icmp_ge (tgt := 20) hq_36 (show decode prog_15_method_103_code 7 = .ok (.if_icmp .ge 13, 3) by decide +kernel) (by decide) (fun h => absurd h (by decide)) (fun _ => ?_)
  refine Ev_aload_n hq_36 (show decode prog_15_method_103_code 10 = .ok (.aload_n 0, 1) by decide +kernel) rfl ?_
  refine Ev_iload_n hq_36 (show decode prog_15_method_103_code 11 = .ok (.iload_n 2, 1) by decide +kernel) rfl ?_
  refine Ev_iload_n hq_36 (show decode prog_15_method_103_code 12 = .ok (.iload_n 1, 1) by decide +kernel) rfl ?_
  refine Ev_iast hq_36 (show decode prog_15_method_103_code 13 = .ok (.iastore, 1) by decide +kernel) (by decide +kernel) (by decide +kernel) (by decide +kernel) ?_
  refine Ev_iinc (v := 4) (lo2 := [.ref 50, .int (-1), .int 4, .int 4]) hq_36 (show decode prog_15_method_103_code 14 = .ok (.iinc 2 1, 3) by decide +kernel) rfl (by decide) rfl ?_
  refine Ev_goto (tgt := 5) hq_36 (show decode prog_15_method_103_code 17 = .ok (.goto (-12), 3) by decide +kernel) (by decide) ?_
  refine Ev_iload_n hq_36 (show decode prog_15_method_103_code 5 = .ok (.iload_n 2, 1) by decide +kernel) rfl ?_
  refine Ev_iload_n hq_36 (show decode prog_15_method_103_code 6 = .ok (.iload_n 3, 1) by decide +kernel) rfl ?_
  refine Ev_icmp_ge (tgt := 20) hq_36 (show decode prog_15_method_103_code 7 = .ok (.if_icmp .ge 13, 3) by decide +kernel) (by decide) (fun _ => ?_) (fun h => absurd (by decide) h)
  exact Ev_vret hq_36 (show decode prog_15_method_103_code 20 = .ok (.return_, 1) by decide +kernel) rfl
set_option maxRecDepth 20000 in
theorem c_Tinit {X : Nat × (Nat → Int32)} : ∃ (ss : List (List Nat)) (Ir I4 : zI), Cv X 58 1 [.ref 0] cG1 (cI1 zI0) (none, cT6, I4) ∧ ss.flatten.length = 9 ∧ (I4 0 7 = zi 1 ∧ I4 0 9 = zi 0 ∧ I4 0 3 = 0 ∧ I4 1 7 = zi 0 ∧ I4 1 8 = zi 0 ∧ ∀ s, s < 4 → I4 50 s = -1) ∧ (∀ k, k < 9 → I4 53 k = Ir 41 k) ∧ I4 54 = Ir 42 ∧ ∀ {G : zG} (_ : SG G) (J : zI), ByZ J b0 54 → J 57 18 = zi 0 → Hz0 0 J [] → ∃ J1 : zI, Ev X 5 129 26 [.ref 57, .int 1, .int (zi 0)] [] G J (some (.int (zi 0)), G, J1) ∧ FT 0 J J1 ∧ J1 57 5 = 0 ∧ J1 57 8 = zi (0 + 1) ∧ TxR 0 Ir J1 ss := by
  obtain ⟨I0, hI0⟩ : ∃ I0 : zI, I0 = cI56 zI0 := ⟨_, rfl⟩
  have v0 : I0 0 7 = zi 1 ∧ I0 0 9 = zi 0 ∧ I0 0 3 = 0 ∧ I0 1 7 = zi 0 ∧ I0 1 8 = zi 0 := by rw [hI0]; decide +kernel
  obtain ⟨I1, a1, a2, go⟩ := T_fill (X := X) 54 0 I0 rfl (fun k hk => absurd hk (Nat.not_lt_zero _))
  obtain ⟨Ir, v, M, hM, kc, fw, r⟩ := c_read (X := X) (G0 := cG79) (G := cG80) rfl cG80_5 (m := 0) (by omega) (b := b0) (n := 54) (by omega) a1
  obtain rfl := hM.uni b0_end
  have tx := b0_txr
  rcases r with ⟨e, le, ev, tz, rm⟩ | ⟨ev, ss, tz, c8, cl, rm⟩
  · rw [tz] at tx; cases tx
  rw [tz] at tx
  have l9 : ss.flatten.length = 9 := Option.some.inj tx
  rw [l9] at c8
  obtain ⟨f, hf, kl⟩ := c_law (X := X) (d := 55) cG80_5 (s := 9) (by omega) c8
  rw [show zn cG80 = 52 by decide +kernel] at kl
  have old : ∀ c, c < 52 → c ≠ 39 → c ≠ 41 → c ≠ 42 → c ≠ 44 → c ≠ 50 → fl4 (zLWI cG80 9 Ir f) c = I0 c := fun c h e1 e2 e3 e4 e5 => by
    unfold fl4
    rw [up_cell e5, up_cell e5, up_cell e5, up_cell e5, zLWI_old (show c < zn cG80 by rw [show zn cG80 = 52 by decide +kernel]; exact h), fw c e1 e2 e3, a2 c e4]
  have new := zLWI_new (G := cG80) (s := 9) (I := Ir) (f := f)
  rw [show zn cG80 = 52 by decide +kernel] at new
  obtain ⟨w1, w2, w3, w4, w5⟩ := v0
  refine ⟨ss, Ir, fl4 (zLWI cG80 9 Ir f), ?_, l9, ⟨by rw [old 0 (by decide) (by decide) (by decide) (by decide) (by decide) (by decide)]; exact w1, by rw [old 0 (by decide) (by decide) (by decide) (by decide) (by decide) (by decide)]; exact w2, by rw [old 0 (by decide) (by decide) (by decide) (by decide) (by decide) (by decide)]; exact w3, by rw [old 1 (by decide) (by decide) (by decide) (by decide) (by decide) (by decide)]; exact w4, by rw [old 1 (by decide) (by decide) (by decide) (by decide) (by decide) (by decide)]; exact w5, fun s hs => ?_⟩, fun k hk => ?_, ?_, fun {G} hS J b1 b2 b3 => rm hS J b1 b2 b3⟩
  rotate_left
  · unfold fl4
    rcases (show s = 0 ∨ s = 1 ∨ s = 2 ∨ s = 3 by omega) with rfl | rfl | rfl | rfl
    · rw [up_place (by decide), up_place (by decide), up_place (by decide), up_same]
    · rw [up_place (by decide), up_place (by decide), up_same]
    · rw [up_place (by decide), up_same]
    · rw [up_same]
  · unfold fl4
    rw [up_cell (by decide), up_cell (by decide), up_cell (by decide), up_cell (by decide), new.1]
    exact hf k hk
  · unfold fl4
    rw [up_cell (by decide), up_cell (by decide), up_cell (by decide), up_cell (by decide), new.2]
  refine Cv.of hq_1 (z_le rfl) rfl (T_init_117 (d := 56) ?_)
  rw [← hI0]
  have el := c_len (X := X) (d := 56) (G := cG79) (I := I0) (j := 0) (by omega)
  rw [b0_len] at el
  refine Ev_ldcs hq_1 (show decode prog_1_method_1_code 117 = .ok (.ldc 68, 2) by decide +kernel) rfl rfl ?_
  refine Ev_virtx (j := 2) (as := []) hq_1 (show decode prog_1_method_1_code 119 = .ok (.invokevirtual 70, 3) by decide +kernel) rfl hq_5 rfl (z_le rfl) ⟨by omega, by omega, rfl⟩ el ?_
  refine Ev_sipush (v := 160) hq_1 (show decode prog_1_method_1_code 122 = .ok (.sipush 160, 3) by decide +kernel) (by decide) ?_
  refine Ev_min hq_1 (show decode prog_1_method_1_code 125 = .ok (.invokestatic 76, 3) by decide +kernel) rfl (z_le rfl) ?_
  rw [if_neg (show ¬ (160 : Int32) < zi 54 by decide)]
  refine Ev_istore_n (lo2 := [.ref 0, .int (zi 54), zU, zU]) hq_1 (show decode prog_1_method_1_code 128 = .ok (.istore_n 1, 1) by decide +kernel) (z_le rfl) rfl ?_
  refine Ev_iconst (v := 0) hq_1 (show decode prog_1_method_1_code 129 = .ok (.iconst 0, 1) by decide +kernel) (by decide) ?_
  refine Ev_istore_n (lo2 := [.ref 0, .int (zi 54), .int (zi 0), zU]) hq_1 (show decode prog_1_method_1_code 130 = .ok (.istore_n 2, 1) by decide +kernel) (z_le rfl) rfl ?_
  refine go _ ?_
  refine Ev_aload_n hq_1 (show decode prog_1_method_1_code 154 = .ok (.aload_n 0, 1) by decide +kernel) rfl ?_
  refine Ev_getR hq_1 (show decode prog_1_method_1_code 155 = .ok (.getfield 36, 3) by decide +kernel) rfl (by decide +kernel) (by decide +kernel) (by decide) rfl (show zr cG79 0 5 = some 39 by decide +kernel) ?_
  refine Ev_aload_n hq_1 (show decode prog_1_method_1_code 158 = .ok (.aload_n 0, 1) by decide +kernel) rfl ?_
  refine Ev_getR hq_1 (show decode prog_1_method_1_code 159 = .ok (.getfield 50, 3) by decide +kernel) rfl (by decide +kernel) (by decide +kernel) (by decide) rfl (show zr cG79 0 8 = some 44 by decide +kernel) ?_
  refine Ev_iload_n hq_1 (show decode prog_1_method_1_code 162 = .ok (.iload_n 1, 1) by decide +kernel) rfl ?_
  refine Ev_virt (as := [.ref 44, .int (zi 54)]) hq_1 (show decode prog_1_method_1_code 163 = .ok (.invokevirtual 86, 3) by decide +kernel) rfl hq_12 rfl (z_le rfl) (by decide +kernel) kc ?_
  refine Ev_pop hq_1 (show decode prog_1_method_1_code 166 = .ok (.pop, 1) by decide +kernel) rfl ?_
  refine Ev_aload_n hq_1 (show decode prog_1_method_1_code 167 = .ok (.aload_n 0, 1) by decide +kernel) rfl ?_
  refine Ev_getR hq_1 (show decode prog_1_method_1_code 168 = .ok (.getfield 36, 3) by decide +kernel) rfl (by decide +kernel) (by decide +kernel) (by decide) rfl (show zr cG80 0 5 = some 39 by decide +kernel) ?_
  refine Ev_virt (as := []) hq_1 (show decode prog_1_method_1_code 171 = .ok (.invokevirtual 90, 3) by decide +kernel) rfl hq_33 rfl (z_le rfl) (by decide +kernel) kl ?_
  refine Ev_astore_n (lo2 := [.ref 0, .int (zi 54), .ref 52, zU]) hq_1 (show decode prog_1_method_1_code 174 = .ok (.astore_n 2, 1) by decide +kernel) (z_le rfl) rfl ?_
  refine Ev_iconst (v := 0) hq_1 (show decode prog_1_method_1_code 175 = .ok (.iconst 0, 1) by decide +kernel) (by decide) ?_
  refine Ev_istore_n (lo2 := [.ref 0, .int (zi 54), .ref 52, .int 0]) hq_1 (show decode prog_1_method_1_code 176 = .ok (.istore_n 3, 1) by decide +kernel) (z_le rfl) rfl ?_
  show Ev X 58 1 177 [.ref 0, .int (zi 54), .ref 52, .int 0] [] cGL _ _
  refine Ev_iload_n hq_1 (show decode prog_1_method_1_code 177 = .ok (.iload_n 3, 1) by decide +kernel) rfl ?_
  refine Ev_bipush (v := 6) hq_1 (show decode prog_1_method_1_code 178 = .ok (.bipush 6, 2) by decide +kernel) (by decide) ?_
  refine Ev_icmp_ge (tgt := 196) hq_1 (show decode prog_1_method_1_code 180 = .ok (.if_icmp .ge 16, 3) by decide +kernel) (by decide) (fun h => absurd h (by decide)) (fun _ => ?_)
  refine Ev_aload_n hq_1 (show decode prog_1_method_1_code 183 = .ok (.aload_n 0, 1) by decide +kernel) rfl ?_
  refine Ev_getR hq_1 (show decode prog_1_method_1_code 184 = .ok (.getfield 42, 3) by decide +kernel) rfl (by decide +kernel) (by decide +kernel) (by decide) rfl (show zr cGL 0 6 = some 43 by decide +kernel) ?_
  refine Ev_iload_n hq_1 (show decode prog_1_method_1_code 187 = .ok (.iload_n 3, 1) by decide +kernel) rfl ?_
  refine Ev_aload_n hq_1 (show decode prog_1_method_1_code 188 = .ok (.aload_n 2, 1) by decide +kernel) rfl ?_
  refine Ev_aS (G2 := cT1) (l := 0) hq_1 (show decode prog_1_method_1_code 189 = .ok (.aastore, 1) by decide +kernel) (by decide +kernel) (by decide +kernel) (by decide +kernel) (by decide +kernel) (by decide +kernel) (by decide) rfl ?_
  refine Ev_iinc (v := 1) (lo2 := [.ref 0, .int (zi 54), .ref 52, .int 1]) hq_1 (show decode prog_1_method_1_code 190 = .ok (.iinc 3 1, 3) by decide +kernel) rfl (by decide) rfl ?_
  refine Ev_goto (tgt := 177) hq_1 (show decode prog_1_method_1_code 193 = .ok (.goto (-16), 3) by decide +kernel) (by decide) ?_
  refine Ev_iload_n hq_1 (show decode prog_1_method_1_code 177 = .ok (.iload_n 3, 1) by decide +kernel) rfl ?_
  refine Ev_bipush (v := 6) hq_1 (show decode prog_1_method_1_code 178 = .ok (.bipush 6, 2) by decide +kernel) (by decide) ?_
  refine Ev_icmp_ge (tgt := 196) hq_1 (show decode prog_1_method_1_code 180 = .ok (.if_icmp .ge 16, 3) by decide +kernel) (by decide) (fun h => absurd h (by decide)) (fun _ => ?_)
  refine Ev_aload_n hq_1 (show decode prog_1_method_1_code 183 = .ok (.aload_n 0, 1) by decide +kernel) rfl ?_
  refine Ev_getR hq_1 (show decode prog_1_method_1_code 184 = .ok (.getfield 42, 3) by decide +kernel) rfl (by decide +kernel) (by decide +kernel) (by decide) rfl (show zr cT1 0 6 = some 43 by decide +kernel) ?_
  refine Ev_iload_n hq_1 (show decode prog_1_method_1_code 187 = .ok (.iload_n 3, 1) by decide +kernel) rfl ?_
  refine Ev_aload_n hq_1 (show decode prog_1_method_1_code 188 = .ok (.aload_n 2, 1) by decide +kernel) rfl ?_
  refine Ev_aS (G2 := cT2) (l := 1) hq_1 (show decode prog_1_method_1_code 189 = .ok (.aastore, 1) by decide +kernel) (by decide +kernel) (by decide +kernel) (by decide +kernel) (by decide +kernel) (by decide +kernel) (by decide) rfl ?_
  refine Ev_iinc (v := 2) (lo2 := [.ref 0, .int (zi 54), .ref 52, .int 2]) hq_1 (show decode prog_1_method_1_code 190 = .ok (.iinc 3 1, 3) by decide +kernel) rfl (by decide) rfl ?_
  refine Ev_goto (tgt := 177) hq_1 (show decode prog_1_method_1_code 193 = .ok (.goto (-16), 3) by decide +kernel) (by decide) ?_
  refine Ev_iload_n hq_1 (show decode prog_1_method_1_code 177 = .ok (.iload_n 3, 1) by decide +kernel) rfl ?_
  refine Ev_bipush (v := 6) hq_1 (show decode prog_1_method_1_code 178 = .ok (.bipush 6, 2) by decide +kernel) (by decide) ?_
  refine Ev_icmp_ge (tgt := 196) hq_1 (show decode prog_1_method_1_code 180 = .ok (.if_icmp .ge 16, 3) by decide +kernel) (by decide) (fun h => absurd h (by decide)) (fun _ => ?_)
  refine Ev_aload_n hq_1 (show decode prog_1_method_1_code 183 = .ok (.aload_n 0, 1) by decide +kernel) rfl ?_
  refine Ev_getR hq_1 (show decode prog_1_method_1_code 184 = .ok (.getfield 42, 3) by decide +kernel) rfl (by decide +kernel) (by decide +kernel) (by decide) rfl (show zr cT2 0 6 = some 43 by decide +kernel) ?_
  refine Ev_iload_n hq_1 (show decode prog_1_method_1_code 187 = .ok (.iload_n 3, 1) by decide +kernel) rfl ?_
  refine Ev_aload_n hq_1 (show decode prog_1_method_1_code 188 = .ok (.aload_n 2, 1) by decide +kernel) rfl ?_
  refine Ev_aS (G2 := cT3) (l := 2) hq_1 (show decode prog_1_method_1_code 189 = .ok (.aastore, 1) by decide +kernel) (by decide +kernel) (by decide +kernel) (by decide +kernel) (by decide +kernel) (by decide +kernel) (by decide) rfl ?_
  refine Ev_iinc (v := 3) (lo2 := [.ref 0, .int (zi 54), .ref 52, .int 3]) hq_1 (show decode prog_1_method_1_code 190 = .ok (.iinc 3 1, 3) by decide +kernel) rfl (by decide) rfl ?_
  refine Ev_goto (tgt := 177) hq_1 (show decode prog_1_method_1_code 193 = .ok (.goto (-16), 3) by decide +kernel) (by decide) ?_
  refine Ev_iload_n hq_1 (show decode prog_1_method_1_code 177 = .ok (.iload_n 3, 1) by decide +kernel) rfl ?_
  refine Ev_bipush (v := 6) hq_1 (show decode prog_1_method_1_code 178 = .ok (.bipush 6, 2) by decide +kernel) (by decide) ?_
  refine Ev_icmp_ge (tgt := 196) hq_1 (show decode prog_1_method_1_code 180 = .ok (.if_icmp .ge 16, 3) by decide +kernel) (by decide) (fun h => absurd h (by decide)) (fun _ => ?_)
  refine Ev_aload_n hq_1 (show decode prog_1_method_1_code 183 = .ok (.aload_n 0, 1) by decide +kernel) rfl ?_
  refine Ev_getR hq_1 (show decode prog_1_method_1_code 184 = .ok (.getfield 42, 3) by decide +kernel) rfl (by decide +kernel) (by decide +kernel) (by decide) rfl (show zr cT3 0 6 = some 43 by decide +kernel) ?_
  refine Ev_iload_n hq_1 (show decode prog_1_method_1_code 187 = .ok (.iload_n 3, 1) by decide +kernel) rfl ?_
  refine Ev_aload_n hq_1 (show decode prog_1_method_1_code 188 = .ok (.aload_n 2, 1) by decide +kernel) rfl ?_
  refine Ev_aS (G2 := cT4) (l := 3) hq_1 (show decode prog_1_method_1_code 189 = .ok (.aastore, 1) by decide +kernel) (by decide +kernel) (by decide +kernel) (by decide +kernel) (by decide +kernel) (by decide +kernel) (by decide) rfl ?_
  refine Ev_iinc (v := 4) (lo2 := [.ref 0, .int (zi 54), .ref 52, .int 4]) hq_1 (show decode prog_1_method_1_code 190 = .ok (.iinc 3 1, 3) by decide +kernel) rfl (by decide) rfl ?_
  refine Ev_goto (tgt := 177) hq_1 (show decode prog_1_method_1_code 193 = .ok (.goto (-16), 3) by decide +kernel) (by decide) ?_
  refine Ev_iload_n hq_1 (show decode prog_1_method_1_code 177 = .ok (.iload_n 3, 1) by decide +kernel) rfl ?_
  refine Ev_bipush (v := 6) hq_1 (show decode prog_1_method_1_code 178 = .ok (.bipush 6, 2) by decide +kernel) (by decide) ?_
  refine Ev_icmp_ge (tgt := 196) hq_1 (show decode prog_1_method_1_code 180 = .ok (.if_icmp .ge 16, 3) by decide +kernel) (by decide) (fun h => absurd h (by decide)) (fun _ => ?_)
  refine Ev_aload_n hq_1 (show decode prog_1_method_1_code 183 = .ok (.aload_n 0, 1) by decide +kernel) rfl ?_
  refine Ev_getR hq_1 (show decode prog_1_method_1_code 184 = .ok (.getfield 42, 3) by decide +kernel) rfl (by decide +kernel) (by decide +kernel) (by decide) rfl (show zr cT4 0 6 = some 43 by decide +kernel) ?_
  refine Ev_iload_n hq_1 (show decode prog_1_method_1_code 187 = .ok (.iload_n 3, 1) by decide +kernel) rfl ?_
  refine Ev_aload_n hq_1 (show decode prog_1_method_1_code 188 = .ok (.aload_n 2, 1) by decide +kernel) rfl ?_
  refine Ev_aS (G2 := cT5) (l := 4) hq_1 (show decode prog_1_method_1_code 189 = .ok (.aastore, 1) by decide +kernel) (by decide +kernel) (by decide +kernel) (by decide +kernel) (by decide +kernel) (by decide +kernel) (by decide) rfl ?_
  refine Ev_iinc (v := 5) (lo2 := [.ref 0, .int (zi 54), .ref 52, .int 5]) hq_1 (show decode prog_1_method_1_code 190 = .ok (.iinc 3 1, 3) by decide +kernel) rfl (by decide) rfl ?_
  refine Ev_goto (tgt := 177) hq_1 (show decode prog_1_method_1_code 193 = .ok (.goto (-16), 3) by decide +kernel) (by decide) ?_
  refine Ev_iload_n hq_1 (show decode prog_1_method_1_code 177 = .ok (.iload_n 3, 1) by decide +kernel) rfl ?_
  refine Ev_bipush (v := 6) hq_1 (show decode prog_1_method_1_code 178 = .ok (.bipush 6, 2) by decide +kernel) (by decide) ?_
  refine Ev_icmp_ge (tgt := 196) hq_1 (show decode prog_1_method_1_code 180 = .ok (.if_icmp .ge 16, 3) by decide +kernel) (by decide) (fun h => absurd h (by decide)) (fun _ => ?_)
  refine Ev_aload_n hq_1 (show decode prog_1_method_1_code 183 = .ok (.aload_n 0, 1) by decide +kernel) rfl ?_
  refine Ev_getR hq_1 (show decode prog_1_method_1_code 184 = .ok (.getfield 42, 3) by decide +kernel) rfl (by decide +kernel) (by decide +kernel) (by decide) rfl (show zr cT5 0 6 = some 43 by decide +kernel) ?_
  refine Ev_iload_n hq_1 (show decode prog_1_method_1_code 187 = .ok (.iload_n 3, 1) by decide +kernel) rfl ?_
  refine Ev_aload_n hq_1 (show decode prog_1_method_1_code 188 = .ok (.aload_n 2, 1) by decide +kernel) rfl ?_
  refine Ev_aS (G2 := cT6) (l := 5) hq_1 (show decode prog_1_method_1_code 189 = .ok (.aastore, 1) by decide +kernel) (by decide +kernel) (by decide +kernel) (by decide +kernel) (by decide +kernel) (by decide +kernel) (by decide) rfl ?_
  refine Ev_iinc (v := 6) (lo2 := [.ref 0, .int (zi 54), .ref 52, .int 6]) hq_1 (show decode prog_1_method_1_code 190 = .ok (.iinc 3 1, 3) by decide +kernel) rfl (by decide) rfl ?_
  refine Ev_goto (tgt := 177) hq_1 (show decode prog_1_method_1_code 193 = .ok (.goto (-16), 3) by decide +kernel) (by decide) ?_
  refine Ev_iload_n hq_1 (show decode prog_1_method_1_code 177 = .ok (.iload_n 3, 1) by decide +kernel) rfl ?_
  refine Ev_bipush (v := 6) hq_1 (show decode prog_1_method_1_code 178 = .ok (.bipush 6, 2) by decide +kernel) (by decide) ?_
  refine Ev_icmp_ge (tgt := 196) hq_1 (show decode prog_1_method_1_code 180 = .ok (.if_icmp .ge 16, 3) by decide +kernel) (by decide) (fun _ => ?_) (fun h => absurd (by decide) h)
  refine Ev_aload_n hq_1 (show decode prog_1_method_1_code 196 = .ok (.aload_n 0, 1) by decide +kernel) rfl ?_
  refine Ev_getR hq_1 (show decode prog_1_method_1_code 197 = .ok (.getfield 62, 3) by decide +kernel) rfl (by decide +kernel) (by decide +kernel) (by decide) rfl (show zr cT6 0 11 = some 50 by decide +kernel) ?_
  refine Ev_iconst (v := -1) hq_1 (show decode prog_1_method_1_code 200 = .ok (.iconst (-1), 1) by decide +kernel) (by decide) ?_
  refine Ev_stat (as := [.ref 50, .int (-1)]) hq_1 (show decode prog_1_method_1_code 201 = .ok (.invokestatic 94, 3) by decide +kernel) rfl (Or.inl rfl) hq_36 rfl (z_le rfl) c_fill50 ?_
  exact Ev_vret hq_1 (show decode prog_1_method_1_code 204 = .ok (.return_, 1) by decide +kernel) rfl
