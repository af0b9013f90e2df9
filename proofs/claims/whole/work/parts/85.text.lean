/-! A TEXT, READ BY BOTH -/
/-- a text's three parts, by reading alone -/
def txr (tk nm : Nat → Nat) (M : Nat) : Nat → Nat → Nat → List (List Nat) → Option (List (List Nat))
  | 0, _, i, ss => if tk i = 0 then some ss else none
  | r + 1, p, i, ss => if tk i = 11 + p then (match rd tk nm (10 * (M - (i + 1)) + rlv 8 + 1) 8 (i + 1) 0 with
    | some (j, some s) => if tk j = 5 then txr tk nm M r (p + 1) (j + 1) (ss ++ [s]) else none
    | _ => none) else none
set_option maxHeartbeats 1000000 in
theorem text_loop {X : Nat × (Nat → Int32)} {G : zG} (h5 : S5 G) {m : Nat} (hm : m < 6) {b : Nat → Int32} {n M : Nat} (hn : n ≤ 160) (hM : EndAt b n M) :
    ∀ (r p : Nat) (ss : List (List Nat)) (i : Nat) (I : zI) (x2 : Int32), p + r = 3 → ss.length = p → (∀ t, t ∈ ss → okD t 0 ∧ rnD t 0 = 1) → Rs b n M I i 0 ss.flatten → (∀ k, k < p → I 42 k = zi (stp ss k)) →
    ∃ (I1 : zI) (v : Int32), Ev X 56 12 43 [.ref 39, .ref 44, .int x2, .int (zi p)] [] G I (some (.int v), G, I1) ∧ FrT I I1 ∧
      ((∃ e : Nat, e ≤ n ∧ v = zi e ∧ txr (TK b n) (NM b n) M r p i ss = none ∧ ∀ {G : zG} (_ : SG G) (J : zI), ByZ J b n → J 57 18 = zi (PT b n i) → Hz0 m J ss.flatten → (∀ k, k < p → J 63 (4 * m + k) = zi (stp ss k)) → ∃ J1 : zI, Ev X 5 129 26 [.ref 57, .int 1, .int (zi p)] [] G J (some (.int (-100 - zi e)), G, J1) ∧ FT m J J1 ∧ J1 57 5 = 0 ∧ J1 57 8 = zi m) ∨
       (v = -1 ∧ ∃ ss2 : List (List Nat), txr (TK b n) (NM b n) M r p i ss = some ss2 ∧ I1 39 8 = zi ss2.flatten.length ∧ ss2.flatten.length ≤ 160 ∧ ∀ {G : zG} (_ : SG G) (J : zI), ByZ J b n → J 57 18 = zi (PT b n i) → Hz0 m J ss.flatten → (∀ k, k < p → J 63 (4 * m + k) = zi (stp ss k)) → ∃ J1 : zI, Ev X 5 129 26 [.ref 57, .int 1, .int (zi p)] [] G J (some (.int (zi m)), G, J1) ∧ FT m J J1 ∧ J1 57 5 = 0 ∧ J1 57 8 = zi (m + 1) ∧ TxR m I1 J1 ss2)) := by
  intro r
  have ml := hM.le
  -- the model's next token
  have nx : ∀ (i : Nat), i ≤ M → ∀ (s0 : List Nat) {G : zG} (_ : SG G) (J : zI), ByZ J b n → J 57 18 = zi (PT b n i) → Hz0 m J s0 → ∃ J1 : zI, Cv X 4 130 [.ref 57] G J (none, G, J1) ∧ FE m J J1 ∧ TokZ b n J1 i ∧ Hz0 m J1 s0 := by
    intro i hi s0 G hS J hB h18 hH
    obtain ⟨J1, k1, q18, q19, qR, qc, qf⟩ := c_next (X := X) (d := 3) hS (b := b) hn (PT_le (b := b) (n := n) i) hB h18
    exact ⟨J1, k1, ⟨fun c a _ _ => qc c a, fun k a _ => qf k (by omega) (by omega) (by omega) (by omega), fun k _ => by rw [qc 62 (by decide)]⟩, ⟨⟨(qf 5 (by decide) (by decide) (by decide) (by decide)).trans hB.1, fun k hk => by rw [qc 61 (by decide)]; exact hB.2.1 k hk, fun k hk => by rw [qc 69 (by decide)]; exact hB.2.2 k hk⟩, q18, q19, qR⟩, (qf 8 (by decide) (by decide) (by decide) (by decide)).trans hH.1, (qf 26 (by decide) (by decide) (by decide) (by decide)).trans hH.2.1, fun k hk => by rw [qc 62 (by decide)]; exact hH.2.2 k hk⟩
  have tle : ∀ i, tkp b n (PT b n i) ≤ n := fun i => (tkp_le (PT_le i)).2
  induction r with
  | zero =>
    intro p ss i I x2 hp hss hok hR h42
    obtain rfl : p = 3 := by omega
    have t22 : TK b n i < 23 := by have := tkt_le b n (PT b n i); unfold TK; omega
    obtain ⟨-, rt0⟩ := rtk_w _ t22
    have R2 := hR.fr42 (k := 3) (v := I 39 8)
    have l3 : (3 : Int32) ≤ zi 3 := Int32.le_refl _
    have F0 : FrT I (z_up I 42 3 (I 39 8)) := ⟨fun c _ _ e => up_cell e, fun k _ => by rw [up_cell (by decide)]⟩
    have e3 : (3 : Int32).toNatClampNeg = 3 := rfl
    have e63 : ∀ J1 : zI, J1 57 8 = zi m → (4 : Int32) * J1 57 8 + 3 = zi (4 * m + 3) := fun J1 h8 => by
      rw [h8]; show zi 4 * zi m + zi 3 = _
      rw [zi_mul, zi_add]
    by_cases e0 : TK b n i = 0
    · have g : z_up I 42 3 (I 39 8) 39 4 = 0 := (tkz R2.1 (t := 0) (by decide)).2 e0
      refine ⟨z_up I 42 3 (I 39 8), -1, w5_R_read_43 (d := 55) _ _ h5 ⟨fun _ A gA => ?_, fun h => absurd l3 h⟩, F0, Or.inr ⟨rfl, ss, if_pos e0, by rw [up_cell (by decide)]; exact hR.2.2.2.2.1.1, by have := hR.2.2.2.2.2; have := hR.2.1; omega, fun {G} hS J hB h18 hH h63 => ?_⟩⟩
      · rw [e3] at gA; subst gA
        exact ⟨fun h => absurd g h, fun _ => rfl⟩
      · obtain ⟨J1, k1, F1, T1, H1⟩ := nx i hR.2.1 _ hS J hB h18 hH
        have g20 : J1 57 20 = 0 := by rw [T1.2.2.2.1]; exact rt0.2 e0
        have e := e63 J1 H1.1
        refine ⟨z_up (z_up (z_up J1 63 (4 * m + 3) (J1 57 26)) 57 5 0) 57 8 (zi (m + 1)), wp_Z_text_26 (d := 4) _ _ hS ⟨fun _ => ⟨fun h => absurd h (by decide), fun _ => ⟨J1, k1, fun h => absurd g20 h, fun _ => ⟨by rw [e]; exact zi_inr (by omega) (by omega), fun A gA B gB C gC => ?_⟩⟩⟩, fun h => absurd l3 h⟩, (FT.of F1).tr ⟨fun c a _ e _ => by rw [up_cell a, up_cell a, up_cell e], fun k a e _ _ => by rw [up_place e, up_place a, up_cell (by decide)], fun k _ => by rw [up_cell (by decide), up_cell (by decide), up_cell (by decide)], fun k hk => by rw [up_cell (by decide), up_cell (by decide), up_place (by omega)]⟩, by rw [up_place (by decide), up_same], up_same, hss, hok, by have := hR.2.2.2.2.2; have := hR.2.1; omega, ⟨by rw [up_cell (by decide)]; exact hR.2.2.2.2.1.1, fun k hk => by rw [up_cell (by decide)]; exact hR.2.2.2.2.1.2 k hk⟩, fun k hk => ?_, fun k hk => by rw [up_cell (by decide), up_cell (by decide), up_cell (by decide)]; exact H1.2.2 k hk⟩
        · rw [e, zi_nat (by omega)] at gA
          have h8 : B 57 8 = zi m := by rw [gB, gA, up_place (by decide), up_cell (by decide)]; exact H1.1
          rw [h8, zi1 m] at gC
          rw [gC, gB, gA, up_same, show zi (m + 1) - 1 = zi m from (zi_sub (a := m + 1) (b := 1) (by omega)).trans (congrArg zi (by omega))]
        · by_cases q : k = 3
          · subst q
            have es : stp ss 3 = ss.flatten.length := by rw [← hss]; exact stp_self
            rw [es, up_same, up_cell (by decide), up_cell (by decide), up_same]
            exact ⟨hR.2.2.2.2.1.1, H1.2.1⟩
          · rw [up_place q, up_cell (by decide), up_cell (by decide), up_place (by omega), F1.1 63 (by decide) (by decide) (by decide)]
            exact ⟨h42 k (by omega), h63 k (by omega)⟩
    · have g : ¬ z_up I 42 3 (I 39 8) 39 4 = 0 := fun g => e0 ((tkz R2.1 (t := 0) (by decide)).1 g)
      refine ⟨z_up I 42 3 (I 39 8), zi (tkp b n (PT b n i)), w5_R_read_43 (d := 55) _ _ h5 ⟨fun _ A gA => ?_, fun h => absurd l3 h⟩, F0, Or.inl ⟨_, tle i, rfl, if_neg e0, fun {G} hS J hB h18 hH h63 => ?_⟩⟩
      · rw [e3] at gA; subst gA
        exact ⟨fun _ => by rw [R2.1.2.1], fun h => absurd h g⟩
      · obtain ⟨J1, k1, F1, T1, H1⟩ := nx i hR.2.1 _ hS J hB h18 hH
        have g20 : ¬ J1 57 20 = 0 := by rw [T1.2.2.2.1]; exact fun e => e0 (rt0.1 e)
        have e := e63 J1 H1.1
        refine ⟨z_up (z_up J1 63 (4 * m + 3) (J1 57 26)) 57 5 0, wp_Z_text_26 (d := 4) _ _ hS ⟨fun _ => ⟨fun h => absurd h (by decide), fun _ => ⟨J1, k1, fun _ => ⟨by rw [e]; exact zi_inr (by omega) (by omega), fun A gA B gB => ?_⟩, fun h => absurd h g20⟩⟩, fun h => absurd l3 h⟩, (FT.of F1).tr ⟨fun c a _ e _ => by rw [up_cell a, up_cell e], fun k a e _ _ => by rw [up_place a, up_cell (by decide)], fun k _ => by rw [up_cell (by decide), up_cell (by decide)], fun k hk => by rw [up_cell (by decide), up_place (by omega)]⟩, up_same, by rw [up_place (by decide), up_cell (by decide)]; exact H1.1⟩
        rw [e, zi_nat (by omega)] at gA
        rw [gB, gA, up_place (by decide), up_cell (by decide), T1.2.2.1]
  | succ r ih =>
    intro p ss i I x2 hp hss hok hR h42
    have t22 : TK b n i < 23 := by have := tkt_le b n (PT b n i); unfold TK; omega
    obtain ⟨rtw, -⟩ := rtk_w _ t22
    have n3 : ¬ (3 : Int32) ≤ zi p := fun e => absurd ((zi_le (a := 3) (by omega) (by omega)).1 e) (by omega)
    have ep : (zi p).toNatClampNeg = p := zi_nat (by omega)
    have ew : (11 : Int32) + zi p = zi (11 + p) := zi_add (a := 11)
    have R5 := hR.fr42 (k := p) (v := I 39 8)
    have F5 : FrT I (z_up I 42 p (I 39 8)) := ⟨fun c _ _ e => up_cell e, fun k _ => by rw [up_cell (by decide)]⟩
    have a42 : ∀ k, k < p + 1 → z_up I 42 p (I 39 8) 42 k = zi (stp ss k) := fun k hk => by
      by_cases q : k = p
      · subst q
        rw [up_same, hR.2.2.2.2.1.1, ← hss, stp_self]
      · rw [up_place q]; exact h42 k (by omega)
    have inr3 : z_inr (zi p) 4 := zi_inr (by omega) (by omega)
    have e63 : ∀ J1 : zI, J1 57 8 = zi m → (4 : Int32) * J1 57 8 + zi p = zi (4 * m + p) := fun J1 h8 => by
      rw [h8]; show zi 4 * zi m + zi p = _
      rw [zi_mul, zi_add]
    have n10 : ¬ (1 : Int32) = 0 := by decide
    -- the model writes where the part begins
    have w63 : ∀ J1 : zI, ∃ J2 : zI, J2 = z_up J1 63 (4 * m + p) (J1 57 26) ∧ FT m J1 J2 ∧ (∀ c, c ≠ 63 → J2 c = J1 c) := fun J1 => ⟨_, rfl, ⟨fun c _ _ e _ => up_cell e, fun k _ _ _ _ => by rw [up_cell (by decide)], fun k _ => by rw [up_cell (by decide)], fun k hk => up_place (by omega)⟩, fun c e => up_cell e⟩
    by_cases e11 : TK b n i = 11 + p
    · have iM := hM.lt hR.2.1 (by omega)
      obtain ⟨I6, k6, f6, R6⟩ := skipped (X := X) (d := 0) (t := 0) (v := 11 + zi p) h5 hn (M := M) R5.1 iM (by omega) R5.2.2.2.1 R5.2.2.2.2.1 (by have := R5.2.2.2.2.2; omega) (by rw [ew]; exact ((tkz R5.1 (t := 11 + p) (by omega)).2 e11).symm)
      obtain ⟨j, q, ij, jM, erd, ⟨I10, k10, u10⟩, okq, mod⟩ := both_e (X := X) h5 hm hn hM R6
      have f10 := F5.tr ((FrT.of f6).tr (FrT.of u10.1))
      -- the model up to the expression
      have mo : ∀ {G : zG} (hS : SG G) (J : zI), ByZ J b n → J 57 18 = zi (PT b n i) → Hz0 m J ss.flatten → (∀ k, k < p → J 63 (4 * m + k) = zi (stp ss k)) → ∃ (q2 : Option (List Nat)) (J1 J2 J3 : zI), Cv X 4 130 [.ref 57] G J (none, G, J1) ∧ J1 57 20 = 3 ∧ J1 57 21 = zi p ∧ J1 57 8 = zi m ∧ J2 = z_up J1 63 (4 * m + p) (J1 57 26) ∧ Cv X 4 133 [.ref 57] G J2 (some (.int (oz q2)), G, J3) ∧ FT m J J3 ∧ TokZ b n J3 j ∧ J3 57 8 = zi m ∧ (∀ k, k < p + 1 → J3 63 (4 * m + k) = zi (stp ss k)) ∧ ((q = none ∨ TK b n j ≠ 5) → q2 = none) ∧ ∀ s, q = some s → TK b n j = 5 → q2 = some (ss.flatten ++ s) ∧ Hz0 m J3 (ss.flatten ++ s) := by
        intro G hS J hB h18 hH h63
        obtain ⟨J1, k1, F1, T1, H1⟩ := nx i hR.2.1 _ hS J hB h18 hH
        obtain ⟨J2, g2, F2, c2⟩ := w63 J1
        obtain ⟨q2, J3, k3, F3, T3, bad, good⟩ := mod hS J2 ⟨by rw [c2 57 (by decide)]; exact T1.1.1, fun k hk => by rw [c2 61 (by decide)]; exact T1.1.2.1 k hk, fun k hk => by rw [c2 69 (by decide)]; exact T1.1.2.2 k hk⟩ (by rw [c2 57 (by decide)]; exact T1.2.1) ⟨by rw [c2 57 (by decide)]; exact H1.1, by rw [c2 57 (by decide)]; exact H1.2.1, fun k hk => by rw [c2 62 (by decide)]; exact H1.2.2 k hk⟩
        refine ⟨q2, J1, J2, J3, k1, by rw [T1.2.2.2.1]; exact rtw.2 (by omega), by rw [T1.2.2.2.2.2.1 (by omega) (by omega)]; exact congrArg zi (by omega), H1.1, g2, k3, (FT.of F1).tr (F2.tr (FT.of F3)), T3, by rw [F3.2.1 8 (by decide) (by decide), c2 57 (by decide)]; exact H1.1, fun k hk => ?_, bad, good⟩
        rw [F3.1 63 (by decide) (by decide) (by decide), g2]
        by_cases q : k = p
        · subst q
          rw [up_same, H1.2.1, ← hss, stp_self]
        · rw [up_place (by omega), F1.1 63 (by decide) (by decide) (by decide)]
          exact h63 k (by omega)
      -- a fault at token j
      have bad : (q = none ∨ TK b n j ≠ 5) → ∀ {G : zG} (_ : SG G) (J : zI), ByZ J b n → J 57 18 = zi (PT b n i) → Hz0 m J ss.flatten → (∀ k, k < p → J 63 (4 * m + k) = zi (stp ss k)) → ∃ J1 : zI, Ev X 5 129 26 [.ref 57, .int 1, .int (zi p)] [] G J (some (.int (-100 - zi (tkp b n (PT b n j)))), G, J1) ∧ FT m J J1 ∧ J1 57 5 = 0 ∧ J1 57 8 = zi m := by
        intro hb G hS J hB h18 hH h63
        obtain ⟨q2, J1, J2, J3, k1, g20, g21, g8, g2, k3, F3, T3, h8, -, qb, -⟩ := mo hS J hB h18 hH h63
        obtain rfl := qb hb
        obtain ⟨J4, k4, F4, z5, z8⟩ := z_failed (X := X) (d := 4) hS hm h8 (zi (p + 1))
        rw [T3.2.2.1] at k4
        refine ⟨J4, wp_Z_text_26 (d := 4) _ _ hS ⟨fun h => absurd h n3, fun _ => ⟨fun h => absurd h n10, fun _ => ⟨J1, k1, fun h => absurd g20 h, fun _ => ⟨fun h => absurd g21 h, fun _ => ⟨by rw [e63 J1 g8]; exact zi_inr (by omega) (by omega), fun A gA => ⟨oz none, J3, ?_, fun _ y hy => by rw [hy, zi1 p]; exact k4, fun h => absurd rfl h⟩⟩⟩⟩⟩⟩, F3.tr F4, z5, z8⟩
        rw [e63 J1 g8, zi_nat (by omega), ← g2] at gA
        rw [gA]; exact k3
      have n1 : ¬ (1 : Int32) = 0 := by decide
      cases hq : q with
      | none =>
        subst hq
        refine ⟨I10, zi (tkp b n (PT b n j)), w5_R_read_43 (d := 55) _ _ h5 ⟨fun h => absurd h n3, fun _ => ⟨inr3, fun A gA => ⟨1, I6, ?_, fun h => absurd h n1, fun _ => ⟨oz none, I10, k10, fun _ => by rw [u10.2.1.2.1], fun h => absurd rfl h⟩⟩⟩⟩, f10, Or.inl ⟨_, tle j, rfl, by rw [txr, if_pos e11, erd], bad (Or.inl rfl)⟩⟩
        rw [gA, ep]; exact k6.deep (by omega)
      | some s =>
        subst hq
        obtain ⟨R10, l10⟩ := u10.2.2.2.2 s rfl
        have no := oz_yes s
        by_cases h5' : TK b n j = 5
        · have jM := hM.lt R10.2.1 (by omega)
          obtain ⟨I14, k14, f14, R14⟩ := skipped (X := X) (d := 0) (t := 0) (v := 5) h5 hn (M := M) R10.1 jM (by omega) R10.2.2.2.1 R10.2.2.2.2.1 (by have := R10.2.2.2.2.2; omega) ((tkz R10.1 (t := 5) (by decide)).2 h5').symm
          have ef : (ss ++ [s]).flatten = ss.flatten ++ s := by simp
          obtain ⟨Iz, v, kz, Fz, rz⟩ := ih (p + 1) (ss ++ [s]) (j + 1) I14 x2 (by omega) (by rw [List.length_append, hss]; rfl) (fun t ht => by
            rcases List.mem_append.1 ht with ht | ht
            · exact hok t ht
            · rw [List.mem_singleton.1 ht]; exact okq s rfl) (by rw [ef]; exact R14) (fun k hk => by
            rw [f14.1 42 (by decide) (by decide), u10.1.1 42 (by decide) (by decide), f6.1 42 (by decide) (by decide), stp_app (by omega)]
            exact a42 k hk)
          have ka : Ev X 56 12 43 [.ref 39, .ref 44, .int x2, .int (zi p)] [] G I (some (.int v), G, Iz) := by
            refine w5_R_read_43 (d := 55) _ _ h5 ⟨fun h => absurd h n3, fun _ => ⟨inr3, fun A gA => ⟨1, I6, ?_, fun h => absurd h n1, fun _ => ⟨oz (some s), I10, k10, fun h => absurd h no, fun _ => ⟨1, I14, k14.deep (by omega), fun _ y hy => by rw [hy, zi1 p]; exact kz, fun h => absurd h n1⟩⟩⟩⟩⟩
            rw [gA, ep]; exact k6.deep (by omega)
          -- the model goes on too
          have on : ∀ {G : zG} (hS : SG G) (J : zI), ByZ J b n → J 57 18 = zi (PT b n i) → Hz0 m J ss.flatten → (∀ k, k < p → J 63 (4 * m + k) = zi (stp ss k)) → ∃ J3 : zI, ByZ J3 b n ∧ J3 57 18 = zi (PT b n (j + 1)) ∧ Hz0 m J3 (ss ++ [s]).flatten ∧ (∀ k, k < p + 1 → J3 63 (4 * m + k) = zi (stp (ss ++ [s]) k)) ∧ FT m J J3 ∧ ∀ res, Ev X 5 129 26 [.ref 57, .int 1, .int (zi (p + 1))] [] G J3 res → Ev X 5 129 26 [.ref 57, .int 1, .int (zi p)] [] G J res := by
            intro G hS J hB h18 hH h63
            obtain ⟨q2, J1, J2, J3, k1, g20, g21, g8, g2, k3, F3, T3, h8, c63, -, qg⟩ := mo hS J hB h18 hH h63
            obtain ⟨rfl, H3⟩ := qg s rfl h5'
            refine ⟨J3, T3.1, T3.2.1, by rw [ef]; exact H3, fun k hk => by rw [stp_app (by omega)]; exact c63 k hk, F3, fun res kr => ?_⟩
            refine wp_Z_text_26 (d := 4) _ _ hS ⟨fun h => absurd h n3, fun _ => ⟨fun h => absurd h n10, fun _ => ⟨J1, k1, fun h => absurd g20 h, fun _ => ⟨fun h => absurd g21 h, fun _ => ⟨by rw [e63 J1 g8]; exact zi_inr (by omega) (by omega), fun A gA => ⟨oz (some (ss.flatten ++ s)), J3, ?_, fun h => absurd h (oz_yes (ss.flatten ++ s)), fun _ y hy => by rw [hy, zi1 p]; exact kr⟩⟩⟩⟩⟩⟩
            rw [e63 J1 g8, zi_nat (by omega), ← g2] at gA
            rw [gA]; exact k3
          refine ⟨Iz, v, ka, f10.tr ((FrT.of f14).tr Fz), ?_⟩
          have tx : txr (TK b n) (NM b n) M (r + 1) p i ss = txr (TK b n) (NM b n) M r (p + 1) (j + 1) (ss ++ [s]) := by
            rw [txr, if_pos e11, erd]
            exact if_pos h5'
          rcases rz with ⟨e, le, rfl, tz, rm⟩ | ⟨rfl, ss2, tz, c8, cl, rm⟩
          · refine Or.inl ⟨e, le, rfl, tx.trans tz, fun {G} hS J hB h18 hH h63 => ?_⟩
            obtain ⟨J3, b1, b2, b3, b4, F3, go⟩ := on hS J hB h18 hH h63
            obtain ⟨J4, k4, F4, z⟩ := rm hS J3 b1 b2 b3 b4
            exact ⟨J4, go _ k4, F3.tr F4, z⟩
          · refine Or.inr ⟨rfl, ss2, tx.trans tz, c8, cl, fun {G} hS J hB h18 hH h63 => ?_⟩
            obtain ⟨J3, b1, b2, b3, b4, F3, go⟩ := on hS J hB h18 hH h63
            obtain ⟨J4, k4, F4, z⟩ := rm hS J3 b1 b2 b3 b4
            exact ⟨J4, go _ k4, F3.tr F4, z⟩
        · have n5 : ¬ I10 39 4 = 5 := fun g => h5' ((tkz R10.1 (t := 5) (by decide)).1 g)
          refine ⟨I10, zi (tkp b n (PT b n j)), w5_R_read_43 (d := 55) _ _ h5 ⟨fun h => absurd h n3, fun _ => ⟨inr3, fun A gA => ⟨1, I6, ?_, fun h => absurd h n1, fun _ => ⟨oz (some s), I10, k10, fun h => absurd h no, fun _ => ⟨0, I10, (skipNo (d := 0) h5 n5).deep (by omega), fun h => absurd rfl h, fun _ => by rw [R10.1.2.1]⟩⟩⟩⟩⟩, f10, Or.inl ⟨_, tle j, rfl, (by rw [txr, if_pos e11, erd]; exact if_neg h5'), bad (Or.inr h5')⟩⟩
          rw [gA, ep]; exact k6.deep (by omega)
    · have nw : ¬ z_up I 42 p (I 39 8) 39 4 = 11 + zi p := by rw [ew]; exact fun g => e11 ((tkz R5.1 (t := 11 + p) (by omega)).1 g)
      refine ⟨z_up I 42 p (I 39 8), zi (tkp b n (PT b n i)), w5_R_read_43 (d := 55) _ _ h5 ⟨fun h => absurd h n3, fun _ => ⟨inr3, fun A gA => ⟨0, z_up I 42 p (I 39 8), ?_, fun _ => by rw [R5.1.2.1], fun h => absurd rfl h⟩⟩⟩, F5, Or.inl ⟨_, tle i, rfl, (by rw [txr, if_neg e11]), fun {G} hS J hB h18 hH h63 => ?_⟩⟩
      · rw [gA, ep]; exact (skipNo (d := 0) h5 nw).deep (by omega)
      · obtain ⟨J1, k1, F1, T1, H1⟩ := nx i hR.2.1 _ hS J hB h18 hH
        obtain ⟨J2, g2, F2, c2⟩ := w63 J1
        obtain ⟨J4, k4, F4, z5, z8⟩ := z_failed (X := X) (d := 4) hS hm (J := J2) (by rw [c2 57 (by decide)]; exact H1.1) (zi (p + 1))
        have e19 : J2 57 19 = zi (tkp b n (PT b n i)) := by rw [c2 57 (by decide)]; exact T1.2.2.1
        rw [e19] at k4
        have wr : ∀ A : zI, A = z_up J1 63 ((4 : Int32) * J1 57 8 + zi p).toNatClampNeg (J1 57 26) → ∀ y : Int32, y = zi p + 1 → Ev X 5 129 26 [.ref 57, .int 0, .int y] [] G A (some (.int (-100 - zi (tkp b n (PT b n i)))), G, J4) := fun A gA y hy => by
          rw [e63 J1 H1.1, zi_nat (by omega), ← g2] at gA
          rw [gA, hy, zi1 p]; exact k4
        have ein : z_inr ((4 : Int32) * J1 57 8 + zi p) 24 := by rw [e63 J1 H1.1]; exact zi_inr (by omega) (by omega)
        refine ⟨J4, wp_Z_text_26 (d := 4) _ _ hS ⟨fun h => absurd h n3, fun _ => ⟨fun h => absurd h n10, fun _ => ⟨J1, k1, fun _ => ⟨ein, wr⟩, fun g20 => ⟨fun _ => ⟨ein, wr⟩, fun g21 => ?_⟩⟩⟩⟩, (FT.of F1).tr (F2.tr F4), z5, z8⟩
        exfalso
        rw [T1.2.2.2.1] at g20
        obtain ⟨w1, w2⟩ := rtw.1 g20
        rw [T1.2.2.2.2.2.1 w1 w2] at g21
        exact e11 (by have := (zi_eq (by omega) (by omega)).1 g21; omega)
