/-! A CALL OF BOTH, ONE AFTER THE OTHER -/
theorem ret_int {n : Nat} {st : List Value} {i : Instr} {r : Value} (h : z_ret (some .int) n st i = some (some r)) : ∃ v, r = .int v := by
  cases i with
  | ireturn =>
    simp only [z_ret] at h
    split at h
    · split at h
      · cases h; exact ⟨_, rfl⟩
      · cases h
    · cases h
  | lreturn =>
    simp only [z_ret] at h
    split at h
    · split at h
      · rename_i e; cases e.2
      · cases h
    · cases h
  | areturn =>
    simp only [z_ret] at h
    split at h
    · cases h
    · cases h
  | return_ =>
    simp only [z_ret] at h
    split at h
    · split at h
      · cases h
      · cases h
    · cases h
  | _ => simp [z_ret] at h
theorem ev_int {X : Nat × (Nat → Int32)} {μ : Nat} {q0 : zMT} (hq : zM[μ]? = some q0) (hr : q0.2.2.2.1 = some .int) : ∀ (f d pc : Nat) (lo st : List Value) (G : zG) (I : zI) (r : Value) (G' : zG) (I' : zI), evF X f d μ pc lo st G I = some (some r, G', I') → ∃ v, r = .int v := by
  intro f
  induction f with
  | zero => intro d pc lo st G I r G' I' h; simp [evF] at h
  | succ f ih =>
    intro d pc lo st G I r G' I' h
    rw [evF] at h
    rw [hq] at h
    dsimp only at h
    cases hdc : decode q0.2.1 pc with
    | error x => rw [hdc] at h; cases h
    | ok v =>
    obtain ⟨i, n⟩ := v
    rw [hdc] at h
    dsimp only at h
    cases hpu : z_pure q0.2.2.2.2.1 n pc lo st i with
    | some o => rw [hpu] at h; exact ih _ _ _ _ _ _ _ _ _ h
    | none =>
    rw [hpu] at h
    dsimp only at h
    cases hhe : z_heap X q0.1 q0.2.2.2.2.1 n pc st G I i with
    | some o => rw [hhe] at h; exact ih _ _ _ _ _ _ _ _ _ h
    | none =>
    rw [hhe] at h
    dsimp only at h
    cases hre : z_ret q0.2.2.2.1 n st i with
    | some r0 =>
      rw [hre] at h
      dsimp only at h
      rw [hr] at hre
      cases h
      exact ret_int hre
    | none =>
    rw [hre] at h
    dsimp only at h
    cases d with
    | zero => cases h
    | succ d =>
    dsimp only at h
    cases hpr : z_prim q0.2.2.2.2.1 n pc st G I i with
    | some o => rw [hpr] at h; exact ih _ _ _ _ _ _ _ _ _ h
    | none =>
    rw [hpr] at h
    dsimp only at h
    cases hca : z_call q0.2.2.2.2.1 n st G i with
    | none => rw [hca] at h; cases h
    | some o =>
    obtain ⟨ν, as, rest⟩ := o
    rw [hca] at h
    dsimp only at h
    cases hz : zM[ν]? with
    | none => rw [hz] at h; cases h
    | some q1 =>
    rw [hz] at h
    dsimp only at h
    split at h
    · split at h
      · cases h
      · exact ih _ _ _ _ _ _ _ _ _ h
    · cases h
theorem Cv_int {X : Nat × (Nat → Int32)} {d ν : Nat} {as : List Value} {G G1 : zG} {I I1 : zI} {r : Value} {q0 : zMT} (hq : zM[ν]? = some q0) (hr : q0.2.2.2.1 = some .int) (h : Cv X d ν as G I (some r, G1, I1)) : ∃ v, r = .int v := by
  obtain ⟨q, -, -, f, e⟩ := h
  exact ev_int hq hr f _ _ _ _ _ _ _ _ _ e
theorem q_oddsL (x1 x2 x3 x4 : Int32) : ∀ (X : Nat × (Nat → Int32)) (n m : Nat) (G : zG) (I J : zI), Rel n m G I J → ∃ (v : Int64) (I1 J1 : zI), Cv X 100 115 [.ref 0, .int x1, .int x2, .int x3, .int x4] G I (some (.long v), G, I1) ∧ Cv X 100 204 [.ref 57, .int x1, .int x2, .int x3, .int x4] G J (some (.long v), G, J1) ∧ FC I I1 ∧ FZ J J1 := by
  intro X n m G I J R
  have hS := R.S
  have hn := R.H.le
  by_cases h1 : f_T_within x1 0 99999 = 0
  · exact ⟨_, I, J, Cv.of hq_115 (z_le rfl) rfl (wp_T_odds _ _ _ _ (by omega) hS ⟨fun _ => rfl, fun h => absurd h1 h⟩), Cv.of hq_204 (z_le rfl) rfl (wp_Z_odds _ _ _ _ (by omega) ⟨fun _ => rfl, fun h => absurd h1 h⟩), FC.rf, FZ.rf⟩
  by_cases h2 : f_T_within x2 1 30 = 0
  · exact ⟨_, I, J, Cv.of hq_115 (z_le rfl) rfl (wp_T_odds _ _ _ _ (by omega) hS ⟨fun h => absurd h h1, fun _ => ⟨fun h => absurd h2 h, fun _ => rfl⟩⟩), Cv.of hq_204 (z_le rfl) rfl (wp_Z_odds _ _ _ _ (by omega) ⟨fun h => absurd h h1, fun _ => ⟨fun _ => rfl, fun h => absurd h2 h⟩⟩), FC.rf, FZ.rf⟩
  by_cases h3 : f_T_isWarm x3 = 0
  · exact ⟨_, I, J, Cv.of hq_115 (z_le rfl) rfl (wp_T_odds _ _ _ _ (by omega) hS ⟨fun h => absurd h h1, fun _ => ⟨fun _ => ⟨fun _ => rfl, fun h => absurd h3 h⟩, fun h => absurd h h2⟩⟩), Cv.of hq_204 (z_le rfl) rfl (wp_Z_odds _ _ _ _ (by omega) ⟨fun h => absurd h h1, fun _ => ⟨fun h => absurd h h2, fun _ => ⟨fun _ => rfl, fun h => absurd h3 h⟩⟩⟩), FC.rf, FZ.rf⟩
  by_cases h4 : f_T_within x4 0 1 = 0
  · exact ⟨_, I, J, Cv.of hq_115 (z_le rfl) rfl (wp_T_odds _ _ _ _ (by omega) hS ⟨fun h => absurd h h1, fun _ => ⟨fun _ => ⟨fun h => absurd h h3, fun _ => ⟨fun h => absurd h4 h, fun _ => rfl⟩⟩, fun h => absurd h h2⟩⟩), Cv.of hq_204 (z_le rfl) rfl (wp_Z_odds _ _ _ _ (by omega) ⟨fun h => absurd h h1, fun _ => ⟨fun h => absurd h h2, fun _ => ⟨fun h => absurd h h3, fun _ => ⟨fun h => absurd h4 h, fun _ => rfl⟩⟩⟩⟩), FC.rf, FZ.rf⟩
  obtain ⟨q, -, hq, rfl⟩ := wi_spec (a := 0) (b := 99999) (by omega) (by omega) h1
  obtain ⟨sd, hs0, hs1, rfl⟩ := wi_spec (a := 1) (b := 30) (by omega) (by omega) h2
  obtain ⟨p, -, hp, rfl⟩ := wi_spec (a := 0) (b := 1) (by omega) (by omega) h4
  obtain ⟨r, I0, c0, f0, hA, -⟩ := think (X := X) (d := 98) R
  obtain ⟨w, I1, J1, q1, q2, q3, q4⟩ := odds_loop (X := X) (d := 92) hS hn (q := q) (sd := sd) (p := p) (by omega) (by omega) (by omega) (by omega) x3 sd 0 0 I0 J (by omega) (by omega) hA.r R.q
  exact ⟨w, I1, J1, Cv.of hq_115 (z_le rfl) rfl (wp_T_odds _ _ _ _ (by omega) hS ⟨fun h => absurd h h1, fun _ => ⟨fun _ => ⟨fun h => absurd h h3, fun _ => ⟨fun _ => ⟨I0, c0, q1⟩, fun h => absurd h h4⟩⟩, fun h => absurd h h2⟩⟩), Cv.of hq_204 (z_le rfl) rfl (wp_Z_odds _ _ _ _ (by omega) ⟨fun h => absurd h h1, fun _ => ⟨fun h => absurd h h2, fun _ => ⟨fun h => absurd h h3, fun _ => ⟨fun _ => q2, fun h => absurd h h4⟩⟩⟩⟩), f0.tr q3, q4⟩
theorem Rel.cong {n m : Nat} {G : zG} {I J I1 J1 : zI} (h : Rel n m G I J) (hI : ∀ c, c < 57 ∨ 80 ≤ c → I1 c = I c) (hJ : ∀ c, 57 ≤ c → c < 80 → J1 c = J c) : Rel n m G I1 J1 := by
  obtain ⟨a, b, c, d, ⟨r, e1, e2, e3⟩, tp, g, im, q, w⟩ := h
  have j57 : J1 57 = J 57 := hJ 57 (by omega) (by omega)
  have i0 : I1 0 = I 0 := hI 0 (by omega)
  refine ⟨a, b, c.fr (fun c h1 h2 => hI c (by omega)) (by rw [j57]) (hJ 58 (by omega) (by omega)) (hJ 59 (by omega) (by omega)) (hJ 60 (by omega) (by omega)), ?_, ⟨r, e1, by rw [hI 1 (by omega)]; exact e2, by rw [j57]; exact e3⟩, tp.fr (by rw [i0]) (by rw [j57]) (hI 44 (by omega)) (hJ 61 (by omega) (by omega)), g.fr (fun c _ _ => hI c (by omega)) (hJ 65 (by omega) (by omega)) (hJ 66 (by omega) (by omega)) (hJ 67 (by omega) (by omega)), im.fr (Nat.le_refl _) (by rw [i0]) (fun c _ _ => hI c (by omega)) (fun k _ _ => by rw [j57]) (hJ 64 (by omega) (by omega)) (fun x _ => by rw [hJ 58 (by omega) (by omega), hJ 59 (by omega) (by omega)]; exact ⟨rfl, rfl⟩), by rw [j57]; exact q, fun k hk => by rw [hJ 69 (by omega) (by omega)]; exact w k hk⟩
  obtain ⟨t1, t2, t3, t4, t5⟩ := d
  refine ⟨t1, t2, by rw [i0]; exact t3, by rw [j57]; exact t4, fun t ht => ?_⟩
  obtain ⟨w, w1, w2, w3⟩ := t5 t ht
  exact ⟨w, w1, w2, w3.fr (hI _ (by unfold isW at w2; omega)) (hI _ (by unfold isW at w2; omega)) (hJ 62 (by omega) (by omega)) (hJ 63 (by omega) (by omega))⟩
def CallV (P : Value → Prop) (ν ν' : Nat) (as : List Value) : Prop := ∀ (X : Nat × (Nat → Int32)) (n m : Nat) (G : zG) (I J : zI), Rel n m G I J → ∃ (n' m' : Nat) (G' : zG) (r : Value) (I1 J1 : zI), P r ∧ Cv X 100 ν (.ref 0 :: as) G I (some r, G', I1) ∧ Cv X 100 ν' (.ref 57 :: as) G' J (some r, G', J1) ∧ Rel n' m' G' I1 J1 ∧ (∀ c, 57 ≤ c → c < 80 → I1 c = I c) ∧ (∀ c, c < 57 ∨ 80 ≤ c → J1 c = J c)
def isI (r : Value) : Prop := ∃ v, r = .int v
def isJ (r : Value) : Prop := ∃ v, r = .long v
theorem CallOK.v {ν ν' : Nat} {as : List Value} {q0 : zMT} (h : CallOK ν ν' as) (hq : zM[ν]? = some q0) (hr : q0.2.2.2.1 = some .int) : CallV isI ν ν' as := by
  intro X n m G I J R
  obtain ⟨n', m', G', r, I1, J1, a, b⟩ := h X n m G I J R
  exact ⟨n', m', G', r, I1, J1, Cv_int hq hr a, a, b⟩
theorem v_odds (x1 x2 x3 x4 : Int32) : CallV isJ 115 204 [.int x1, .int x2, .int x3, .int x4] := by
  intro X n m G I J R
  obtain ⟨v, I1, J1, a, b, c, d⟩ := q_oddsL x1 x2 x3 x4 X n m G I J R
  exact ⟨n, m, G, _, I1, J1, ⟨v, rfl⟩, a, b, R.fr c d, fun c1 h1 h2 => c c1 (by omega) (by omega) (by unfold isScr; omega), fun c1 h1 => d.1 c1 (by omega) (by omega)⟩
theorem call_both {P : Value → Prop} {ν ν' : Nat} {as : List Value} (h : CallV P ν ν' as) (X : Nat × (Nat → Int32)) {n m : Nat} {G : zG} {I : zI} (R : Rel n m G I I) : ∃ (n' m' : Nat) (G' : zG) (r : Value) (I1 J1 : zI), P r ∧ Cv X 999 ν (.ref 0 :: as) G I (some r, G', I1) ∧ Cv X 999 ν' (.ref 57 :: as) G' I1 (some r, G', J1) ∧ Rel n' m' G' J1 J1 := by
  obtain ⟨n1, m1, G1, r1, I1, J1, -, a1, -, -, a4, -⟩ := h X n m G I I R
  obtain ⟨n2, m2, G2, r2, I2, J2, p, b1, b2, b3, b4, b5⟩ := h X n m G I I1 (R.cong (fun _ _ => rfl) a4)
  have e := Cv_det a1 b1
  have e1 : r1 = r2 := Option.some.inj (congrArg Prod.fst e)
  have e2 : G1 = G2 := congrArg (fun q => q.2.1) e
  have e3 : I1 = I2 := congrArg (fun q => q.2.2) e
  subst e1 e2 e3
  exact ⟨n2, m2, G1, r1, I1, J2, p, a1.deep (by omega), b2.deep (by omega), b3.cong b5 (fun _ _ _ => rfl)⟩
