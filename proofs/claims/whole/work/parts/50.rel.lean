/-! THE CLASS (in I) AND THE REFERENCE (in J) STAND THE SAME -/
def isW (w : Nat) : Prop := w = 52 ∨ (80 ≤ w ∧ (w - 80) % 5 = 0)
def isScr (c : Nat) : Prop := c = 55 ∨ c = 56 ∨ (80 ≤ c ∧ 3 ≤ (c - 80) % 5)
/-- a morning of the class changes its morning and what a law works on -/
def FrL (I I1 : zI) : Prop := ∀ c, ¬ (27 ≤ c ∧ c ≤ 38) → ¬ isScr c → I1 c = I c
/-- what the class keeps while it thinks -/
def FC (I I1 : zI) : Prop := ∀ c, ¬ (9 ≤ c ∧ c ≤ 16) → ¬ (27 ≤ c ∧ c ≤ 38) → ¬ isScr c → I1 c = I c
def FZ (J J1 : zI) : Prop := (∀ c, c ≠ 57 → ¬ (71 ≤ c ∧ c ≤ 79) → J1 c = J c) ∧ ∀ k, (k < 18 ∨ k = 34) → J1 57 k = J 57 k
theorem FrL.rf {I : zI} : FrL I I := fun _ _ _ => rfl
theorem FrL.tr {I I1 I2 : zI} (h : FrL I I1) (h2 : FrL I1 I2) : FrL I I2 := fun c a b => (h2 c a b).trans (h c a b)
theorem FC.rf {I : zI} : FC I I := fun _ _ _ _ => rfl
theorem FC.tr {I I1 I2 : zI} (h : FC I I1) (h2 : FC I1 I2) : FC I I2 := fun c a b e => (h2 c a b e).trans (h c a b e)
theorem FZ.rf {I : zI} : FZ I I := ⟨fun _ _ _ => rfl, fun _ _ => rfl⟩
theorem FZ.tr {I I1 I2 : zI} (h : FZ I I1) (h2 : FZ I1 I2) : FZ I I2 := ⟨fun c a b => (h2.1 c a b).trans (h.1 c a b), fun k a => (h2.2 k a).trans (h.2 k a)⟩
theorem FrR.rf {I : zI} : FrR I I := fun _ _ => rfl
theorem FrM.L {w : Nat} {I I1 : zI} (h : FrM w I I1) (hw : isW w) : FrL I I1 := fun c a b => h c a (fun e => b (by unfold isScr; unfold isW at hw; omega)) (fun e => b (by unfold isScr; unfold isW at hw; omega))
theorem FrL.C {I I1 : zI} (h : FrL I I1) : FC I I1 := fun c _ b e => h c b e
theorem FrR.Z {J J1 : zI} (h : FrR J J1) : FZ J J1 := ⟨fun c a b => h c (by omega), fun k _ => by rw [h 57 (by omega)]⟩
def TXs (m : Nat) (G : zG) (I J : zI) : Prop := 1 ≤ m ∧ m ≤ 6 ∧ I 0 7 = zi m ∧ J 57 8 = zi m ∧ ∀ t, t < m → ∃ w, zr G 43 t = some w ∧ isW w ∧ TR G I J w t
def LWs (m : Nat) (I J : zI) : Prop := ∃ r, r < m ∧ I 1 8 = zi r ∧ J 57 9 = zi r
def TPs (I J : zI) : Prop := ∃ k, k ≤ 160 ∧ I 0 9 = zi k ∧ J 57 5 = zi k ∧ ∀ i, i < k → I 44 i = J 61 i ∧ rg (J 61 i) 255
def SH1 (I J : zI) (s : Nat) : Prop := I 50 s = J 65 s ∧ (J 65 s = -1 ∨ ∃ q k : Nat, q < 3 ∧ J 65 s = zi q ∧ k ≤ 40 ∧ I 51 s = zi k ∧ J 66 s = zi k ∧ ∀ i, i < k → I (46 + s) i = J 67 (40 * s + i))
def SHs (I J : zI) : Prop := ∀ s, s < 4 → SH1 I J s
def KX (I J : zI) (x : Nat) : Prop := I 18 x = J 58 x ∧ I 19 x = J 59 x ∧ I 20 x = J 64 (5 * x) ∧ I 21 x = J 64 (5 * x + 1) ∧ I 22 x = J 64 (5 * x + 2) ∧ I 23 x = J 64 (5 * x + 3) ∧ I 24 x = J 64 (5 * x + 4) ∧ rg (J 64 (5 * x)) 4 ∧ rg (J 64 (5 * x + 1)) 999 ∧ rg (J 64 (5 * x + 2)) 999 ∧ rg (J 64 (5 * x + 3)) 16 ∧ (J 64 (5 * x + 4) = 0 ∨ J 64 (5 * x + 4) = 1)
def IMs (n m : Nat) (I J : zI) : Prop := I 0 3 = J 57 10 ∧ (J 57 10 = 0 ∨ (J 57 10 = 1 ∧ ∃ k r, k ≤ n ∧ r < m ∧ I 17 7 = zi k ∧ J 57 11 = zi k ∧ I 17 8 = zi r ∧ J 57 12 = zi r ∧ ∀ x, x < k → KX I J x))
def wdL : List Int32 := [116, 117, 114, 110, 115, 32, 32, 32, 99, 111, 115, 116, 115, 32, 32, 32, 121, 101, 108, 108, 115, 32, 32, 32, 99, 111, 108, 100, 32, 32, 32, 32, 119, 97, 115, 32, 32, 32, 32, 32, 115, 101, 116, 32, 32, 32, 32, 32, 98, 101, 97, 116, 32, 32, 32, 32, 108, 97, 116, 101, 32, 32, 32, 32, 109, 111, 114, 101, 32, 32, 32, 32, 111, 114, 32, 32, 32, 32, 32, 32, 97, 110, 100, 32, 32, 32, 32, 32, 110, 111, 116, 32, 32, 32, 32, 32]
def WDs (J : zI) : Prop := ∀ k, k < 96 → J 69 k = wdL.getD k 0
def Rel (n m : Nat) (G : zG) (I J : zI) : Prop := SG G ∧ (zn G = 75 + 5 * m ∧ zs G ≤ 5000 + 300 * m) ∧ RH 1 I J n ∧ TXs m G I J ∧ LWs m I J ∧ TPs I J ∧ SHs I J ∧ IMs n m I J ∧ J 57 34 = -1 ∧ WDs J
section
variable {n m : Nat} {G : zG} {I J : zI}
theorem Rel.S (h : Rel n m G I J) : SG G := h.1
theorem Rel.room (h : Rel n m G I J) : zn G = 75 + 5 * m ∧ zs G ≤ 5000 + 300 * m := h.2.1
theorem Rel.H (h : Rel n m G I J) : RH 1 I J n := h.2.2.1
theorem Rel.T (h : Rel n m G I J) : TXs m G I J := h.2.2.2.1
theorem Rel.L (h : Rel n m G I J) : LWs m I J := h.2.2.2.2.1
theorem Rel.P (h : Rel n m G I J) : TPs I J := h.2.2.2.2.2.1
theorem Rel.s (h : Rel n m G I J) : SHs I J := h.2.2.2.2.2.2.1
theorem Rel.i (h : Rel n m G I J) : IMs n m I J := h.2.2.2.2.2.2.2.1
theorem Rel.q (h : Rel n m G I J) : J 57 34 = -1 := h.2.2.2.2.2.2.2.2.1
theorem Rel.w (h : Rel n m G I J) : WDs J := h.2.2.2.2.2.2.2.2.2
theorem TXs.fr {I1 J1 : zI} (h : TXs m G I J) (h0 : I1 0 7 = I 0 7) (h1 : J1 57 8 = J 57 8) (hI : ∀ c, 52 ≤ c → ¬ isScr c → I1 c = I c) (h62 : J1 62 = J 62) (h63 : J1 63 = J 63) : TXs m G I1 J1 := by
  obtain ⟨a, b, c, d, e⟩ := h
  refine ⟨a, b, h0.trans c, h1.trans d, fun t ht => ?_⟩
  obtain ⟨w, e1, e2, e3⟩ := e t ht
  refine ⟨w, e1, e2, e3.fr (hI _ ?_ ?_) (hI _ ?_ ?_) h62 h63⟩ <;> unfold isW at e2 <;> (try unfold isScr) <;> omega
theorem Rel.fr {I1 J1 : zI} (h : Rel n m G I J) (hI : FC I I1) (hJ : FZ J J1) : Rel n m G I1 J1 := by
  obtain ⟨a, b, c, d, ⟨r, e1, e2, e3⟩, ⟨k, f1, f2, f3, f4⟩, g, ⟨i1, i2⟩, q, w⟩ := h
  have fi : ∀ c, c < 9 ∨ (16 < c ∧ c < 27) ∨ (38 < c ∧ c < 55) → I1 c = I c := fun c h => hI c (by omega) (by omega) (by unfold isScr; omega)
  have fj : ∀ c, 57 < c ∧ c < 71 → J1 c = J c := fun c h => hJ.1 c (by omega) (by omega)
  refine ⟨a, b, c.fr (fun c h1 h2 => fi c (by omega)) (hJ.2 0 (by omega)) (fj 58 (by omega)) (fj 59 (by omega)) (fj 60 (by omega)), d.fr (by rw [fi 0 (by omega)]) (hJ.2 8 (by omega)) (fun c h1 h2 => hI c (by omega) (by omega) h2) (fj 62 (by omega)) (fj 63 (by omega)), ⟨r, e1, by rw [fi 1 (by omega)]; exact e2, (hJ.2 9 (by omega)).trans e3⟩,
    ⟨k, f1, by rw [fi 0 (by omega)]; exact f2, (hJ.2 5 (by omega)).trans f3, fun i hi => by rw [fi 44 (by omega), fj 61 (by omega)]; exact f4 i hi⟩, fun s hs => ?_, ⟨by rw [fi 0 (by omega), hJ.2 10 (by omega)]; exact i1, ?_⟩, (hJ.2 34 (by omega)).trans q, fun k hk => by rw [fj 69 (by omega)]; exact w k hk⟩
  · obtain ⟨s1, s2⟩ := g s hs
    refine ⟨by rw [fi 50 (by omega), fj 65 (by omega)]; exact s1, ?_⟩
    rw [fj 65 (by omega), fj 66 (by omega), fj 67 (by omega), fi 51 (by omega), fi (46 + s) (by omega)]
    exact s2
  · rw [hJ.2 10 (by omega), hJ.2 11 (by omega), hJ.2 12 (by omega), fi 17 (by omega)]
    unfold KX at i2 ⊢
    rw [fj 58 (by omega), fj 59 (by omega), fj 64 (by omega), fi 18 (by omega), fi 19 (by omega), fi 20 (by omega), fi 21 (by omega), fi 22 (by omega), fi 23 (by omega), fi 24 (by omega)]
    exact i2
end
/-- the house at o is the reference's, and so is its law -/
def AD (o n r m : Nat) (G : zG) (I J : zI) : Prop := RH o I J n ∧ r < m ∧ I o 8 = zi r ∧ J 57 9 = zi r ∧ TXs m G I J
theorem AD.fr {o n r m : Nat} {G : zG} {I J I1 J1 : zI} (h : AD o n r m G I J) (ho : o + 7 < 27) (hI : FrL I I1) (hJ : FrR J J1) : AD o n r m G I1 J1 := by
  obtain ⟨a, b, c, d, e⟩ := h
  have fi : ∀ c, c < 27 → I1 c = I c := fun c h => hI c (by omega) (by unfold isScr; omega)
  exact ⟨a.fr (fun c h1 h2 => fi c (by omega)) (by rw [hJ 57 (by omega)]) (hJ 58 (by omega)) (hJ 59 (by omega)) (hJ 60 (by omega)), b, by rw [fi o (by omega)]; exact c, by rw [hJ 57 (by omega)]; exact d,
    e.fr (by rw [fi 0 (by omega)]) (by rw [hJ 57 (by omega)]) (fun c h1 h2 => hI c (by omega) h2) (hJ 62 (by omega)) (hJ 63 (by omega))⟩
/-- a morning of thirty beats -/
theorem live_sim {X : Nat × (Nat → Int32)} {d : Nat} {G : zG} (hS : SG G) {o n r m : Nat} (ho : o = 1 ∨ o = 9) {I J : zI} (h : AD o n r m G I J) (hq : J 57 34 = -1) :
    ∃ I1 J1 : zI, Cv X (d + 6) 62 [.ref 0, .ref o] G I (none, G, I1) ∧ Cv X (d + 6) 159 [.ref 57, .int 30] G J (none, G, J1) ∧ FrL I I1 ∧ FrR J J1 ∧ MF I1 J1 n 30 0 := by
  obtain ⟨a, b, c, e, f⟩ := h
  have hH := hS.H (o := o) (by omega)
  obtain ⟨w, w1, w2, w3⟩ := f.2.2.2.2 r b
  have hm := f.2.1
  obtain ⟨I1, J1, k1, k2, k3, k4, k5⟩ := run_sim (X := X) (d := d) hS (w := w) (B := 30) hH (by omega) (by unfold isW at w2; omega) (by omega) a w3 e hq
  exact ⟨I1, J1, Cv.of hq_62 (z_le rfl) rfl (wp_T_live o hS ⟨w, I, (c_lawOf (d := d) hS hH (by omega) c w1).deep (by omega), I1, k1, rfl⟩), k2.deep (by omega), k3.L w2, k4, k5⟩
theorem still_sim {X : Nat × (Nat → Int32)} {d : Nat} {G : zG} (hS : SG G) {o n r m : Nat} (ho : o = 1 ∨ o = 9) {I J : zI} (h : AD o n r m G I J) {q : Int32} (hq : J 57 34 = q) :
    ∃ I1 J1 : zI, Cv X (d + 6) 97 [.ref 0, .ref o, .int q] G I (none, G, I1) ∧ Cv X (d + 6) 159 [.ref 57, .int 30] G J (none, G, J1) ∧ FrL I I1 ∧ FrR J J1 ∧ MF I1 J1 n 30 0 := by
  obtain ⟨a, b, c, e, f⟩ := h
  have hH := hS.H (o := o) (by omega)
  obtain ⟨w, w1, w2, w3⟩ := f.2.2.2.2 r b
  have hm := f.2.1
  obtain ⟨I1, J1, k1, k2, k3, k4, k5⟩ := run_sim (X := X) (d := d) hS (w := w) (B := 30) hH (by omega) (by unfold isW at w2; omega) (by omega) a w3 e hq
  exact ⟨I1, J1, Cv.of hq_97 (z_le rfl) rfl (wp_T_liveWithStill o q hS ⟨w, I, (c_lawOf (d := d) hS hH (by omega) c w1).deep (by omega), I1, k1, rfl⟩), k2.deep (by omega), k3.L w2, k4, k5⟩
theorem Rel.AD {n m : Nat} {G : zG} {I J : zI} (h : Rel n m G I J) : ∃ r, AD 1 n r m G I J := by
  obtain ⟨r, e1, e2, e3⟩ := h.L
  exact ⟨r, h.H, e1, e2, e3, h.T⟩
/-- a call that both answer alike -/
def CallOK (ν ν' : Nat) (as : List Value) : Prop := ∀ (X : Nat × (Nat → Int32)) (n m : Nat) (G : zG) (I J : zI), Rel n m G I J → ∃ (n' m' : Nat) (G' : zG) (r : Value) (I1 J1 : zI), Cv X 100 ν (.ref 0 :: as) G I (some r, G', I1) ∧ Cv X 100 ν' (.ref 57 :: as) G' J (some r, G', J1) ∧ Rel n' m' G' I1 J1 ∧ (∀ c, 57 ≤ c → c < 80 → I1 c = I c) ∧ (∀ c, c < 57 ∨ 80 ≤ c → J1 c = J c)
/-- a call that asks -/
def Quiet (ν ν' : Nat) (as : List Value) : Prop := ∀ (X : Nat × (Nat → Int32)) (n m : Nat) (G : zG) (I J : zI), Rel n m G I J → ∃ (r : Value) (I1 J1 : zI), Cv X 100 ν (.ref 0 :: as) G I (some r, G, I1) ∧ Cv X 100 ν' (.ref 57 :: as) G J (some r, G, J1) ∧ FC I I1 ∧ FZ J J1
theorem Quiet.ok {ν ν' : Nat} {as : List Value} (h : Quiet ν ν' as) : CallOK ν ν' as := by
  intro X n m G I J R
  obtain ⟨r, I1, J1, a, b, c, d⟩ := h X n m G I J R
  exact ⟨n, m, G, r, I1, J1, a, b, R.fr c d, fun c1 h1 h2 => c c1 (by omega) (by omega) (by unfold isScr; omega), fun c1 h1 => d.1 c1 (by omega) (by omega)⟩
theorem sh_eq {o n : Nat} {I J : zI} (h : RH 1 I J n) (x1 : Int32) : f_Z_isShower J x1 = f_T_isShower I x1 := by
  unfold f_Z_isShower f_T_isShower
  rw [h.ci, h.cj]; rfl
theorem Rel.sh {n m : Nat} {G : zG} {I J : zI} (h : Rel n m G I J) (x1 : Int32) : f_Z_isShower J x1 = f_T_isShower I x1 := sh_eq (o := 1) h.H x1
theorem sh_spec {n : Nat} {I J : zI} (h : RH 1 I J n) {x1 : Int32} (h1 : ¬ f_T_isShower I x1 = 0) : ∃ x, x < n ∧ x1 = zi x := by
  have h4 := h.le
  unfold f_T_isShower at h1
  rw [h.ci] at h1
  rcases Nat.eq_zero_or_pos n with e | e
  · subst e
    exfalso
    unfold f_T_within at h1
    by_cases q : x1 < 0
    · rw [if_pos q] at h1; exact h1 rfl
    · rw [if_neg q] at h1
      have q1 := z_lq.1 (Int32.not_lt.1 q)
      have q1 : 0 ≤ x1.toInt := q1
      rw [if_pos ((z_lt (a := zi 0 - 1) (b := x1)).2 (show (-1 : Int) < x1.toInt by omega))] at h1
      exact h1 rfl
  · rw [show zi n - 1 = zi (n - 1) from zi_sub (b := 1) e] at h1
    obtain ⟨k, -, k2, k3⟩ := wi_spec (a := 0) (b := n - 1) (by omega) (by omega) h1
    exact ⟨k, by omega, k3⟩
theorem Rel.shx {n m : Nat} {G : zG} {I J : zI} (h : Rel n m G I J) {x1 : Int32} (h1 : ¬ f_T_isShower I x1 = 0) : ∃ x, x < n ∧ x1 = zi x := sh_spec h.H h1
