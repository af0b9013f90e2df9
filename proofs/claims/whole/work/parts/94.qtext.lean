/-! A TEXT, A CALL OF BOTH -/
theorem TR.keep {G G1 : zG} {I J I1 J1 : zI} {w t m : Nat} (h : TR G I J w t) (ht : t < m) (hw : 52 ≤ w) (hn : zn G ≤ zn G1) (hG : ∀ a, a < zn G → 52 ≤ a → zk G1 a = zk G a ∧ zl G1 a = zl G a ∧ ∀ j, zr G1 a j = zr G a j)
    (h1 : I1 (w + 1) = I (w + 1)) (h2 : I1 (w + 2) = I (w + 2)) (h62 : ∀ k, k < 200 * m → J1 62 k = J 62 k) (h63 : ∀ k, k < 4 * m → J1 63 k = J 63 k) : TR G1 I1 J1 w t := by
  obtain ⟨a, b, c, st, dp, e1, e2, e3, e4⟩ := h
  have lt : w + 4 < zn G := a.1
  have l1 : zl G1 (w + 1) = zl G (w + 1) := (hG (w + 1) (by omega) (by omega)).2.1
  have ll : lwL G1 w = lwL G w := by
    funext j
    unfold lwL
    rw [l1]
  refine ⟨⟨by omega, (hG w (by omega) hw).1.trans a.2.1, fun j hj => ?_⟩, b, by rw [l1]; exact c, st, dp, by rw [l1]; exact e1, e2, fun p hp => ⟨by rw [h2]; exact (e3 p hp).1, by rw [h63 _ (by omega)]; exact (e3 p hp).2⟩, fun p hp => ?_⟩
  · obtain ⟨q1, q2, q3⟩ := a.2.2 j hj
    have g := hG (w + (j + 1)) (by omega) (by omega)
    exact ⟨((hG w (by omega) hw).2.2 j).trans q1, g.1.trans q2, by rw [ll]; exact g.2.1.trans q3⟩
  · obtain ⟨d0, d1, d2⟩ := e4 p hp
    have s3 : st (p + 1) ≤ st 3 := by
      rcases (show p = 0 ∨ p = 1 ∨ p = 2 by omega) with rfl | rfl | rfl
      · exact Nat.le_trans (e2 1 (by omega)) (e2 2 (by omega))
      · exact e2 2 (by omega)
      · exact Nat.le_refl _
    refine ⟨d0, d1, fun k k1 k2 => ?_⟩
    rw [h1, h62 _ (by omega)]
    exact d2 k k1 k2
theorem Rel.txt {n m m1 : Nat} {G G1 : zG} {I J I1 J1 : zI} (R : Rel n m G I J) (hS : SG G1) (hr : zn G1 = 75 + 5 * m1 ∧ zs G1 ≤ 5000 + 300 * m1) (hm : m ≤ m1) (hI : ∀ c, c < 57 → c ≠ 0 → c ≠ 39 → c ≠ 41 → c ≠ 42 → I1 c = I c) (h03 : I1 0 3 = I 0 3) (h09 : I1 0 9 = zi 0) (F : FT m J J1) (z5 : J1 57 5 = zi 0) (T : TXs m1 G1 I1 J1) : Rel n m1 G1 I1 J1 := by
  have f57 : ∀ k, k < 5 ∨ k = 9 ∨ k = 10 ∨ k = 11 ∨ k = 12 ∨ k = 34 → J1 57 k = J 57 k := fun k h => F.2.1 k (by omega) (by omega) (by omega) (by omega)
  have fj : ∀ c, (57 < c ∧ c < 62) ∨ (63 < c ∧ c < 70) → J1 c = J c := fun c h => F.1 c (by omega) (by omega) (by omega) (by omega)
  obtain ⟨r, r1, r2, r3⟩ := R.L
  refine ⟨hS, hr, R.H.fr (fun c a b => hI c (by omega) (by omega) (by omega) (by omega) (by omega)) (f57 0 (by omega)) (fj 58 (by omega)) (fj 59 (by omega)) (fj 60 (by omega)), T, ⟨r, by omega, by rw [hI 1 (by omega) (by omega) (by omega) (by omega) (by omega)]; exact r2, (f57 9 (by omega)).trans r3⟩, ⟨0, by omega, h09, z5, fun i hi => absurd hi (Nat.not_lt_zero _)⟩,
    R.s.fr (fun c a b => hI c (by omega) (by omega) (by omega) (by omega) (by omega)) (fj 65 (by omega)) (fj 66 (by omega)) (fj 67 (by omega)), ?_, (f57 34 (by omega)).trans R.q, fun k hk => by rw [fj 69 (by omega)]; exact R.w k hk⟩
  obtain ⟨i1, i2⟩ := R.i.fr (n' := n) (I1 := I1) (J1 := J1) (Nat.le_refl _) h03 (fun c a b => hI c (by omega) (by omega) (by omega) (by omega) (by omega)) (fun k a b => f57 k (by omega)) (fj 64 (by omega)) (fun x _ => by rw [fj 58 (by omega), fj 59 (by omega)]; exact ⟨rfl, rfl⟩)
  refine ⟨i1, i2.elim Or.inl fun q => Or.inr ?_⟩
  obtain ⟨q0, k, s, k1, s1, q⟩ := q
  exact ⟨q0, k, s, k1, by omega, q⟩
theorem q_text : CallOK 42 129 [] := by
  intro X n m G I J R
  have hS := R.S
  obtain ⟨t1, t6, t7, t8, tt⟩ := R.T
  obtain ⟨k, p1, p2, p3, p4⟩ := R.P
  obtain ⟨r1, r2⟩ := R.room
  by_cases hm : m = 6
  · subst hm
    exact ⟨n, 6, G, _, I, J, c_text_full hS t7, z_text_full hS t8, R, fun _ _ _ => rfl, fun _ _ => rfl⟩
  rcases both_text (X := X) hS (m := m) (by omega) p1 t7 p2 t8 p3 (fun i hi => (p4 i hi).1) R.w with ⟨e, I1, J1, le, kc, kz, fw, F, z5, z8⟩ | ⟨ss, I1, J1, f, fw, hf, kc, kz, F, z5, z8, l160, T⟩
  · have fI : ∀ c, c ≠ 0 → c ≠ 39 → c ≠ 41 → c ≠ 42 → z_up I1 0 9 0 c = I c := fun c a b e g => by rw [up_cell a]; exact fw c b e g
    have f0 : I1 0 = I 0 := fw 0 (by decide) (by decide) (by decide)
    refine ⟨n, m, G, _, _, _, kc.deep (by omega), kz.deep (by omega), R.txt hS ⟨r1, r2⟩ (Nat.le_refl _) (fun c _ => fI c) (by rw [up_place (by decide), f0]) up_same F z5 ⟨t1, t6, by rw [up_place (by decide), f0]; exact t7, z8, fun t ht => ?_⟩, fun c h1 h2 => fI c (by omega) (by omega) (by omega) (by omega), fun c h => F.1 c (by omega) (by omega) (by omega) (by omega)⟩
    obtain ⟨w, w1, w2, w3⟩ := tt t ht
    have w5 : 52 ≤ w := by unfold isW at w2; omega
    exact ⟨w, w1, w2, w3.keep ht w5 (Nat.le_refl _) (fun _ _ _ => ⟨rfl, rfl, fun _ => rfl⟩) (fI _ (by omega) (by omega) (by omega) (by omega)) (fI _ (by omega) (by omega) (by omega) (by omega)) F.2.2.1 F.2.2.2⟩
  · obtain ⟨s, hs⟩ : ∃ s, s = ss.flatten.length := ⟨_, rfl⟩
    rw [← hs] at kc kz l160 hf
    obtain ⟨I2, hI2⟩ : ∃ I2 : zI, I2 = z_up (zLWI G s (z_up I1 0 9 0) f) 0 7 (zi (m + 1)) := ⟨_, rfl⟩
    obtain ⟨G2, hG2⟩ : ∃ G2 : zG, G2 = zPR_ (zLW G s) 43 m (zn G) := ⟨_, rfl⟩
    obtain ⟨v1, v2, v3, v4⟩ := zLW_law (G := G) (s := s)
    have hS2 : SG G2 := by rw [hG2]; exact (zLW_SG hS).put43
    have n2 : zn G2 = zn G + 5 := by rw [hG2]; exact v3
    have s2 : zs G2 = zs G + 4 + s + 4 + 6 + 40 := by rw [hG2]; exact v4
    have fI : ∀ c, c < 80 → c ≠ 0 → c ≠ 39 → c ≠ 41 → c ≠ 42 → I2 c = I c := fun c h a b e g => by
      rw [hI2, up_cell a, zLWI_old (by omega), up_cell a]; exact fw c b e g
    have f0 : ∀ q, q ≠ 7 → q ≠ 9 → I2 0 q = I 0 q := fun q a b => by
      rw [hI2, up_place a, zLWI_old (by omega), up_place b, fw 0 (by decide) (by decide) (by decide)]
    have fO : ∀ c, 80 ≤ c → c < zn G → I2 c = I c := fun c a b => by
      rw [hI2, up_cell (by omega), zLWI_old b, up_cell (by omega)]; exact fw c (by omega) (by omega) (by omega)
    have g0 : ∀ a, a ≠ 43 → zk G2 a = zk (zLW G s) a ∧ zl G2 a = zl (zLW G s) a ∧ ∀ j, zr G2 a j = zr (zLW G s) a j := fun a ha => by
      rw [hG2]
      exact ⟨rfl, rfl, fun j => if_neg (fun q => ha q.1)⟩
    have gO : ∀ a, a < zn G → 52 ≤ a → zk G2 a = zk G a ∧ zl G2 a = zl G a ∧ ∀ j, zr G2 a j = zr G a j := fun a h1 h2 => by
      obtain ⟨x1, x2, x3⟩ := g0 a (by omega)
      obtain ⟨y1, y2, y3⟩ := zLW_old (G := G) (s := s) h1
      exact ⟨x1.trans y1, x2.trans y2, fun j => (x3 j).trans (y3 j)⟩
    rw [← hI2] at kc
    rw [← hG2] at kc kz
    refine ⟨n, m + 1, G2, _, I2, J1, kc.deep (by omega), kz.deep (by omega), R.txt hS2 ⟨by omega, by omega⟩ (by omega) (fun c a => fI c (by omega)) (f0 3 (by decide) (by decide)) (by rw [hI2, up_place (by decide), zLWI_old (by omega)]; exact up_same) F z5 ⟨by omega, by omega, by rw [hI2]; exact up_same, z8, fun t ht => ?_⟩, fun c h1 h2 => fI c (by omega) (by omega) (by omega) (by omega) (by omega), fun c h => F.1 c (by omega) (by omega) (by omega) (by omega)⟩
    by_cases q : t < m
    · obtain ⟨w, w1, w2, w3⟩ := tt t q
      have w5 : w + 4 < zn G := w3.1.1
      have fw' : ∀ j, 1 ≤ j → j ≤ 2 → I2 (w + j) = I (w + j) := fun j a b => by
        rcases Nat.lt_or_ge (w + j) 80 with h | h
        · exact fI _ h (by unfold isW at w2; omega) (by unfold isW at w2; omega) (by unfold isW at w2; omega) (by unfold isW at w2; omega)
        · exact fO _ h (by omega)
      refine ⟨w, ?_, w2, w3.keep q (by unfold isW at w2; omega) (by omega) gO (fw' 1 (by omega) (by omega)) (fw' 2 (by omega) (by omega)) F.2.2.1 F.2.2.2⟩
      rw [hG2]
      show z_upR (zr (zLW G s)) 43 m (some (zn G)) 43 t = some w
      unfold z_upR
      rw [if_neg (fun e => by omega), (zLW_old (G := G) (s := s) (a := 43) (by omega)).2.2 t]
      exact w1
    · obtain rfl : t = m := by omega
      obtain ⟨h3, hok, h16, hst, h42, h62⟩ := T
      have nz : zn G ≠ 43 := by omega
      obtain ⟨x1, x2, x3⟩ := g0 (zn G) nz
      refine ⟨zn G, by rw [hG2]; exact if_pos ⟨rfl, rfl⟩, Or.inr (by omega), tr_new (ss := ss) ⟨by omega, x1.trans v1.2.1, fun j hj => ?_⟩ (by omega) ?_ h3 hok h16 (fun k hk => ?_) (fun k hk => ⟨?_, (h42 k hk).2⟩) h62⟩
      · obtain ⟨y1, y2, y3⟩ := v1.2.2 j hj
        obtain ⟨u1, u2, u3⟩ := g0 (zn G + (j + 1)) (by omega)
        refine ⟨(x3 j).trans y1, u1.trans y2, u2.trans (y3.trans ?_)⟩
        unfold lwL
        rw [(g0 (zn G + 1) (by omega)).2.1]
      · rw [(g0 (zn G + 1) (by omega)).2.1, v2, hs]
      · rw [hI2, up_cell (by omega), zLWI_new.1, hf k (by omega)]
        exact hst.2 k hk
      · rw [hI2, up_cell (by omega), zLWI_new.2, up_cell (by decide)]
        exact (h42 k hk).1
