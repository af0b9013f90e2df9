theorem shower_sim {X : Nat × (Nat → Int32)} {d n m : Nat} {G : zG} {I J : zI} (R : Rel n m G I J) (x1 x2 x3 : Int32) :
    ∃ (n' : Nat) (v : Int32) (I1 J1 : zI), Cv X (d + 2) 53 [.ref 0, .int x1, .int x2, .int x3] G I (some (.int v), G, I1) ∧ Cv X (d + 2) 153 [.ref 57, .int x1, .int x2, .int x3] G J (some (.int v), G, J1) ∧ Rel n' m G I1 J1 ∧ (∀ c, 9 ≤ c → I1 c = I c) ∧ (∀ c, c ≠ 57 → ¬ (58 ≤ c ∧ c ≤ 60) → J1 c = J c) := by
  have hS := R.S
  have hn := R.H.le
  have hH := hS.H (o := 1) (by omega)
  have hc : I 1 7 = zi n := R.H.ci
  have hj : J 57 0 = zi n := R.H.cj
  by_cases h1 : f_T_within x1 0 59 = 0
  · exact ⟨n, _, I, J, Cv.of hq_53 (z_le rfl) rfl (wp_T_shower _ _ _ (by omega) hS ⟨fun _ => rfl, fun h => absurd h1 h⟩), Cv.of hq_153 (z_le rfl) rfl (wp_Z_shower _ _ _ hS ⟨fun _ => rfl, fun h => absurd h1 h⟩), R, fun _ _ => rfl, fun _ _ _ => rfl⟩
  by_cases h2 : f_T_within x2 0 4 = 0
  · exact ⟨n, _, I, J, Cv.of hq_53 (z_le rfl) rfl (wp_T_shower _ _ _ (by omega) hS ⟨fun h => absurd h h1, fun _ => ⟨fun _ => rfl, fun h => absurd h2 h⟩⟩), Cv.of hq_153 (z_le rfl) rfl (wp_Z_shower _ _ _ hS ⟨fun h => absurd h h1, fun _ => ⟨fun _ => rfl, fun h => absurd h2 h⟩⟩), R, fun _ _ => rfl, fun _ _ _ => rfl⟩
  by_cases h3 : f_T_isWarm x3 = 0
  · exact ⟨n, _, I, J, Cv.of hq_53 (z_le rfl) rfl (wp_T_shower _ _ _ (by omega) hS ⟨fun h => absurd h h1, fun _ => ⟨fun h => absurd h h2, fun _ => ⟨fun h => absurd h3 h, fun _ => rfl⟩⟩⟩), Cv.of hq_153 (z_le rfl) rfl (wp_Z_shower _ _ _ hS ⟨fun h => absurd h h1, fun _ => ⟨fun h => absurd h h2, fun _ => ⟨fun h => absurd h3 h, fun _ => rfl⟩⟩⟩), R, fun _ _ => rfl, fun _ _ _ => rfl⟩
  obtain ⟨k, -, hk, rfl⟩ := wi_spec (a := 0) (b := 59) (by omega) (by omega) h1
  obtain ⟨l, -, hl, rfl⟩ := wi_spec (a := 0) (b := 4) (by omega) (by omega) h2
  obtain ⟨w, -, hw, rfl⟩ := wi_spec (a := 0) (b := 999) (by omega) (by omega) h3
  by_cases h4 : I 1 7 < 4
  · have n3 : n < 4 := by rw [hc] at h4; exact (zi_lt (b := 4) (by omega) (by omega)).1 h4
    have ek : zi k / 10 = zi (k / 10) := zi_div (d := 10) (by omega) (by omega) (by omega)
    have er : zi k - zi k / 10 * 10 = zi (k % 10) := zi_rem (d := 10) (by omega) (by omega) (by omega)
    have nz : ¬ J 57 0 = 4 := by rw [hj]; exact fun h => absurd ((zi_eq (b := 4) (by omega) (by omega)).1 h) (by omega)
    obtain ⟨I1, hI1⟩ : ∃ I1 : zI, I1 = z_up (z_up (z_up (z_up (z_up (z_up (z_up (z_up I 2 (n) (zi (k / 10))) 3 (n) (zi (k % 10))) 4 (n) (zi l)) 5 (n) (zi w)) 6 (n) 0) 7 (n) 8) 8 (n) 1) 1 7 (zi (n + 1)) := ⟨_, rfl⟩
    obtain ⟨J1, hJ1⟩ : ∃ J1 : zI, J1 = z_up (z_up (z_up (z_up (z_up (z_up (z_up (z_up J 58 (n) (zi (k / 10))) 59 (n) (zi (k % 10))) 60 (5 * n) (zi l)) 60 (5 * n + 1) (zi w)) 60 (5 * n + 2) 0) 60 (5 * n + 3) 8) 60 (5 * n + 4) 1) 57 0 (zi (n + 1)) := ⟨_, rfl⟩
    have ce : Cv X (d + 1) 54 [.ref 1, .int (zi (k / 10)), .int (zi (k % 10)), .int (zi l), .int (zi w)] G I (none, G, I1) := by
      refine Cv.of hq_54 (z_le rfl) rfl ?_
      rw [hI1]
      refine wp_H_enter 1 _ _ _ _ hH ?_
      refine ⟨fun _ => ?_, fun h => absurd h4 h⟩
      rw [hc]
      rw [zi_nat (show n < _ by omega)]
      refine ⟨zi_inr (by omega) (by omega), fun A1 g1 => ?_⟩
      have c1 : A1 1 7 = zi n := by rw [g1, up_cell (by decide)]; exact hc
      rw [c1, zi_nat (show n < _ by omega)]
      refine ⟨zi_inr (by omega) (by omega), fun A2 g2 => ?_⟩
      have c2 : A2 1 7 = zi n := by rw [g2, up_cell (by decide)]; exact c1
      rw [c2, zi_nat (show n < _ by omega)]
      refine ⟨zi_inr (by omega) (by omega), fun A3 g3 => ?_⟩
      have c3 : A3 1 7 = zi n := by rw [g3, up_cell (by decide)]; exact c2
      rw [c3, zi_nat (show n < _ by omega)]
      refine ⟨zi_inr (by omega) (by omega), fun A4 g4 => ?_⟩
      have c4 : A4 1 7 = zi n := by rw [g4, up_cell (by decide)]; exact c3
      rw [c4, zi_nat (show n < _ by omega)]
      refine ⟨zi_inr (by omega) (by omega), fun A5 g5 => ?_⟩
      have c5 : A5 1 7 = zi n := by rw [g5, up_cell (by decide)]; exact c4
      rw [c5, zi_nat (show n < _ by omega)]
      refine ⟨zi_inr (by omega) (by omega), fun A6 g6 => ?_⟩
      have c6 : A6 1 7 = zi n := by rw [g6, up_cell (by decide)]; exact c5
      rw [c6, zi_nat (show n < _ by omega)]
      refine ⟨zi_inr (by omega) (by omega), fun A7 g7 => ?_⟩
      have c7 : A7 1 7 = zi n := by rw [g7, up_cell (by decide)]; exact c6
      intro A8 g8
      rw [c7, zi1 n] at g8
      rw [g8, g7, g6, g5, g4, g3, g2, g1]
    have fI : ∀ c, 9 ≤ c → I1 c = I c := fun c h => by rw [hI1, up_cell (by omega), up_cell (by omega), up_cell (by omega), up_cell (by omega), up_cell (by omega), up_cell (by omega), up_cell (by omega), up_cell (by omega)]
    have fI0 : I1 0 = I 0 := by rw [hI1, up_cell (by omega), up_cell (by omega), up_cell (by omega), up_cell (by omega), up_cell (by omega), up_cell (by omega), up_cell (by omega), up_cell (by omega)]
    have fJ : ∀ c, c ≠ 57 → ¬ (58 ≤ c ∧ c ≤ 60) → J1 c = J c := fun c h1 h2 => by rw [hJ1, up_cell h1, up_cell (by omega), up_cell (by omega), up_cell (by omega), up_cell (by omega), up_cell (by omega), up_cell (by omega), up_cell (by omega)]
    have fJ57 : ∀ q, q ≠ 0 → J1 57 q = J 57 q := fun q h => by rw [hJ1, up_place h, up_cell (by decide), up_cell (by decide), up_cell (by decide), up_cell (by decide), up_cell (by decide), up_cell (by decide), up_cell (by decide)]
    have i2 : I1 2 n = (zi (k / 10)) := by rw [hI1, up_cell (by decide), up_cell (by decide), up_cell (by decide), up_cell (by decide), up_cell (by decide), up_cell (by decide), up_cell (by decide), up_same]
    have o2 : ∀ y, y ≠ n → I1 2 y = I 2 y := fun y hy => by rw [hI1, up_cell (by decide), up_cell (by decide), up_cell (by decide), up_cell (by decide), up_cell (by decide), up_cell (by decide), up_cell (by decide), up_place hy]
    have i3 : I1 3 n = (zi (k % 10)) := by rw [hI1, up_cell (by decide), up_cell (by decide), up_cell (by decide), up_cell (by decide), up_cell (by decide), up_cell (by decide), up_same]
    have o3 : ∀ y, y ≠ n → I1 3 y = I 3 y := fun y hy => by rw [hI1, up_cell (by decide), up_cell (by decide), up_cell (by decide), up_cell (by decide), up_cell (by decide), up_cell (by decide), up_place hy, up_cell (by decide)]
    have i4 : I1 4 n = (zi l) := by rw [hI1, up_cell (by decide), up_cell (by decide), up_cell (by decide), up_cell (by decide), up_cell (by decide), up_same]
    have o4 : ∀ y, y ≠ n → I1 4 y = I 4 y := fun y hy => by rw [hI1, up_cell (by decide), up_cell (by decide), up_cell (by decide), up_cell (by decide), up_cell (by decide), up_place hy, up_cell (by decide), up_cell (by decide)]
    have i5 : I1 5 n = (zi w) := by rw [hI1, up_cell (by decide), up_cell (by decide), up_cell (by decide), up_cell (by decide), up_same]
    have o5 : ∀ y, y ≠ n → I1 5 y = I 5 y := fun y hy => by rw [hI1, up_cell (by decide), up_cell (by decide), up_cell (by decide), up_cell (by decide), up_place hy, up_cell (by decide), up_cell (by decide), up_cell (by decide)]
    have i6 : I1 6 n = 0 := by rw [hI1, up_cell (by decide), up_cell (by decide), up_cell (by decide), up_same]
    have o6 : ∀ y, y ≠ n → I1 6 y = I 6 y := fun y hy => by rw [hI1, up_cell (by decide), up_cell (by decide), up_cell (by decide), up_place hy, up_cell (by decide), up_cell (by decide), up_cell (by decide), up_cell (by decide)]
    have i7 : I1 7 n = 8 := by rw [hI1, up_cell (by decide), up_cell (by decide), up_same]
    have o7 : ∀ y, y ≠ n → I1 7 y = I 7 y := fun y hy => by rw [hI1, up_cell (by decide), up_cell (by decide), up_place hy, up_cell (by decide), up_cell (by decide), up_cell (by decide), up_cell (by decide), up_cell (by decide)]
    have i8 : I1 8 n = 1 := by rw [hI1, up_cell (by decide), up_same]
    have o8 : ∀ y, y ≠ n → I1 8 y = I 8 y := fun y hy => by rw [hI1, up_cell (by decide), up_place hy, up_cell (by decide), up_cell (by decide), up_cell (by decide), up_cell (by decide), up_cell (by decide), up_cell (by decide)]
    have j58 : ∀ y, y ≠ n → J1 58 y = J 58 y := fun y hy => by rw [hJ1, up_cell (by decide), up_cell (by decide), up_cell (by decide), up_cell (by decide), up_cell (by decide), up_cell (by decide), up_cell (by decide), up_place hy]
    have j59 : ∀ y, y ≠ n → J1 59 y = J 59 y := fun y hy => by rw [hJ1, up_cell (by decide), up_cell (by decide), up_cell (by decide), up_cell (by decide), up_cell (by decide), up_cell (by decide), up_place hy, up_cell (by decide)]
    have j60 : ∀ q, q / 5 ≠ n → J1 60 q = J 60 q := fun q hq => by rw [hJ1, up_cell (by decide), up_place (by omega), up_place (by omega), up_place (by omega), up_place (by omega), up_place (by omega), up_cell (by decide), up_cell (by decide)]
    have v0 : J1 58 (n) = (zi (k / 10)) := by rw [hJ1, up_cell (by decide), up_cell (by decide), up_cell (by decide), up_cell (by decide), up_cell (by decide), up_cell (by decide), up_cell (by decide), up_same]
    have v1 : J1 59 (n) = (zi (k % 10)) := by rw [hJ1, up_cell (by decide), up_cell (by decide), up_cell (by decide), up_cell (by decide), up_cell (by decide), up_cell (by decide), up_same]
    have v2 : J1 60 (5 * n) = (zi l) := by rw [hJ1, up_cell (by decide), up_place (by omega), up_place (by omega), up_place (by omega), up_place (by omega), up_same]
    have v3 : J1 60 (5 * n + 1) = (zi w) := by rw [hJ1, up_cell (by decide), up_place (by omega), up_place (by omega), up_place (by omega), up_same]
    have v4 : J1 60 (5 * n + 2) = 0 := by rw [hJ1, up_cell (by decide), up_place (by omega), up_place (by omega), up_same]
    have v5 : J1 60 (5 * n + 3) = 8 := by rw [hJ1, up_cell (by decide), up_place (by omega), up_same]
    have v6 : J1 60 (5 * n + 4) = 1 := by rw [hJ1, up_cell (by decide), up_same]
    have hR : RH 1 I1 J1 (n + 1) := by
      refine ⟨by omega, by rw [hI1, up_same], by rw [hJ1, up_same], fun y hy => ?_⟩
      by_cases e : y = n
      · subst e
        refine ⟨i2.trans v0.symm, i3.trans v1.symm, i4.trans v2.symm, i5.trans v3.symm, i6.trans v4.symm, i7.trans v5.symm, i8.trans v6.symm, ?_, ?_, ?_, ?_, ?_, ?_, ?_⟩
        · rw [v0]; exact rg_zi (k := 5) (by omega) (by omega)
        · rw [v1]; exact rg_zi (k := 9) (by omega) (by omega)
        · rw [v2]; exact rg_zi (k := 4) hl (by omega)
        · rw [v3]; exact rg_zi (k := 999) hw (by omega)
        · rw [v4]; exact ⟨by decide, by decide⟩
        · rw [v5]; exact ⟨by decide, by decide⟩
        · rw [v6]; exact Or.inr rfl
      · have hX := R.H.at' y (by omega)
        unfold RX at hX ⊢
        rw [j58 y e, j59 y e, j60 (5 * y) (by omega), j60 (5 * y + 1) (by omega), j60 (5 * y + 2) (by omega), j60 (5 * y + 3) (by omega), j60 (5 * y + 4) (by omega)]
        exact ⟨(o2 y e).trans hX.1, (o3 y e).trans hX.2.1, (o4 y e).trans hX.2.2.1, (o5 y e).trans hX.2.2.2.1, (o6 y e).trans hX.2.2.2.2.1, (o7 y e).trans hX.2.2.2.2.2.1, (o8 y e).trans hX.2.2.2.2.2.2.1, hX.2.2.2.2.2.2.2⟩
    have i18 : I1 1 8 = I 1 8 := by rw [hI1, up_place (by decide), up_cell (by decide), up_cell (by decide), up_cell (by decide), up_cell (by decide), up_cell (by decide), up_cell (by decide), up_cell (by decide)]
    refine ⟨n + 1, zi n, I1, J1, Cv.of hq_53 (z_le rfl) rfl (wp_T_shower _ _ _ (by omega) hS ?_), Cv.of hq_153 (z_le rfl) rfl (wp_Z_shower _ _ _ hS ?_), R.chg (fun c h => fI c (by omega)) (fun q _ _ => by rw [fI0]) (fun c h => fJ c (by omega) (by omega)) (fun q h => fJ57 q (by omega)) hR (R.L.fr i18 (fJ57 9 (by omega))) (R.P.fr (by rw [fI0]) (fJ57 5 (by omega)) (fI 44 (by omega)) (fJ 61 (by omega) (by omega))) (R.s.fr (fun c _ _ => fI c (by omega)) (fJ 65 (by omega) (by omega)) (fJ 66 (by omega) (by omega)) (fJ 67 (by omega) (by omega))) (R.i.fr (by omega) (by rw [fI0]) (fun c _ _ => fI c (by omega)) (fun q _ _ => fJ57 q (by omega)) (fJ 64 (by omega) (by omega)) (fun y hy => ⟨j58 y (by omega), j59 y (by omega)⟩)), fI, fJ⟩
    · have e17 : I1 1 7 = zi (n + 1) := hR.ci
      rw [er, ek]
      exact ⟨fun h => absurd h h1, fun _ => ⟨fun h => absurd h h2, fun _ => ⟨fun _ => ⟨fun _ => ⟨I1, ce, (by rw [e17, show zi (n + 1) - 1 = zi n from zi_sub (b := 1) (by omega)])⟩, fun h => absurd h4 h⟩, fun h => absurd h h3⟩⟩⟩
    · rw [er, ek]
      refine ⟨fun h => absurd h h1, fun _ => ⟨fun h => absurd h h2, fun _ => ⟨fun _ => ⟨fun _ => ?_, fun h => absurd h nz⟩, fun h => absurd h h3⟩⟩⟩
      rw [hj, zi_nat (show n < _ by omega)]
      refine ⟨zi_inr (by omega) (by omega), fun B1 g1 => ?_⟩
      have c1 : B1 57 0 = zi n := by rw [g1, up_cell (by decide)]; exact hj
      have z50 : (5 : Int32) * zi n = zi (5 * n) := zi_mul (a := 5)
      rw [c1, zi_nat (show n < _ by omega)]
      refine ⟨zi_inr (by omega) (by omega), fun B2 g2 => ?_⟩
      have c2 : B2 57 0 = zi n := by rw [g2, up_cell (by decide)]; exact c1
      rw [c2, z50, zi_nat (show 5 * n < _ by omega)]
      refine ⟨zi_inr (by omega) (by omega), fun B3 g3 => ?_⟩
      have c3 : B3 57 0 = zi n := by rw [g3, up_cell (by decide)]; exact c2
      rw [c3, z50, show zi (5 * n) + 1 = zi (5 * n + 1) from zi_add (b := 1), zi_nat (show 5 * n + 1 < _ by omega)]
      refine ⟨zi_inr (by omega) (by omega), fun B4 g4 => ?_⟩
      have c4 : B4 57 0 = zi n := by rw [g4, up_cell (by decide)]; exact c3
      rw [c4, z50, show zi (5 * n) + 2 = zi (5 * n + 2) from zi_add (b := 2), zi_nat (show 5 * n + 2 < _ by omega)]
      refine ⟨zi_inr (by omega) (by omega), fun B5 g5 => ?_⟩
      have c5 : B5 57 0 = zi n := by rw [g5, up_cell (by decide)]; exact c4
      rw [c5, z50, show zi (5 * n) + 3 = zi (5 * n + 3) from zi_add (b := 3), zi_nat (show 5 * n + 3 < _ by omega)]
      refine ⟨zi_inr (by omega) (by omega), fun B6 g6 => ?_⟩
      have c6 : B6 57 0 = zi n := by rw [g6, up_cell (by decide)]; exact c5
      rw [c6, z50, show zi (5 * n) + 4 = zi (5 * n + 4) from zi_add (b := 4), zi_nat (show 5 * n + 4 < _ by omega)]
      refine ⟨zi_inr (by omega) (by omega), fun B7 g7 => ?_⟩
      have c7 : B7 57 0 = zi n := by rw [g7, up_cell (by decide)]; exact c6
      intro B8 g8
      rw [c7, zi1 n] at g8
      obtain rfl : B8 = J1 := by rw [g8, g7, g6, g5, g4, g3, g2, g1, hJ1]
      rw [hR.cj, show zi (n + 1) - 1 = zi n from zi_sub (b := 1) (by omega)]
  · have n4 : n = 4 := by
      have : ¬ n < 4 := fun h => h4 (by rw [hc]; exact (zi_lt (b := 4) (by omega) (by omega)).2 h)
      omega
    have h5 : J 57 0 = 4 := by rw [hj, n4]; rfl
    exact ⟨n, _, I, J, Cv.of hq_53 (z_le rfl) rfl (wp_T_shower _ _ _ (by omega) hS ⟨fun h => absurd h h1, fun _ => ⟨fun h => absurd h h2, fun _ => ⟨fun _ => ⟨fun h => absurd h h4, fun _ => rfl⟩, fun h => absurd h h3⟩⟩⟩), Cv.of hq_153 (z_le rfl) rfl (wp_Z_shower _ _ _ hS ⟨fun h => absurd h h1, fun _ => ⟨fun h => absurd h h2, fun _ => ⟨fun _ => ⟨fun h => absurd h5 h, fun _ => rfl⟩, fun h => absurd h h3⟩⟩⟩), R, fun _ _ => rfl, fun _ _ _ => rfl⟩
theorem q_shower (x1 x2 x3 : Int32) : CallOK 53 153 [.int x1, .int x2, .int x3] := by
  intro X n m G I J R
  obtain ⟨n', v, I1, J1, a, b, c, d, e⟩ := shower_sim (X := X) (d := 98) R x1 x2 x3
  exact ⟨n', m, G, _, I1, J1, a, b, c, fun c h1 h2 => d c (by omega), fun c h => e c (by omega) (by omega)⟩
