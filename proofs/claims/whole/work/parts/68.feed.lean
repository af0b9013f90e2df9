def fdI (k : Nat) (v : Nat → Int32) (I : zI) : Nat → zI
  | 0 => I
  | j + 1 => z_up (z_up (fdI k v I j) 0 9 (zi (k + j + 1))) 44 (k + j) (v j)
def fdJ (k : Nat) (v : Nat → Int32) (J : zI) : Nat → zI
  | 0 => J
  | j + 1 => z_up (z_up (fdJ k v J j) 61 (k + j) (v j)) 57 5 (zi (k + j + 1))
theorem fdI_f {k : Nat} {v : Nat → Int32} {I : zI} (h : I 0 9 = zi k) : ∀ j, fdI k v I j 0 9 = zi (k + j) ∧ (∀ c, c ≠ 0 → c ≠ 44 → fdI k v I j c = I c) ∧ (∀ q, q ≠ 9 → fdI k v I j 0 q = I 0 q) ∧ (∀ i, i < k → fdI k v I j 44 i = I 44 i) ∧ ∀ i, i < j → fdI k v I j 44 (k + i) = v i := by
  intro j
  induction j with
  | zero => exact ⟨h, fun _ _ _ => rfl, fun _ _ => rfl, fun _ _ => rfl, fun i hi => absurd hi (by omega)⟩
  | succ j ih =>
    obtain ⟨a, b, c, d, e⟩ := ih
    refine ⟨?_, fun q h1 h2 => ?_, fun q h1 => ?_, fun i hi => ?_, fun i hi => ?_⟩
    · show z_up (z_up (fdI k v I j) 0 9 (zi (k + j + 1))) 44 (k + j) (v j) 0 9 = _
      rw [up_cell (by decide), up_same]; rfl
    · show z_up (z_up (fdI k v I j) 0 9 (zi (k + j + 1))) 44 (k + j) (v j) q = _
      rw [up_cell h2, up_cell h1]; exact b q h1 h2
    · show z_up (z_up (fdI k v I j) 0 9 (zi (k + j + 1))) 44 (k + j) (v j) 0 q = _
      rw [up_cell (by decide), up_place h1]; exact c q h1
    · show z_up (z_up (fdI k v I j) 0 9 (zi (k + j + 1))) 44 (k + j) (v j) 44 i = _
      rw [up_place (by omega), up_cell (by decide)]; exact d i hi
    · show z_up (z_up (fdI k v I j) 0 9 (zi (k + j + 1))) 44 (k + j) (v j) 44 (k + i) = _
      by_cases q : i = j
      · subst q; exact up_same
      · rw [up_place (by omega), up_cell (by decide)]; exact e i (by omega)
theorem fdJ_f {k : Nat} {v : Nat → Int32} {J : zI} (h : J 57 5 = zi k) : ∀ j, fdJ k v J j 57 5 = zi (k + j) ∧ (∀ c, c ≠ 57 → c ≠ 61 → fdJ k v J j c = J c) ∧ (∀ q, q ≠ 5 → fdJ k v J j 57 q = J 57 q) ∧ (∀ i, i < k → fdJ k v J j 61 i = J 61 i) ∧ ∀ i, i < j → fdJ k v J j 61 (k + i) = v i := by
  intro j
  induction j with
  | zero => exact ⟨h, fun _ _ _ => rfl, fun _ _ => rfl, fun _ _ => rfl, fun i hi => absurd hi (by omega)⟩
  | succ j ih =>
    obtain ⟨a, b, c, d, e⟩ := ih
    refine ⟨?_, fun q h1 h2 => ?_, fun q h1 => ?_, fun i hi => ?_, fun i hi => ?_⟩
    · show z_up (z_up (fdJ k v J j) 61 (k + j) (v j)) 57 5 (zi (k + j + 1)) 57 5 = _
      rw [up_same]; rfl
    · show z_up (z_up (fdJ k v J j) 61 (k + j) (v j)) 57 5 (zi (k + j + 1)) q = _
      rw [up_cell h1, up_cell h2]; exact b q h1 h2
    · show z_up (z_up (fdJ k v J j) 61 (k + j) (v j)) 57 5 (zi (k + j + 1)) 57 q = _
      rw [up_place h1, up_cell (by decide)]; exact c q h1
    · show z_up (z_up (fdJ k v J j) 61 (k + j) (v j)) 57 5 (zi (k + j + 1)) 61 i = _
      rw [up_cell (by decide), up_place (by omega)]; exact d i hi
    · show z_up (z_up (fdJ k v J j) 61 (k + j) (v j)) 57 5 (zi (k + j + 1)) 61 (k + i) = _
      rw [up_cell (by decide)]
      by_cases q : i = j
      · subst q; exact up_same
      · rw [up_place (by omega)]; exact e i (by omega)
theorem fd_T {X : Nat × (Nat → Int32)} {d : Nat} {G : zG} (hS : SG G) {k : Nat} {v : Nat → Int32} {I : zI} (h : I 0 9 = zi k) {j : Nat} (hj : k + j < 160) : Cv X d 41 [.ref 0, .int (v j)] G (fdI k v I j) (none, G, fdI k v I (j + 1)) := by
  have a := (fdI_f (v := v) h j).1
  refine Cv.of hq_41 (z_le rfl) rfl (wp_T_feedOne _ hS ?_)
  rw [a, zi_nat (show k + j < _ by omega), zi1 (k + j)]
  exact ⟨fun e => absurd ((zi_le (a := 160) (by omega) (by omega)).1 e) (by omega), fun _ I2 h2 => ⟨zi_inr (by omega) (by omega), fun I4 h4 => by rw [h4, h2]; rfl⟩⟩
def fdv (a b c d e : Int32) : Nat → Int32
  | 0 => a
  | 1 => b
  | 2 => c
  | 3 => d
  | _ => e
theorem fd_Z {X : Nat × (Nat → Int32)} {d : Nat} {G : zG} (hS : SG G) {k : Nat} {x1 x2 x3 x4 x5 x6 : Int32} {J : zI} (h0 : J 57 5 = zi k) {res : Option Value × zG × zI} {j : Nat} (hj5 : j < 5) (hj : k + j < 160) (nx : ¬ x1 ≤ zi j)
    (h : Ev X d 144 68 [.ref 57, .int x1, .int x2, .int x3, .int x4, .int x5, .int x6, .int (zi (j + 1))] [] G (fdJ k (fdv x2 x3 x4 x5 x6) J (j + 1)) res) : Ev X d 144 68 [.ref 57, .int x1, .int x2, .int x3, .int x4, .int x5, .int x6, .int (zi j)] [] G (fdJ k (fdv x2 x3 x4 x5 x6) J j) res := by
  have a := (fdJ_f (v := fdv x2 x3 x4 x5 x6) h0 j).1
  refine wp_Z_feed_68 _ _ _ _ _ _ _ hS ?_
  rw [a, zi_nat (show k + j < _ by omega)]
  have : j = 0 ∨ j = 1 ∨ j = 2 ∨ j = 3 ∨ j = 4 := by omega
  rcases this with rfl | rfl | rfl | rfl | rfl
  · exact ⟨fun h => absurd h nx, fun _ => ⟨fun h => absurd rfl h, fun _ => ⟨zi_inr (by omega) (by omega), fun I23_ e1 => (by subst e1; exact fun I24_ e2 => (by subst e2; exact fun y25_ e3 => (by subst e3; exact (by rw [up_cell (show 57 ≠ 61 by decide), a, zi1 (k + 0)]; exact h))))⟩⟩⟩
  · exact ⟨fun h => absurd h nx, fun _ => ⟨fun _ => ⟨fun h => absurd rfl h, fun _ => ⟨zi_inr (by omega) (by omega), fun I19_ e1 => (by subst e1; exact fun I20_ e2 => (by subst e2; exact fun y21_ e3 => (by subst e3; exact (by rw [up_cell (show 57 ≠ 61 by decide), a, zi1 (k + 1)]; exact h))))⟩⟩, fun h => absurd h (by decide)⟩⟩
  · exact ⟨fun h => absurd h nx, fun _ => ⟨fun _ => ⟨fun _ => ⟨fun h => absurd rfl h, fun _ => ⟨zi_inr (by omega) (by omega), fun I15_ e1 => (by subst e1; exact fun I16_ e2 => (by subst e2; exact fun y17_ e3 => (by subst e3; exact (by rw [up_cell (show 57 ≠ 61 by decide), a, zi1 (k + 2)]; exact h))))⟩⟩, fun h => absurd h (by decide)⟩, fun h => absurd h (by decide)⟩⟩
  · exact ⟨fun h => absurd h nx, fun _ => ⟨fun _ => ⟨fun _ => ⟨fun _ => ⟨fun h => absurd rfl h, fun _ => ⟨zi_inr (by omega) (by omega), fun I11_ e1 => (by subst e1; exact fun I12_ e2 => (by subst e2; exact fun y13_ e3 => (by subst e3; exact (by rw [up_cell (show 57 ≠ 61 by decide), a, zi1 (k + 3)]; exact h))))⟩⟩, fun h => absurd h (by decide)⟩, fun h => absurd h (by decide)⟩, fun h => absurd h (by decide)⟩⟩
  · exact ⟨fun h => absurd h nx, fun _ => ⟨fun _ => ⟨fun _ => ⟨fun _ => ⟨fun _ => ⟨zi_inr (by omega) (by omega), fun I7_ e1 => (by subst e1; exact fun I8_ e2 => (by subst e2; exact fun y9_ e3 => (by subst e3; exact (by rw [up_cell (show 57 ≠ 61 by decide), a, zi1 (k + 4)]; exact h))))⟩, fun h => absurd h (by decide)⟩, fun h => absurd h (by decide)⟩, fun h => absurd h (by decide)⟩, fun h => absurd h (by decide)⟩⟩
theorem q_feed (x1 x2 x3 x4 x5 x6 : Int32) : CallOK 39 144 [.int x1, .int x2, .int x3, .int x4, .int x5, .int x6] := by
  intro X n m G I J R
  have hS := R.S
  have hn := R.H.le
  by_cases h1 : f_T_within x1 1 5 = 0
  · exact ⟨n, m, G, _, I, J, Cv.of hq_39 (z_le rfl) rfl (wp_T_feed _ _ _ _ _ _ (by omega) hS ⟨fun h => absurd h1 h, fun _ => rfl⟩), Cv.of hq_144 (z_le rfl) rfl (wp_Z_feed _ _ _ _ _ _ (by omega) hS ⟨fun _ => rfl, fun h => absurd h1 h⟩), R, fun _ _ _ => rfl, fun _ _ => rfl⟩
  by_cases h2 : f_T_isByte x2 = 0
  · exact ⟨n, m, G, _, I, J, Cv.of hq_39 (z_le rfl) rfl (wp_T_feed _ _ _ _ _ _ (by omega) hS ⟨fun _ => ⟨fun _ => rfl, fun h => absurd h2 h⟩, fun h => absurd h h1⟩), Cv.of hq_144 (z_le rfl) rfl (wp_Z_feed _ _ _ _ _ _ (by omega) hS ⟨fun h => absurd h h1, fun _ => ⟨fun _ => rfl, fun h => absurd h2 h⟩⟩), R, fun _ _ _ => rfl, fun _ _ => rfl⟩
  by_cases h3 : f_T_isByte x3 = 0
  · exact ⟨n, m, G, _, I, J, Cv.of hq_39 (z_le rfl) rfl (wp_T_feed _ _ _ _ _ _ (by omega) hS ⟨fun _ => ⟨fun h => absurd h h2, fun _ => ⟨fun _ => rfl, fun h => absurd h3 h⟩⟩, fun h => absurd h h1⟩), Cv.of hq_144 (z_le rfl) rfl (wp_Z_feed _ _ _ _ _ _ (by omega) hS ⟨fun h => absurd h h1, fun _ => ⟨fun h => absurd h h2, fun _ => ⟨fun _ => rfl, fun h => absurd h3 h⟩⟩⟩), R, fun _ _ _ => rfl, fun _ _ => rfl⟩
  by_cases h4 : f_T_isByte x4 = 0
  · exact ⟨n, m, G, _, I, J, Cv.of hq_39 (z_le rfl) rfl (wp_T_feed _ _ _ _ _ _ (by omega) hS ⟨fun _ => ⟨fun h => absurd h h2, fun _ => ⟨fun h => absurd h h3, fun _ => ⟨fun _ => rfl, fun h => absurd h4 h⟩⟩⟩, fun h => absurd h h1⟩), Cv.of hq_144 (z_le rfl) rfl (wp_Z_feed _ _ _ _ _ _ (by omega) hS ⟨fun h => absurd h h1, fun _ => ⟨fun h => absurd h h2, fun _ => ⟨fun h => absurd h h3, fun _ => ⟨fun _ => rfl, fun h => absurd h4 h⟩⟩⟩⟩), R, fun _ _ _ => rfl, fun _ _ => rfl⟩
  by_cases h5 : f_T_isByte x5 = 0
  · exact ⟨n, m, G, _, I, J, Cv.of hq_39 (z_le rfl) rfl (wp_T_feed _ _ _ _ _ _ (by omega) hS ⟨fun _ => ⟨fun h => absurd h h2, fun _ => ⟨fun h => absurd h h3, fun _ => ⟨fun h => absurd h h4, fun _ => ⟨fun _ => rfl, fun h => absurd h5 h⟩⟩⟩⟩, fun h => absurd h h1⟩), Cv.of hq_144 (z_le rfl) rfl (wp_Z_feed _ _ _ _ _ _ (by omega) hS ⟨fun h => absurd h h1, fun _ => ⟨fun h => absurd h h2, fun _ => ⟨fun h => absurd h h3, fun _ => ⟨fun h => absurd h h4, fun _ => ⟨fun _ => rfl, fun h => absurd h5 h⟩⟩⟩⟩⟩), R, fun _ _ _ => rfl, fun _ _ => rfl⟩
  by_cases h6 : f_T_isByte x6 = 0
  · exact ⟨n, m, G, _, I, J, Cv.of hq_39 (z_le rfl) rfl (wp_T_feed _ _ _ _ _ _ (by omega) hS ⟨fun _ => ⟨fun h => absurd h h2, fun _ => ⟨fun h => absurd h h3, fun _ => ⟨fun h => absurd h h4, fun _ => ⟨fun h => absurd h h5, fun _ => ⟨fun h => absurd h6 h, fun _ => rfl⟩⟩⟩⟩⟩, fun h => absurd h h1⟩), Cv.of hq_144 (z_le rfl) rfl (wp_Z_feed _ _ _ _ _ _ (by omega) hS ⟨fun h => absurd h h1, fun _ => ⟨fun h => absurd h h2, fun _ => ⟨fun h => absurd h h3, fun _ => ⟨fun h => absurd h h4, fun _ => ⟨fun h => absurd h h5, fun _ => ⟨fun h => absurd h6 h, fun _ => rfl⟩⟩⟩⟩⟩⟩), R, fun _ _ _ => rfl, fun _ _ => rfl⟩
  obtain ⟨N, hN1, hN5, rfl⟩ := wi_spec (a := 1) (b := 5) (by omega) (by omega) h1
  obtain ⟨k, p1, p2, p3, p4⟩ := R.P
  have e1 : (160 : Int32) - zi N = zi (160 - N) := zi_sub (a := 160) (by omega)
  by_cases h7 : k + N ≤ 160
  · have h7T : I 0 9 ≤ 160 - zi N := by rw [p2, e1]; exact (zi_le (by omega) (by omega)).2 (by omega)
    have h7Z : J 57 5 + zi N ≤ 160 := by rw [p3, zi_add]; exact (zi_le (b := 160) (by omega) (by omega)).2 h7
    obtain ⟨v, hv⟩ : ∃ v : Nat → Int32, v = fdv x2 x3 x4 x5 x6 := ⟨_, rfl⟩
    have rv : ∀ j, rg (v j) 255 := by
      have rb : ∀ x : Int32, ¬ f_T_isByte x = 0 → rg x 255 := fun x hx => by
        obtain ⟨q, -, hq, rfl⟩ := wi_spec (a := 0) (b := 255) (by omega) (by omega) hx
        exact rg_zi (k := 255) hq (by omega)
      intro j
      rw [hv]
      have : j = 0 ∨ j = 1 ∨ j = 2 ∨ j = 3 ∨ 4 ≤ j := by omega
      rcases this with rfl | rfl | rfl | rfl | h
      · exact rb _ h2
      · exact rb _ h3
      · exact rb _ h4
      · exact rb _ h5
      · obtain ⟨i, rfl⟩ : ∃ i, j = i + 4 := ⟨j - 4, by omega⟩
        exact rb _ h6
    have cz : Ev X 100 144 68 [.ref 57, .int (zi N), .int x2, .int x3, .int x4, .int x5, .int x6, .int (zi 0)] [] G (fdJ k v J 0) (some (.int (zi (k + N))), G, fdJ k v J N) := by
      have go : ∀ i j, j + i = N → Ev X 100 144 68 [.ref 57, .int (zi N), .int x2, .int x3, .int x4, .int x5, .int x6, .int (zi j)] [] G (fdJ k v J j) (some (.int (zi (k + N))), G, fdJ k v J N) := by
        intro i
        induction i with
        | zero =>
          intro j hj
          obtain rfl : j = N := by omega
          exact wp_Z_feed_68 _ _ _ _ _ _ _ hS ⟨fun _ => by rw [(fdJ_f (v := v) p3 j).1], fun h => absurd (Int32.le_refl _) h⟩
        | succ i ih =>
          intro j hj
          have := ih (j + 1) (by omega)
          rw [hv] at this ⊢
          exact fd_Z hS p3 (by omega) (by omega) (fun h => absurd ((zi_le (by omega) (by omega)).1 h) (by omega)) this
      exact go N 0 (by omega)
    have cg : ∀ j, j < N → Cv X 99 41 [.ref 0, .int (v j)] G (fdI k v I j) (none, G, fdI k v I (j + 1)) := fun j hj => fd_T hS p2 (by omega)
    have eT := (fdI_f (v := v) p2 N).1
    have ct : Cv X 100 39 [.ref 0, .int (zi N), .int x2, .int x3, .int x4, .int x5, .int x6] G I (some (.int (zi (k + N))), G, fdI k v I N) := by
      subst hv
      have : N = 1 ∨ N = 2 ∨ N = 3 ∨ N = 4 ∨ N = 5 := by omega
      rcases this with rfl | rfl | rfl | rfl | rfl
      · exact Cv.of hq_39 (z_le rfl) rfl (wp_T_feed _ _ _ _ _ _ (by omega) hS ⟨fun _ => ⟨fun h => absurd h h2, fun _ => ⟨fun h => absurd h h3, fun _ => ⟨fun h => absurd h h4, fun _ => ⟨fun h => absurd h h5, fun _ => ⟨fun _ => ⟨fun _ => ⟨_, cg 0 (by omega), ⟨fun _ => ⟨fun _ => ⟨fun _ => ⟨fun _ => (by rw [eT]), fun h => absurd (by decide) h⟩, fun h => absurd (by decide) h⟩, fun h => absurd (by decide) h⟩, fun h => absurd (by decide) h⟩⟩, fun h => absurd h7T h⟩, fun h => absurd h h6⟩⟩⟩⟩⟩, fun h => absurd h h1⟩)
      · exact Cv.of hq_39 (z_le rfl) rfl (wp_T_feed _ _ _ _ _ _ (by omega) hS ⟨fun _ => ⟨fun h => absurd h h2, fun _ => ⟨fun h => absurd h h3, fun _ => ⟨fun h => absurd h h4, fun _ => ⟨fun h => absurd h h5, fun _ => ⟨fun _ => ⟨fun _ => ⟨_, cg 0 (by omega), ⟨fun h => absurd h (by decide), fun _ => ⟨_, cg 1 (by omega), ⟨fun _ => ⟨fun _ => ⟨fun _ => (by rw [eT]), fun h => absurd (by decide) h⟩, fun h => absurd (by decide) h⟩, fun h => absurd (by decide) h⟩⟩⟩⟩, fun h => absurd h7T h⟩, fun h => absurd h h6⟩⟩⟩⟩⟩, fun h => absurd h h1⟩)
      · exact Cv.of hq_39 (z_le rfl) rfl (wp_T_feed _ _ _ _ _ _ (by omega) hS ⟨fun _ => ⟨fun h => absurd h h2, fun _ => ⟨fun h => absurd h h3, fun _ => ⟨fun h => absurd h h4, fun _ => ⟨fun h => absurd h h5, fun _ => ⟨fun _ => ⟨fun _ => ⟨_, cg 0 (by omega), ⟨fun h => absurd h (by decide), fun _ => ⟨_, cg 1 (by omega), ⟨fun h => absurd h (by decide), fun _ => ⟨_, cg 2 (by omega), ⟨fun _ => ⟨fun _ => (by rw [eT]), fun h => absurd (by decide) h⟩, fun h => absurd (by decide) h⟩⟩⟩⟩⟩⟩, fun h => absurd h7T h⟩, fun h => absurd h h6⟩⟩⟩⟩⟩, fun h => absurd h h1⟩)
      · exact Cv.of hq_39 (z_le rfl) rfl (wp_T_feed _ _ _ _ _ _ (by omega) hS ⟨fun _ => ⟨fun h => absurd h h2, fun _ => ⟨fun h => absurd h h3, fun _ => ⟨fun h => absurd h h4, fun _ => ⟨fun h => absurd h h5, fun _ => ⟨fun _ => ⟨fun _ => ⟨_, cg 0 (by omega), ⟨fun h => absurd h (by decide), fun _ => ⟨_, cg 1 (by omega), ⟨fun h => absurd h (by decide), fun _ => ⟨_, cg 2 (by omega), ⟨fun h => absurd h (by decide), fun _ => ⟨_, cg 3 (by omega), ⟨fun _ => (by rw [eT]), fun h => absurd (by decide) h⟩⟩⟩⟩⟩⟩⟩⟩, fun h => absurd h7T h⟩, fun h => absurd h h6⟩⟩⟩⟩⟩, fun h => absurd h h1⟩)
      · exact Cv.of hq_39 (z_le rfl) rfl (wp_T_feed _ _ _ _ _ _ (by omega) hS ⟨fun _ => ⟨fun h => absurd h h2, fun _ => ⟨fun h => absurd h h3, fun _ => ⟨fun h => absurd h h4, fun _ => ⟨fun h => absurd h h5, fun _ => ⟨fun _ => ⟨fun _ => ⟨_, cg 0 (by omega), ⟨fun h => absurd h (by decide), fun _ => ⟨_, cg 1 (by omega), ⟨fun h => absurd h (by decide), fun _ => ⟨_, cg 2 (by omega), ⟨fun h => absurd h (by decide), fun _ => ⟨_, cg 3 (by omega), ⟨fun h => absurd h (by decide), fun _ => ⟨_, cg 4 (by omega), (by rw [eT])⟩⟩⟩⟩⟩⟩⟩⟩⟩, fun h => absurd h7T h⟩, fun h => absurd h h6⟩⟩⟩⟩⟩, fun h => absurd h h1⟩)
    obtain ⟨a1, a2, a3, a4, a5⟩ := fdI_f (v := v) p2 N
    obtain ⟨b1, b2, b3, b4, b5⟩ := fdJ_f (v := v) p3 N
    exact ⟨n, m, G, _, _, _, ct, Cv.of hq_144 (z_le rfl) rfl (wp_Z_feed _ _ _ _ _ _ (by omega) hS ⟨fun h => absurd h h1, fun _ => ⟨fun h => absurd h h2, fun _ => ⟨fun h => absurd h h3, fun _ => ⟨fun h => absurd h h4, fun _ => ⟨fun h => absurd h h5, fun _ => ⟨fun _ => ⟨fun _ => cz, fun h => absurd h7Z h⟩, fun h => absurd h h6⟩⟩⟩⟩⟩⟩), R.chg (fun c h => a2 c (by omega) (by omega)) (fun q h _ => a3 q h) (fun c h => b2 c (by omega) (by omega)) (fun q h => b3 q (by omega)) (R.H.fr (fun c _ _ => a2 c (by omega) (by omega)) (b3 0 (by omega)) (b2 58 (by omega) (by omega)) (b2 59 (by omega) (by omega)) (b2 60 (by omega) (by omega))) (R.L.fr (by rw [a2 1 (by omega) (by omega)]) (b3 9 (by omega))) ⟨k + N, h7, a1, b1, fun i hi => by
      by_cases q : i < k
      · rw [a4 i q, b4 i q]; exact p4 i q
      · obtain ⟨u, rfl⟩ : ∃ u, i = k + u := ⟨i - k, by omega⟩
        rw [a5 u (by omega), b5 u (by omega)]; exact ⟨rfl, rv u⟩⟩ (R.s.fr (fun c _ _ => a2 c (by omega) (by omega)) (b2 65 (by omega) (by omega)) (b2 66 (by omega) (by omega)) (b2 67 (by omega) (by omega))) (R.i.fr (Nat.le_refl _) (a3 3 (by omega)) (fun c _ _ => a2 c (by omega) (by omega)) (fun q _ _ => b3 q (by omega)) (b2 64 (by omega) (by omega)) (fun y _ => by rw [b2 58 (by omega) (by omega), b2 59 (by omega) (by omega)]; exact ⟨rfl, rfl⟩)), fun c h1 h2 => a2 c (by omega) (by omega), fun c h => b2 c (by omega) (by omega)⟩
  · have h7T : ¬ I 0 9 ≤ 160 - zi N := by rw [p2, e1]; exact fun h => h7 (by have := (zi_le (by omega) (by omega)).1 h; omega)
    have h7Z : ¬ J 57 5 + zi N ≤ 160 := by rw [p3, zi_add]; exact fun h => h7 ((zi_le (b := 160) (by omega) (by omega)).1 h)
    exact ⟨n, m, G, _, I, J, Cv.of hq_39 (z_le rfl) rfl (wp_T_feed _ _ _ _ _ _ (by omega) hS ⟨fun _ => ⟨fun h => absurd h h2, fun _ => ⟨fun h => absurd h h3, fun _ => ⟨fun h => absurd h h4, fun _ => ⟨fun h => absurd h h5, fun _ => ⟨fun _ => ⟨fun h => absurd h h7T, fun _ => rfl⟩, fun h => absurd h h6⟩⟩⟩⟩⟩, fun h => absurd h h1⟩), Cv.of hq_144 (z_le rfl) rfl (wp_Z_feed _ _ _ _ _ _ (by omega) hS ⟨fun h => absurd h h1, fun _ => ⟨fun h => absurd h h2, fun _ => ⟨fun h => absurd h h3, fun _ => ⟨fun h => absurd h h4, fun _ => ⟨fun h => absurd h h5, fun _ => ⟨fun _ => ⟨fun h => absurd h h7Z, fun _ => rfl⟩, fun h => absurd h h6⟩⟩⟩⟩⟩⟩), R, fun _ _ _ => rfl, fun _ _ => rfl⟩
