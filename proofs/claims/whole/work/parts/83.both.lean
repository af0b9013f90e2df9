/-! ONE EXPRESSION, BOTH -/
theorem one_e {tk nm : Nat → Nat} {f i j : Nat} {q : Option (List Nat)} (h : rd tk nm f 8 i 0 = some (j, q)) (out : List Nat) : ((q = none ∨ tk j ≠ 5) → Sy tk nm true true i [] out (j, none)) ∧ ∀ s, q = some s → tk j = 5 → Sy tk nm true true i [] out (j, some (out ++ s)) := by
  have nL : ¬ isL 8 := by unfold isL; omega
  have mk : mnOK 8 (tk i) true := ⟨fun h => absurd h (by omega), fun _ => rfl⟩
  obtain ⟨w1, w2⟩ := wq_all f 8 i 0 j q h (by omega) (fun h => absurd h nL) [] out true rfl (by decide)
  cases q with
  | none => exact ⟨fun _ => (w1 rfl).1 nL mk, fun s e => by cases e⟩
  | some s =>
    obtain ⟨p, w3, w4⟩ := w2 s rfl
    by_cases hB : Bd 8 (tk j)
    · exact ⟨fun _ => (w4 hB).1 nL mk, fun s _ e => absurd hB.2 (by omega)⟩
    · refine ⟨fun e => ?_, fun t et e => ?_⟩
      · have n5 : tk j ≠ 5 := by
          rcases e with e | e
          · cases e
          · exact e
        refine (w3 hB (j, none) (fun mn' => ⟨1, ?_⟩)).1 nL mk
        rw [sy, if_neg n5]
        by_cases h4 : tk j = 4
        · rw [if_pos h4]; rfl
        · have nb : ¬ (tk j = 9 ∨ tk j = 10) := fun e => hB ⟨by omega, e⟩
          obtain ⟨p1, p2, p3, p4⟩ := p
          have p1 := p1 (by omega)
          have p2 := p2 (by omega)
          have p3 := p3 (by omega)
          have p4 := p4 (by omega)
          rw [if_neg h4, if_neg (by omega)]
      · cases et
        refine (w3 hB (j, some (out ++ s)) (fun mn' => ⟨1, ?_⟩)).1 nL mk
        rw [sy, if_pos e]; rfl
/-- what both hold while a text is read -/
def Hz0 (m : Nat) (J : zI) (out : List Nat) : Prop := J 57 8 = zi m ∧ J 57 26 = zi out.length ∧ ∀ k, k < out.length → J 62 (200 * m + k) = zi (out.getD k 0)
theorem both_e {X : Nat × (Nat → Int32)} {G : zG} (h5 : S5 G) {m : Nat} (hm : m < 6) {b : Nat → Int32} {n M : Nat} (hn : n ≤ 160) (hM : EndAt b n M) {i : Nat} {s0 : List Nat} {I : zI} (hR : Rs b n M I i 0 s0) :
    ∃ (j : Nat) (q : Option (List Nat)), i ≤ j ∧ j ≤ M ∧ rd (TK b n) (NM b n) (10 * (M - i) + rlv 8 + 1) 8 i 0 = some (j, q) ∧ RDc X 55 23 G b n M I i j 0 s0 q ∧ (∀ s, q = some s → okD s 0 ∧ rnD s 0 = 1) ∧
      ∀ {G : zG} (_ : SG G) (J : zI), ByZ J b n → J 57 18 = zi (PT b n i) → Hz0 m J s0 → ∃ (q2 : Option (List Nat)) (J1 : zI), Cv X 4 133 [.ref 57] G J (some (.int (oz q2)), G, J1) ∧ FE m J J1 ∧ TokZ b n J1 j ∧ ((q = none ∨ TK b n j ≠ 5) → q2 = none) ∧ ∀ s, q = some s → TK b n j = 5 → q2 = some (s0 ++ s) ∧ Hz0 m J1 (s0 ++ s) := by
  obtain ⟨j, q, e, e1, e2, -⟩ := rd_end (tk := TK b n) (nm := NM b n) hM.1 (10 * (M - i) + rlv 8 + 1) 8 i 0 (by omega) hR.2.1 (Nat.lt_succ_self _)
  have c1 := (reads (X := X) h5 hn hM _).2.2.2.2.2.2.2.2.1 i 0 j q I s0 e hR
  refine ⟨j, q, e1, e2, e, c1.deep (by omega), fun s hs => ?_, fun {G} hS J hB h18 hH => ?_⟩
  · subst hs
    have g := gd_all (fun i h => tkv_lt h) _ 8 i 0 j s e (by omega)
    exact (g.2 0 (by decide)).1 (by unfold isL; omega)
  · obtain ⟨o1, o2⟩ := one_e e s0
    have go : ∀ q2, Sy (TK b n) (NM b n) true true i [] s0 (j, q2) → ∃ J1 : zI, Cv X 4 133 [.ref 57] G J (some (.int (oz q2)), G, J1) ∧ FE m J J1 ∧ TokZ b n J1 j ∧ ∀ s, q2 = some s → Hz0 m J1 s := by
      intro q2 ⟨f, hf⟩
      obtain ⟨J2, hJ2⟩ : ∃ J2 : zI, J2 = z_up (z_up J 57 24 0) 57 25 0 := ⟨_, rfl⟩
      have H2 : Hz m J2 [] s0 := by
        rw [hJ2]
        refine ⟨?_, ?_, up_same, trivial, ?_, fun k hk => ?_⟩
        · rw [up_place (by decide), up_place (by decide)]; exact hH.1
        · rw [up_place (by decide), up_same]; rfl
        · rw [up_place (by decide), up_place (by decide)]; exact hH.2.1
        · rw [up_cell (by decide), up_cell (by decide)]; exact hH.2.2 k hk
      have F2 : FE m J J2 := by
        rw [hJ2]
        exact ⟨fun c a _ _ => by rw [up_cell a, up_cell a], fun k _ hk => by rw [up_place (by omega), up_place (by omega)], fun k hk => by rw [up_cell (by decide), up_cell (by decide)]⟩
      obtain ⟨J1, k1, F1, T1, -, -, hz⟩ := eread (X := X) (d := 0) hS hm hn hM f true true i [] s0 (j, q2) hf hR.2.1 J2 zU rfl (by rw [hJ2]; exact (hB.up (by decide)).up (by decide)) (by rw [hJ2, up_place (by decide), up_place (by decide)]; exact h18) H2 (by have := hR.2.2.2.2.2; show 0 + s0.length ≤ i; omega)
      refine ⟨J1, Cv.of hq_133 (z_le rfl) rfl (wp_Z_eRead hS fun A gA B gB => ?_), F2.tr F1, T1, fun s e => ?_⟩
      · obtain rfl : B = J2 := by rw [gB, gA, hJ2]
        exact k1.deep (by omega)
      · obtain ⟨z, -⟩ := hz s e
        exact ⟨z.1, z.2.2.2.2.1, z.2.2.2.2.2⟩
    by_cases bad : q = none ∨ TK b n j ≠ 5
    · obtain ⟨J1, k, F, T, -⟩ := go none (o1 bad)
      exact ⟨none, J1, k, F, T, fun _ => rfl, fun s hs h5 => absurd bad (by rw [hs]; exact fun e => e.elim (fun e => by cases e) (fun e => e h5))⟩
    · cases q with
      | none => exact absurd (Or.inl rfl) bad
      | some s =>
        have h5 : TK b n j = 5 := Classical.byContradiction fun e => bad (Or.inr e)
        obtain ⟨J1, k, F, T, z⟩ := go _ (o2 s rfl h5)
        exact ⟨_, J1, k, F, T, fun e => absurd e bad, fun t et _ => by cases et; exact ⟨rfl, z _ rfl⟩⟩
