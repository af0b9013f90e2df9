/-! THE CLASS READS AS rd SAYS -/
def PT (b : Nat → Int32) (n : Nat) : Nat → Nat
  | 0 => 0
  | i + 1 => tke b n (PT b n i)
def TK (b : Nat → Int32) (n i : Nat) : Nat := tkt b n (PT b n i)
def NM (b : Nat → Int32) (n i : Nat) : Nat := tkv b n (PT b n i)
theorem PT_le {b : Nat → Int32} {n : Nat} : ∀ i, PT b n i ≤ n := by
  intro i
  induction i with
  | zero => exact Nat.zero_le _
  | succ i ih => exact (tke_le ih).2.1
theorem PT_ge {b : Nat → Int32} {n : Nat} : ∀ i, (∀ k, k < i → TK b n k ≠ 0) → i ≤ PT b n i := by
  intro i
  induction i with
  | zero => intro _; exact Nat.zero_le _
  | succ i ih =>
    intro h
    have h1 := ih (fun k hk => h k (by omega))
    have h2 := (tke_le (b := b) (PT_le (b := b) (n := n) i)).2.2 (h i (by omega))
    show i + 1 ≤ tke b n (PT b n i)
    omega
def EndAt (b : Nat → Int32) (n M : Nat) : Prop := TK b n M = 0 ∧ ∀ k, k < M → TK b n k ≠ 0
theorem end_at (b : Nat → Int32) (n : Nat) : ∃ M, EndAt b n M := by
  have h : ∀ m, (∀ k, k < m → TK b n k ≠ 0) ∨ ∃ M, EndAt b n M := by
    intro m
    induction m with
    | zero => exact Or.inl fun k h => absurd h (by omega)
    | succ m ih =>
      rcases ih with ih | ih
      · by_cases e : TK b n m = 0
        · exact Or.inr ⟨m, e, ih⟩
        · exact Or.inl fun k hk => by
            by_cases q : k = m
            · subst q; exact e
            · exact ih k (by omega)
      · exact Or.inr ih
  rcases h (n + 1) with h | h
  · have h1 := PT_ge (n + 1) h
    have h2 := PT_le (b := b) (n := n) (n + 1)
    omega
  · exact h
theorem EndAt.le {b : Nat → Int32} {n M : Nat} (h : EndAt b n M) : M ≤ n := Nat.le_trans (PT_ge M h.2) (PT_le M)
theorem EndAt.lt {b : Nat → Int32} {n M i : Nat} (h : EndAt b n M) (hi : i ≤ M) (h0 : TK b n i ≠ 0) : i < M := by
  rcases Nat.lt_or_ge i M with e | e
  · exact e
  · exact absurd (by rw [show i = M by omega]; exact h.1) h0
theorem tkt_le (b : Nat → Int32) (n i : Nat) : tkt b n i ≤ 22 := by
  have := wj_le b (tkp b n i) (tke b n i - tkp b n i) 12 (by omega)
  have h9 : sgT (b (tkp b n i)) ≤ 10 := by
    unfold sgT
    repeat' split
    all_goals decide
  unfold tkt wj
  repeat' split
  all_goals omega
def cs (c : Nat) : Int32 := if 100000 ≤ c then zi (c - 100000) else if c < 6 then zi (10000 + c) else if c = 11 then 20000 else if c = 12 then 20001 else if c = 14 then 20002 else if c = 15 then 20003 else if c = 16 then 20004 else if c = 17 then 20005 else if c = 18 then 20006 else if c = 13 then 20007 else 20008
def FrD (I I1 : zI) : Prop := (∀ c, c ≠ 39 → c ≠ 41 → I1 c = I c) ∧ ∀ k, (k < 2 ∨ k = 7 ∨ 8 < k) → I1 39 k = I 39 k
theorem FrD.rfl {I : zI} : FrD I I := ⟨fun _ _ _ => Eq.refl _, fun _ _ => Eq.refl _⟩
theorem FrD.tr {I I1 I2 : zI} (h : FrD I I1) (h2 : FrD I1 I2) : FrD I I2 := ⟨fun c a e => (h2.1 c a e).trans (h.1 c a e), fun k a => (h2.2 k a).trans (h.2 k a)⟩
def At (b : Nat → Int32) (n : Nat) (I : zI) (i : Nat) : Prop := By I b n ∧ I 39 2 = zi (tkp b n (PT b n i)) ∧ I 39 3 = zi (PT b n (i + 1)) ∧ I 39 4 = zi (TK b n i) ∧ (TK b n i = 2 → I 39 5 = zi (NM b n i))
def StC (I : zI) (s : List Nat) : Prop := I 39 8 = zi s.length ∧ ∀ k, k < s.length → I 41 k = cs (s.getD k 0)
def Rs (b : Nat → Int32) (n M : Nat) (I : zI) (i o : Nat) (s : List Nat) : Prop := At b n I i ∧ i ≤ M ∧ o ≤ 5 ∧ I 39 6 = zi o ∧ StC I s ∧ s.length ≤ i
def Out (b : Nat → Int32) (n M : Nat) (I : zI) (i j o : Nat) (s0 : List Nat) (q : Option (List Nat)) (I1 : zI) : Prop :=
  FrD I I1 ∧ At b n I1 j ∧ i ≤ j ∧ j ≤ M ∧ ∀ s, q = some s → Rs b n M I1 j o (s0 ++ s) ∧ s.length + i ≤ j
def oz (q : Option (List Nat)) : Int32 := match q with
  | none => 0
  | some _ => 1
def RDc (X : Nat × (Nat → Int32)) (D ν : Nat) (G : zG) (b : Nat → Int32) (n M : Nat) (I : zI) (i j o : Nat) (s0 : List Nat) (q : Option (List Nat)) : Prop :=
  ∃ I1 : zI, Cv X D ν [.ref 39] G I (some (.int (oz q)), G, I1) ∧ Out b n M I i j o s0 q I1
def RDe (X : Nat × (Nat → Int32)) (D ν : Nat) (lo : List Value) (G : zG) (b : Nat → Int32) (n M : Nat) (I : zI) (i j o : Nat) (s0 : List Nat) (q : Option (List Nat)) : Prop :=
  ∃ I1 : zI, Ev X D ν 11 lo [] G I (some (.int (oz q)), G, I1) ∧ Out b n M I i j o s0 q I1
theorem rThen_iv {r : zPR} {g : Nat → zPR} {l : Nat} {q : Option (List Nat)} (h : rThen r g = some (l, q)) : (r = some (l, none) ∧ q = none) ∨ ∃ j s q2, r = some (j, some s) ∧ g j = some (l, q2) ∧ q = q2.map (fun t => s ++ t) := by
  match r, h with
  | some (j, none), h => simp only [rThen, Option.some.injEq, Prod.mk.injEq] at h; exact Or.inl ⟨by rw [h.1], h.2.symm⟩
  | some (j, some s), h =>
    cases e : g j with
    | none => simp [rThen, e] at h
    | some p =>
      obtain ⟨l2, q2⟩ := p
      have := rThen_ok (r := some (j, some s)) rfl e
      rw [h] at this
      simp only [Option.some.injEq, Prod.mk.injEq] at this
      exact Or.inr ⟨j, s, q2, rfl, by rw [e, this.1], this.2⟩
theorem rAdd_iv {r : zPR} {x : List Nat} {j : Nat} {q : Option (List Nat)} (h : rAdd r x = some (j, q)) : ∃ q2, r = some (j, q2) ∧ q = q2.map (fun s => s ++ x) := by
  match r, h with
  | some (l, none), h => simp only [rAdd, Option.some.injEq, Prod.mk.injEq] at h; exact ⟨none, by rw [h.1], h.2.symm⟩
  | some (l, some s), h => simp only [rAdd, Option.some.injEq, Prod.mk.injEq] at h; exact ⟨some s, by rw [h.1], h.2.symm⟩
theorem Out.refl {b : Nat → Int32} {n M : Nat} {I : zI} {i o : Nat} {s0 : List Nat} (h : Rs b n M I i o s0) : Out b n M I i i o s0 (some []) I :=
  ⟨FrD.rfl, h.1, Nat.le_refl _, h.2.1, fun s e => by cases e; rw [List.append_nil]; exact ⟨h, by simp⟩⟩
theorem Out.no {b : Nat → Int32} {n M : Nat} {I : zI} {i o : Nat} {s0 : List Nat} (h : Rs b n M I i o s0) : Out b n M I i i o s0 none I :=
  ⟨FrD.rfl, h.1, Nat.le_refl _, h.2.1, fun s e => by cases e⟩
theorem Out.fail {b : Nat → Int32} {n M : Nat} {I Ia I1 : zI} {i i' j o o' : Nat} {s0 s1 : List Nat} (hF : FrD I Ia) (hi : i ≤ i') (h : Out b n M Ia i' j o' s1 none I1) : Out b n M I i j o s0 none I1 :=
  ⟨hF.tr h.1, h.2.1, Nat.le_trans hi h.2.2.1, h.2.2.2.1, fun s e => by cases e⟩
theorem Out.then_ {b : Nat → Int32} {n M : Nat} {I I1 I2 : zI} {i j l o : Nat} {s0 s : List Nat} {q2 : Option (List Nat)} (h : Out b n M I i j o s0 (some s) I1) (h2 : Out b n M I1 j l o (s0 ++ s) q2 I2) : Out b n M I i l o s0 (q2.map (fun t => s ++ t)) I2 := by
  refine ⟨h.1.tr h2.1, h2.2.1, Nat.le_trans h.2.2.1 h2.2.2.1, h2.2.2.2.1, fun t e => ?_⟩
  cases q2 with
  | none => cases e
  | some t2 =>
    cases e
    obtain ⟨a, c⟩ := h2.2.2.2.2 t2 rfl
    obtain ⟨-, c2⟩ := h.2.2.2.2 s rfl
    rw [← List.append_assoc]
    exact ⟨a, by rw [List.length_append]; omega⟩
theorem oz_yes (s : List Nat) : ¬ oz (some s) = 0 := fun h => absurd (show (1 : Int32) = 0 from h) (by decide)
theorem oz_map (q : Option (List Nat)) (f : List Nat → List Nat) : oz (q.map f) = oz q := by cases q <;> rfl
/-- what a step adds -/
theorem c_put {X : Nat × (Nat → Int32)} {d : Nat} {G : zG} (hS : S5 G) {b : Nat → Int32} {n M : Nat} {I : zI} {i o : Nat} {s : List Nat} {c : Nat} {v : Int32} (hv : v = cs c) (hA : At b n I i) (h6 : I 39 6 = zi o) (hSt : StC I s) (hl : s.length < 160) :
    ∃ I1 : zI, Cv X d 28 [.ref 39, .int v] G I (some (.int 1), G, I1) ∧ FrD I I1 ∧ At b n I1 i ∧ I1 39 6 = zi o ∧ StC I1 (s ++ [c]) ∧ I1 39 4 = I 39 4 := by
  obtain ⟨h1, h2⟩ := hSt
  refine ⟨z_up (z_up I 39 8 (zi (s.length + 1))) 41 s.length v, Cv.of hq_28 (z_le rfl) rfl (w5_R_put _ hS ⟨fun _ A g => ⟨by rw [h1]; exact zi_inr (by omega) (by omega), fun B gB => ?_⟩, fun h => absurd (by rw [h1]; exact (zi_lt (b := 160) (by omega) (by omega)).2 hl) h⟩), ⟨fun c a e => by rw [up_cell e, up_cell a], fun k hk => by rw [up_cell (by decide), up_place (by omega)]⟩, ⟨⟨by rw [up_cell (by decide), up_place (by decide)]; exact hA.1.1, fun k hk => by rw [up_cell (by decide), up_cell (by decide)]; exact hA.1.2 k hk⟩, ?_, ?_, ?_, ?_⟩, ?_, ⟨?_, fun k hk => ?_⟩, ?_⟩
  · rw [gB, g, h1, zi_nat (by omega), zi1]
  · rw [up_cell (by decide), up_place (by decide)]; exact hA.2.1
  · rw [up_cell (by decide), up_place (by decide)]; exact hA.2.2.1
  · rw [up_cell (by decide), up_place (by decide)]; exact hA.2.2.2.1
  · rw [up_cell (by decide), up_place (by decide)]; exact hA.2.2.2.2
  · rw [up_cell (by decide), up_place (by decide)]; exact h6
  · rw [up_cell (by decide), up_same, List.length_append]; rfl
  · rw [List.length_append, List.length_singleton] at hk
    by_cases e : k = s.length
    · subst e
      rw [up_same, hv]
      simp
    · rw [up_place e, up_cell (by decide), h2 k (by omega)]
      rw [List.getD_eq_getElem?_getD, List.getD_eq_getElem?_getD, List.getElem?_append_left (by omega)]
  · rw [up_cell (by decide), up_place (by decide)]
theorem c_advT {X : Nat × (Nat → Int32)} {d : Nat} {G : zG} (hS : S5 G) {b : Nat → Int32} {n i : Nat} (hn : n ≤ 160) {I : zI} (hB : By I b n) (h3 : I 39 3 = zi (PT b n i)) :
    ∃ I1 : zI, Cv X (d + 6) 14 [.ref 39] G I (none, G, I1) ∧ FrD I I1 ∧ At b n I1 i ∧ I1 39 6 = I 39 6 ∧ ∀ s, StC I s → StC I1 s := by
  obtain ⟨I1, k1, k2, k3, k4, k5, k6, k7⟩ := c_adv (X := X) (d := d) hS (b := b) hn (PT_le (b := b) (n := n) i) hB h3
  refine ⟨I1, k1, ⟨fun c a _ => k6 c a, fun k hk => k7 k (by omega) (by omega) (by omega) (by omega)⟩, ⟨⟨(k7 1 (by decide) (by decide) (by decide) (by decide)).trans hB.1, fun k hk => by rw [k6 44 (by decide)]; exact hB.2 k hk⟩, k2, k3, k4, k5⟩, k7 6 (by decide) (by decide) (by decide) (by decide), fun s h => ⟨(k7 8 (by decide) (by decide) (by decide) (by decide)).trans h.1, fun k hk => by rw [k6 41 (by decide)]; exact h.2 k hk⟩⟩
theorem tkz {b : Nat → Int32} {n i : Nat} {I : zI} (hA : At b n I i) {t : Nat} (ht : t < 100) : I 39 4 = zi t ↔ TK b n i = t := by
  rw [hA.2.2.2.1]
  have := tkt_le b n (PT b n i)
  exact zi_eq (by unfold TK; omega) (by omega)
/-- reading first one thing, then its loop -/
theorem rd_head {X : Nat × (Nat → Int32)} {D ν a : Nat} {lo : List Value} {G : zG} {b : Nat → Int32} {n M : Nat} {I : zI} {i l o : Nat} {s0 : List Nat} {q : Option (List Nat)} {r : zPR} {g : Nat → zPR}
    (W : ∀ res, (∃ (r3 : Int32) (I1 : zI), Cv X D a [.ref 39] G I (some (.int r3), G, I1) ∧ ((¬ r3 = 0 → Ev X (D + 1) ν 11 lo [] G I1 res) ∧ (r3 = 0 → res = (some (.int 0), G, I1)))) → Cv X (D + 1) ν [.ref 39] G I res)
    (h : rThen r g = some (l, q)) (A : ∀ j q, r = some (j, q) → RDc X D a G b n M I i j o s0 q)
    (B : ∀ j s q2 I1, g j = some (l, q2) → Rs b n M I1 j o (s0 ++ s) → RDe X (D + 1) ν lo G b n M I1 j l o (s0 ++ s) q2) : RDc X (D + 1) ν G b n M I i l o s0 q := by
  rcases rThen_iv h with ⟨e, rfl⟩ | ⟨j, s, q2, e, e2, rfl⟩
  · obtain ⟨I1, k, u⟩ := A _ _ e
    exact ⟨I1, W _ ⟨_, I1, k, fun h => absurd rfl h, fun _ => rfl⟩, u⟩
  · obtain ⟨I1, k, u⟩ := A _ _ e
    obtain ⟨I2, k2, u2⟩ := B j s q2 I1 e2 (u.2.2.2.2 s rfl).1
    exact ⟨I2, W _ ⟨_, I1, k, fun _ => by rw [oz_map]; exact k2, fun h => absurd h (oz_yes s)⟩, u.then_ u2⟩
/-- behind a sign: one thing, the sign's step -/
theorem rd_sign {X : Nat × (Nat → Int32)} {D a : Nat} {G : zG} (hS : S5 G) {b : Nat → Int32} {n M : Nat} (hn : n ≤ 160) (hM : EndAt b n M) {I : zI} {i j o c : Nat} {v : Int32} {s0 : List Nat} {q : Option (List Nat)} {r : zPR}
    (hR : Rs b n M I i o s0) (h0 : TK b n i ≠ 0) (hv : v = cs c) (h : rAdd r [c] = some (j, q)) (A : ∀ I3 j q, Rs b n M I3 (i + 1) o s0 → r = some (j, q) → RDc X (D + 6) a G b n M I3 (i + 1) j o s0 q) :
    ∃ (I3 : zI) (r7 : Int32) (I5 : zI), Cv X (D + 6) 14 [.ref 39] G I (none, G, I3) ∧ Cv X (D + 6) a [.ref 39] G I3 (some (.int r7), G, I5) ∧ (r7 = 0 → q = none ∧ Out b n M I i j o s0 q I5) ∧ (¬ r7 = 0 → ∃ I9 s, Cv X (D + 6) 28 [.ref 39, .int v] G I5 (some (.int 1), G, I9) ∧ q = some s ∧ Out b n M I i j o s0 q I9) := by
  have iM := hM.lt hR.2.1 h0
  obtain ⟨I3, k1, f1, a1, o1, s1⟩ := c_advT (X := X) (d := D) hS (i := i + 1) hn hR.1.1 hR.1.2.2.1
  have R3 : Rs b n M I3 (i + 1) o s0 := ⟨a1, iM, hR.2.2.1, o1.trans hR.2.2.2.1, s1 _ hR.2.2.2.2.1, Nat.le_succ_of_le hR.2.2.2.2.2⟩
  obtain ⟨q2, e, rfl⟩ := rAdd_iv h
  obtain ⟨I5, k5, u⟩ := A I3 j q2 R3 e
  cases q2 with
  | none => exact ⟨I3, _, I5, k1, k5, fun _ => ⟨rfl, Out.fail f1 (Nat.le_succ _) u⟩, fun h => absurd rfl h⟩
  | some s =>
    obtain ⟨R5, l5⟩ := u.2.2.2.2 s rfl
    have jl := u.2.2.2.1
    have Ml := hM.le
    have sl := hR.2.2.2.2.2
    have l0 : (s0 ++ s).length + 1 ≤ j := by rw [List.length_append]; omega
    obtain ⟨I9, k9, f9, a9, o9, s9, -⟩ := c_put (X := X) (d := D + 6) hS (M := M) hv R5.1 R5.2.2.2.1 R5.2.2.2.2.1 (by omega)
    refine ⟨I3, _, I5, k1, k5, fun h => absurd h (oz_yes s), fun _ => ⟨I9, _, k9, rfl, (f1.tr u.1).tr f9, a9, by have := u.2.2.1; omega, jl, fun t et => ?_⟩⟩
    cases et
    rw [← List.append_assoc]
    exact ⟨⟨a9, jl, R5.2.2.1, o9, s9, by rw [List.length_append]; exact l0⟩, by rw [List.length_append]; show s.length + 1 + i ≤ j; omega⟩
/-- one turn of a loop -/
theorem rd_loop {X : Nat × (Nat → Int32)} {D ν a : Nat} {G : zG} (hS : S5 G) {b : Nat → Int32} {n M : Nat} (hn : n ≤ 160) (hM : EndAt b n M) {I : zI} {i l o c : Nat} {v : Int32} {s0 : List Nat} {q : Option (List Nat)} {r : zPR} {g : Nat → zPR} {x : Nat} {lo : Int32 → List Value}
    (hR : Rs b n M I i o s0) (h0 : TK b n i ≠ 0) (hv : v = cs c) (h : rThen (rAdd r [c]) g = some (l, q)) (A : ∀ I3 j q, Rs b n M I3 (i + 1) o s0 → r = some (j, q) → RDc X (D + 6) a G b n M I3 (i + 1) j o s0 q)
    (B : ∀ j s q2 I1, i + 1 ≤ j → g j = some (l, q2) → Rs b n M I1 j o (s0 ++ s) → RDe X (D + 7) ν (lo (zi (x + 1))) G b n M I1 j l o (s0 ++ s) q2) :
    ∃ Iz : zI, (∃ (I3 : zI), Cv X (D + 6) 14 [.ref 39] G I (none, G, I3) ∧ ∃ (r7 : Int32) (I5 : zI), Cv X (D + 6) a [.ref 39] G I3 (some (.int r7), G, I5) ∧ ((r7 = 0 → (some (Value.int (oz q)), G, Iz) = (some (.int 0), G, I5)) ∧ (¬ r7 = 0 → ∃ (r11 : Int32) (I9 : zI), Cv X (D + 6) 28 [.ref 39, .int v] G I5 (some (.int r11), G, I9) ∧ ((¬ r11 = 0 → ∀ y : Int32, y = zi x + 1 → Ev X (D + 7) ν 11 (lo y) [] G I9 (some (.int (oz q)), G, Iz)) ∧ (r11 = 0 → (some (Value.int (oz q)), G, Iz) = (some (.int 0), G, I9)))))) ∧ Out b n M I i l o s0 q Iz := by
  have key : ∀ j q1, rAdd r [c] = some (j, q1) → _ := fun j q1 e => rd_sign (X := X) (D := D) (a := a) (v := v) hS hn hM hR h0 hv e A
  rcases rThen_iv h with ⟨e, rfl⟩ | ⟨j, s, q2, e, e2, rfl⟩
  · obtain ⟨I3, r7, I5, k3, k5, u1, u2⟩ := key _ _ e
    by_cases hr : r7 = 0
    · exact ⟨I5, ⟨I3, k3, r7, I5, k5, fun _ => rfl, fun h => absurd hr h⟩, (u1 hr).2⟩
    · obtain ⟨I9, s, -, e, -⟩ := u2 hr
      cases e
  · obtain ⟨I3, r7, I5, k3, k5, u1, u2⟩ := key _ _ e
    by_cases hr : r7 = 0
    · cases (u1 hr).1
    · obtain ⟨I9, s', k9, es, u⟩ := u2 hr
      cases es
      obtain ⟨R9, l9⟩ := u.2.2.2.2 s rfl
      have ij : i + 1 ≤ j := by
        obtain ⟨q0, e0, e1⟩ := rAdd_iv e
        cases q0 with
        | none => cases e1
        | some s2 =>
          cases e1
          rw [List.length_append] at l9
          have : ([c] : List Nat).length = 1 := rfl
          omega
      obtain ⟨Iz, kz, uz⟩ := B j s q2 I9 ij e2 R9
      exact ⟨Iz, ⟨I3, k3, r7, I5, k5, fun h => absurd h hr, fun _ => ⟨1, I9, k9, fun _ y hy => by rw [hy, zi1 x, oz_map]; exact kz, fun h => absurd h (by decide)⟩⟩, u.then_ uz⟩
theorem opened {X : Nat × (Nat → Int32)} {d : Nat} {G : zG} (hS : S5 G) {b : Nat → Int32} {n M : Nat} (hn : n ≤ 160) {I : zI} {i o : Nat} {s : List Nat} (hR : Rs b n M I i o s) (iM : i < M) (ho : o < 5) :
    ∃ I1 : zI, Cv X (d + 7) 26 [.ref 39] G I (some (.int 1), G, I1) ∧ FrD I I1 ∧ Rs b n M I1 (i + 1) (o + 1) s := by
  obtain ⟨hA, -, h5, h6, hs, hl⟩ := hR
  obtain ⟨I2, hI2⟩ : ∃ I2 : zI, I2 = z_up I 39 6 (zi (o + 1)) := ⟨_, rfl⟩
  obtain ⟨I3, k1, f1, a1, o1, s1⟩ := c_advT (X := X) (d := d) hS (b := b) (i := i + 1) hn (I := I2) ⟨by rw [hI2, up_place (by decide)]; exact hA.1.1, fun k hk => by rw [hI2, up_cell (by decide)]; exact hA.1.2 k hk⟩ (by rw [hI2, up_place (by decide)]; exact hA.2.2.1)
  refine ⟨I3, Cv.of hq_26 (z_le rfl) rfl (w5_R_opens hS ⟨fun _ A g => ⟨I3, ?_, rfl⟩, fun h => absurd (by rw [h6]; exact (zi_lt (b := 5) (by omega) (by omega)).2 ho) h⟩), FrD.tr ⟨fun c a _ => by rw [hI2, up_cell a], fun k hk => by rw [hI2, up_place (by omega)]⟩ f1, a1, iM, by omega, by rw [o1, hI2, up_same], s1 s ⟨by rw [hI2, up_place (by decide)]; exact hs.1, fun k hk => by rw [hI2, up_cell (by decide)]; exact hs.2 k hk⟩, by omega⟩
  obtain rfl : A = I2 := by rw [g, h6, zi1 o, hI2]
  exact k1
theorem c_closes {X : Nat × (Nat → Int32)} {d : Nat} {G : zG} (hS : S5 G) {b : Nat → Int32} {n M : Nat} {I : zI} {j o : Nat} {s : List Nat} (hR : Rs b n M I j (o + 1) s) :
    ∃ I1 : zI, Cv X d 27 [.ref 39] G I (some (.int 1), G, I1) ∧ FrD I I1 ∧ Rs b n M I1 j o s := by
  obtain ⟨hA, hj, h5, h6, hs, hl⟩ := hR
  refine ⟨z_up I 39 6 (zi o), Cv.of hq_27 (z_le rfl) rfl (w5_R_closes hS fun A g => ?_), ⟨fun c a _ => up_cell a, fun k hk => up_place (by omega)⟩, ⟨⟨by rw [up_place (by decide)]; exact hA.1.1, fun k hk => by rw [up_cell (by decide)]; exact hA.1.2 k hk⟩, by rw [up_place (by decide)]; exact hA.2.1, by rw [up_place (by decide)]; exact hA.2.2.1, by rw [up_place (by decide)]; exact hA.2.2.2.1, fun h => by rw [up_place (by decide)]; exact hA.2.2.2.2 h⟩, hj, by omega, up_same, ⟨by rw [up_place (by decide)]; exact hs.1, fun k hk => by rw [up_cell (by decide)]; exact hs.2 k hk⟩, hl⟩
  rw [g, h6, show zi (o + 1) - 1 = zi o from (zi_sub (a := o + 1) (b := 1) (by omega)).trans (congrArg zi (by omega))]
theorem skipped {X : Nat × (Nat → Int32)} {d : Nat} {G : zG} (hS : S5 G) {b : Nat → Int32} {n M : Nat} (hn : n ≤ 160) {I : zI} {i o t : Nat} {s : List Nat} {v : Int32} (hA : At b n I i) (iM : i < M) (ho : o ≤ 5) (h6 : I 39 6 = zi o) (hs : StC I s) (hl : s.length ≤ i + 1) (hv : v = I 39 4) :
    ∃ I1 : zI, Cv X (d + 7) 22 [.ref 39, .int v] G I (some (.int 1), G, I1) ∧ FrD I I1 ∧ Rs b n M I1 (i + 1) o s := by
  obtain ⟨I3, k1, f1, a1, o1, s1⟩ := c_advT (X := X) (d := d) hS (i := i + 1) hn hA.1 hA.2.2.1
  exact ⟨I3, Cv.of hq_22 (z_le rfl) rfl (w5_R_skip _ hS ⟨fun _ => ⟨I3, k1, rfl⟩, fun h => absurd hv.symm h⟩), f1, a1, iM, ho, o1.trans h6, s1 s hs, hl⟩
theorem skipNo {X : Nat × (Nat → Int32)} {d : Nat} {G : zG} (hS : S5 G) {I : zI} {v : Int32} (h : ¬ I 39 4 = v) : Cv X (d + 1) 22 [.ref 39, .int v] G I (some (.int 0), G, I) :=
  Cv.of hq_22 (z_le rfl) rfl (w5_R_skip _ hS ⟨fun e => absurd e h, fun _ => rfl⟩)
theorem opensNo {X : Nat × (Nat → Int32)} {d : Nat} {G : zG} (hS : S5 G) {I : zI} {o : Nat} (ho : ¬ o < 5) (h5 : o ≤ 5) (h6 : I 39 6 = zi o) : Cv X (d + 1) 26 [.ref 39] G I (some (.int 0), G, I) :=
  Cv.of hq_26 (z_le rfl) rfl (w5_R_opens hS ⟨fun h => absurd ((zi_lt (b := 5) (by omega) (by omega)).1 (by rw [h6] at h; exact h)) ho, fun _ => rfl⟩)
theorem c_putR {X : Nat × (Nat → Int32)} {d : Nat} {G : zG} (hS : S5 G) {b : Nat → Int32} {n M : Nat} (hM : M ≤ 160) {I : zI} {i o : Nat} {s : List Nat} {c : Nat} {v : Int32} (hv : v = cs c) (hR : Rs b n M I i o s) (hl : s.length + 1 ≤ i) :
    ∃ I1 : zI, Cv X d 28 [.ref 39, .int v] G I (some (.int 1), G, I1) ∧ FrD I I1 ∧ Rs b n M I1 i o (s ++ [c]) := by
  have := hR.2.1
  obtain ⟨I1, k, f, a, o1, s1, -⟩ := c_put (X := X) (d := d) hS (M := M) hv hR.1 hR.2.2.2.1 hR.2.2.2.2.1 (by omega)
  exact ⟨I1, k, f, a, hR.2.1, hR.2.2.1, o1, s1, by rw [List.length_append]; exact hl⟩
theorem within_t : ∀ t, t < 23 → (f_T_within (zi t) 17 22 = 0 ↔ ¬ (17 ≤ t ∧ t ≤ 22)) := by decide +kernel
theorem within_v : ∀ t, t < 23 → 17 ≤ t → 10000 + zi t - 17 = cs (t - 17) := by decide +kernel
theorem cs_num (v : Nat) : zi v = cs (100000 + v) := by
  unfold cs
  rw [if_pos (by omega)]
  exact congrArg zi (by omega)
/-- one thing -/
theorem rd_one {X : Nat × (Nat → Int32)} {G : zG} (hS : S5 G) {b : Nat → Int32} {n M : Nat} (hn : n ≤ 160) (hM : EndAt b n M) {f : Nat}
    (h0 : ∀ i o j q I s0, rd (TK b n) (NM b n) f 0 i o = some (j, q) → Rs b n M I i o s0 → RDc X (9 + 8 * (5 - o) + 1) 31 G b n M I i j o s0 q)
    (h8 : ∀ i o j q I s0, rd (TK b n) (NM b n) f 8 i o = some (j, q) → Rs b n M I i o s0 → RDc X (9 + 8 * (5 - o) + 6) 23 G b n M I i j o s0 q)
    (i o j : Nat) (q : Option (List Nat)) (I : zI) (s0 : List Nat) (h : rd (TK b n) (NM b n) (f + 1) 0 i o = some (j, q)) (hR : Rs b n M I i o s0) : RDc X (9 + 8 * (5 - o) + 1) 31 G b n M I i j o s0 q := by
  have tz : ∀ t, t < 100 → (I 39 4 = zi t ↔ TK b n i = t) := fun t ht => tkz hR.1 ht
  have t22 : TK b n i < 23 := by have := tkt_le b n (PT b n i); unfold TK; omega
  have ml := hM.le
  have wt : f_T_within (I 39 4) 17 22 = 0 ↔ ¬ (17 ≤ TK b n i ∧ TK b n i ≤ 22) := by rw [hR.1.2.2.2.1]; exact within_t _ t22
  have lit : ∀ {t : Nat}, t < 100 → TK b n i ≠ t → ¬ I 39 4 = zi t := fun ht e g => e ((tz _ ht).1 g)
  rw [rd] at h
  -- a leaf: its step, then on
  have leaf : ∀ c v, v = cs c → TK b n i ≠ 0 → ∃ I1 I2 : zI, Cv X (9 + 8 * (5 - o)) 28 [.ref 39, .int v] G I (some (.int 1), G, I1) ∧ I1 39 4 = I 39 4 ∧ (∀ w, w = I 39 4 → Cv X (9 + 8 * (5 - o)) 22 [.ref 39, .int w] G I1 (some (.int 1), G, I2)) ∧ Out b n M I i (i + 1) o s0 (some [c]) I2 := by
    intro c v hv hne
    have iM := hM.lt hR.2.1 hne
    have sl := hR.2.2.2.2.2
    obtain ⟨I1, k, f1, a, o1, s1, e4⟩ := c_put (X := X) (d := 9 + 8 * (5 - o)) hS (M := M) hv hR.1 hR.2.2.2.1 hR.2.2.2.2.1 (by omega)
    obtain ⟨I2, k2, f2, R2⟩ := skipped (X := X) (d := 0) (t := 0) hS hn (M := M) a iM hR.2.2.1 o1 s1 (by rw [List.length_append]; show s0.length + 1 ≤ i + 1; omega) (Eq.refl (I1 39 4))
    exact ⟨I1, I2, k, e4, fun w hw => by rw [hw, ← e4]; exact k2.deep (by omega), f1.tr f2, R2.1, Nat.le_succ _, iM, fun s e => by cases e; exact ⟨R2, by show 1 + i ≤ i + 1; omega⟩⟩
  by_cases e2 : TK b n i = 2
  · rw [if_pos e2] at h
    cases h
    obtain ⟨I1, I2, k1, -, k2, u⟩ := leaf (100000 + NM b n i) (I 39 5) ((hR.1.2.2.2.2 e2).trans (cs_num _)) (by omega)
    have g2 := (tz 2 (by decide)).2 e2
    exact ⟨I2, Cv.of hq_31 (z_le rfl) rfl (w5_R_readOne hS ⟨fun h => absurd g2 h, fun _ => ⟨1, I1, k1, fun h => absurd h (by decide), fun _ => ⟨1, I2, k2 2 g2.symm, fun h => absurd h (by decide), fun _ => rfl⟩⟩⟩), u⟩
  rw [if_neg e2] at h
  have n2 := lit (t := 2) (by decide) e2
  by_cases ew : 17 ≤ TK b n i ∧ TK b n i ≤ 22
  · rw [if_pos ew] at h
    cases h
    obtain ⟨I1, I2, k1, e4, k2, u⟩ := leaf (TK b n i - 17) (10000 + I 39 4 - 17) (by rw [hR.1.2.2.2.1]; exact within_v _ t22 ew.1) (by omega)
    exact ⟨I2, Cv.of hq_31 (z_le rfl) rfl (w5_R_readOne hS ⟨fun _ => ⟨fun h => absurd ew (wt.1 h), fun _ => ⟨1, I1, k1, fun h => absurd h (by decide), fun _ => ⟨1, I2, k2 _ e4, fun h => absurd h (by decide), fun _ => rfl⟩⟩⟩, fun h => absurd h n2⟩), u⟩
  rw [if_neg ew] at h
  have nw := wt.2 ew
  by_cases e7 : TK b n i = 7
  · rw [if_pos e7] at h
    have g7 := (tz 7 (by decide)).2 e7
    by_cases ho : o < 5
    · rw [if_pos ho] at h
      have iM := hM.lt hR.2.1 (by omega)
      obtain ⟨I5, k5, f5, R5⟩ := opened (X := X) (d := 0) hS hn hR iM ho
      obtain ⟨q2, e, rfl⟩ := rAdd_iv h
      obtain ⟨I9, k9, u9⟩ := h0 _ _ _ _ I5 s0 e R5
      cases q2 with
      | none =>
        exact ⟨I9, Cv.of hq_31 (z_le rfl) rfl (w5_R_readOne hS ⟨fun _ => ⟨fun _ => ⟨fun h => absurd g7 h, fun _ => ⟨1, I5, k5.deep (by omega), fun _ => ⟨0, I9, k9.deep (by omega), fun _ => rfl, fun h => absurd rfl h⟩, fun h => absurd h (by decide)⟩⟩, fun h => absurd nw h⟩, fun h => absurd h n2⟩), Out.fail f5 (Nat.le_succ _) u9⟩
      | some s =>
        obtain ⟨R9, l9⟩ := u9.2.2.2.2 s rfl
        have sl := hR.2.2.2.2.2
        obtain ⟨Ia, ka, fa, Ra⟩ := c_closes (X := X) (d := 9 + 8 * (5 - o)) hS R9
        obtain ⟨Ib, kb, fb, Rb⟩ := c_putR (X := X) (d := 9 + 8 * (5 - o)) (c := 19) (v := 20008) hS (by omega) (by decide) Ra (by rw [List.length_append]; omega)
        refine ⟨Ib, Cv.of hq_31 (z_le rfl) rfl (w5_R_readOne hS ⟨fun _ => ⟨fun _ => ⟨fun h => absurd g7 h, fun _ => ⟨1, I5, k5.deep (by omega), fun _ => ⟨1, I9, k9.deep (by omega), fun h => absurd h (by decide), fun _ => ⟨1, Ia, ka, fun h => absurd h (by decide), fun _ => ⟨1, Ib, kb, fun h => absurd h (by decide), fun _ => rfl⟩⟩⟩, fun h => absurd h (by decide)⟩⟩, fun h => absurd nw h⟩, fun h => absurd h n2⟩), ((f5.tr u9.1).tr fa).tr fb, Rb.1, by have := u9.2.2.1; omega, Rb.2.1, fun t et => ?_⟩
        cases et
        rw [← List.append_assoc]
        exact ⟨Rb, by rw [List.length_append]; show s.length + 1 + i ≤ j; omega⟩
    · rw [if_neg ho] at h
      cases h
      exact ⟨I, Cv.of hq_31 (z_le rfl) rfl (w5_R_readOne hS ⟨fun _ => ⟨fun _ => ⟨fun h => absurd g7 h, fun _ => ⟨0, I, (opensNo (d := 0) hS ho hR.2.2.1 hR.2.2.2.1).deep (by omega), fun h => absurd rfl h, fun _ => rfl⟩⟩, fun h => absurd nw h⟩, fun h => absurd h n2⟩), Out.no hR⟩
  rw [if_neg e7] at h
  have n7 := lit (t := 7) (by decide) e7
  by_cases e3 : TK b n i = 3
  · rw [if_pos e3] at h
    have g3 := (tz 3 (by decide)).2 e3
    by_cases ho : o < 5
    · rw [if_pos ho] at h
      have iM := hM.lt hR.2.1 (by omega)
      obtain ⟨I5, k5, f5, R5⟩ := opened (X := X) (d := 0) hS hn hR iM ho
      cases er : rd (TK b n) (NM b n) f 8 (i + 1) (o + 1) with
      | none => rw [er] at h; cases h
      | some p =>
        obtain ⟨l, q2⟩ := p
        rw [er] at h
        obtain ⟨I9, k9, u9⟩ := h8 _ _ _ _ I5 s0 er R5
        cases q2 with
        | none =>
          cases h
          exact ⟨I9, Cv.of hq_31 (z_le rfl) rfl (w5_R_readOne hS ⟨fun _ => ⟨fun _ => ⟨fun _ => ⟨fun h => absurd g3 h, fun _ => ⟨1, I5, k5.deep (by omega), fun _ => ⟨0, I9, k9.deep (by omega), fun _ => rfl, fun h => absurd rfl h⟩, fun h => absurd h (by decide)⟩⟩, fun h => absurd h n7⟩, fun h => absurd nw h⟩, fun h => absurd h n2⟩), Out.fail f5 (Nat.le_succ _) u9⟩
        | some s =>
          obtain ⟨R9, l9⟩ := u9.2.2.2.2 s rfl
          dsimp only at h
          by_cases e4 : TK b n l = 4
          · rw [if_pos e4] at h
            cases h
            have lM := hM.lt R9.2.1 (by omega)
            obtain ⟨Ia, ka, fa, Ra⟩ := skipped (X := X) (d := 0) (t := 0) (v := 4) hS hn (M := M) R9.1 lM R9.2.2.1 R9.2.2.2.1 R9.2.2.2.2.1 (by have := R9.2.2.2.2.2; omega) ((tkz R9.1 (t := 4) (by decide)).2 e4).symm
            obtain ⟨Ib, kb, fb, Rb⟩ := c_closes (X := X) (d := 9 + 8 * (5 - o)) hS Ra
            refine ⟨Ib, Cv.of hq_31 (z_le rfl) rfl (w5_R_readOne hS ⟨fun _ => ⟨fun _ => ⟨fun _ => ⟨fun h => absurd g3 h, fun _ => ⟨1, I5, k5.deep (by omega), fun _ => ⟨1, I9, k9.deep (by omega), fun h => absurd h (by decide), fun _ => ⟨1, Ia, ka.deep (by omega), fun h => absurd h (by decide), fun _ => ⟨1, Ib, kb, fun h => absurd h (by decide), fun _ => rfl⟩⟩⟩, fun h => absurd h (by decide)⟩⟩, fun h => absurd h n7⟩, fun h => absurd nw h⟩, fun h => absurd h n2⟩), ((f5.tr u9.1).tr fa).tr fb, Rb.1, by have := u9.2.2.1; omega, Rb.2.1, fun t et => ?_⟩
            cases et
            exact ⟨Rb, by omega⟩
          · rw [if_neg e4] at h
            cases h
            have n4 : ¬ I9 39 4 = 4 := fun g => e4 ((tkz R9.1 (t := 4) (by decide)).1 g)
            exact ⟨I9, Cv.of hq_31 (z_le rfl) rfl (w5_R_readOne hS ⟨fun _ => ⟨fun _ => ⟨fun _ => ⟨fun h => absurd g3 h, fun _ => ⟨1, I5, k5.deep (by omega), fun _ => ⟨1, I9, k9.deep (by omega), fun h => absurd h (by decide), fun _ => ⟨0, I9, (skipNo (d := 0) hS n4).deep (by omega), fun _ => rfl, fun h => absurd rfl h⟩⟩, fun h => absurd h (by decide)⟩⟩, fun h => absurd h n7⟩, fun h => absurd nw h⟩, fun h => absurd h n2⟩), f5.tr u9.1, u9.2.1, by have := u9.2.2.1; omega, u9.2.2.2.1, fun t et => by cases et⟩
    · rw [if_neg ho] at h
      cases h
      exact ⟨I, Cv.of hq_31 (z_le rfl) rfl (w5_R_readOne hS ⟨fun _ => ⟨fun _ => ⟨fun _ => ⟨fun h => absurd g3 h, fun _ => ⟨0, I, (opensNo (d := 0) hS ho hR.2.2.1 hR.2.2.2.1).deep (by omega), fun h => absurd rfl h, fun _ => rfl⟩⟩, fun h => absurd h n7⟩, fun h => absurd nw h⟩, fun h => absurd h n2⟩), Out.no hR⟩
  rw [if_neg e3] at h
  cases h
  have n3 := lit (t := 3) (by decide) e3
  exact ⟨I, Cv.of hq_31 (z_le rfl) rfl (w5_R_readOne hS ⟨fun _ => ⟨fun _ => ⟨fun _ => ⟨fun _ => rfl, fun h => absurd h n3⟩, fun h => absurd h n7⟩, fun h => absurd nw h⟩, fun h => absurd h n2⟩), Out.no hR⟩
theorem RDc.deep {X : Nat × (Nat → Int32)} {D D' ν : Nat} {G : zG} {b : Nat → Int32} {n M : Nat} {I : zI} {i j o : Nat} {s0 : List Nat} {q : Option (List Nat)} (h : RDc X D ν G b n M I i j o s0 q) (hd : D ≤ D') : RDc X D' ν G b n M I i j o s0 q := by
  obtain ⟨I1, k, u⟩ := h
  exact ⟨I1, k.deep hd, u⟩
theorem RDe.deep {X : Nat × (Nat → Int32)} {D D' ν : Nat} {lo : List Value} {G : zG} {b : Nat → Int32} {n M : Nat} {I : zI} {i j o : Nat} {s0 : List Nat} {q : Option (List Nat)} (h : RDe X D ν lo G b n M I i j o s0 q) (hd : D ≤ D') : RDe X D' ν lo G b n M I i j o s0 q := by
  obtain ⟨I1, k, u⟩ := h
  exact ⟨I1, k.deep hd, u⟩
theorem reads {X : Nat × (Nat → Int32)} {G : zG} (hS : S5 G) {b : Nat → Int32} {n M : Nat} (hn : n ≤ 160) (hM : EndAt b n M) : ∀ f : Nat, (∀ i o j q I s0, rd (TK b n) (NM b n) f 0 i o = some (j, q) → Rs b n M I i o s0 → RDc X (9 + 8 * (5 - o) + 1) 31 G b n M I i j o s0 q) ∧ (∀ i o j q I s0, rd (TK b n) (NM b n) f 1 i o = some (j, q) → Rs b n M I i o s0 → RDc X (9 + 8 * (5 - o) + 2) 30 G b n M I i j o s0 q) ∧ (∀ x i o j q I s0, x ≤ i → rd (TK b n) (NM b n) f 2 i o = some (j, q) → Rs b n M I i o s0 → RDe X (9 + 8 * (5 - o) + 2) 30 [.ref 39, .int (zi x)] G b n M I i j o s0 q) ∧ (∀ i o j q I s0, rd (TK b n) (NM b n) f 3 i o = some (j, q) → Rs b n M I i o s0 → RDc X (9 + 8 * (5 - o) + 3) 29 G b n M I i j o s0 q) ∧ (∀ x i o j q I s0 (v2 : Value), v2.category = 1 → x ≤ i → rd (TK b n) (NM b n) f 4 i o = some (j, q) → Rs b n M I i o s0 → RDe X (9 + 8 * (5 - o) + 3) 29 [.ref 39, .int (zi x), v2] G b n M I i j o s0 q) ∧ (∀ i o j q I s0, rd (TK b n) (NM b n) f 5 i o = some (j, q) → Rs b n M I i o s0 → RDc X (9 + 8 * (5 - o) + 4) 25 G b n M I i j o s0 q) ∧ (∀ i o j q I s0, rd (TK b n) (NM b n) f 6 i o = some (j, q) → Rs b n M I i o s0 → RDc X (9 + 8 * (5 - o) + 5) 24 G b n M I i j o s0 q) ∧ (∀ x i o j q I s0, x ≤ i → rd (TK b n) (NM b n) f 7 i o = some (j, q) → Rs b n M I i o s0 → RDe X (9 + 8 * (5 - o) + 5) 24 [.ref 39, .int (zi x)] G b n M I i j o s0 q) ∧ (∀ i o j q I s0, rd (TK b n) (NM b n) f 8 i o = some (j, q) → Rs b n M I i o s0 → RDc X (9 + 8 * (5 - o) + 6) 23 G b n M I i j o s0 q) ∧ (∀ x i o j q I s0, x ≤ i → rd (TK b n) (NM b n) f 9 i o = some (j, q) → Rs b n M I i o s0 → RDe X (9 + 8 * (5 - o) + 6) 23 [.ref 39, .int (zi x)] G b n M I i j o s0 q) := by
  intro f
  induction f with
  | zero => exact ⟨fun _ _ _ _ _ _ h => (by cases h), fun _ _ _ _ _ _ h => (by cases h), fun _ _ _ _ _ _ _ _ h => (by cases h), fun _ _ _ _ _ _ h => (by cases h), fun _ _ _ _ _ _ _ _ _ _ h => (by cases h), fun _ _ _ _ _ _ h => (by cases h), fun _ _ _ _ _ _ h => (by cases h), fun _ _ _ _ _ _ _ _ h => (by cases h), fun _ _ _ _ _ _ h => (by cases h), fun _ _ _ _ _ _ _ _ h => (by cases h)⟩
  | succ f ih =>
    obtain ⟨i0, i1, i2, i3, i4, i5, i6, i7, i8, i9⟩ := ih
    refine ⟨rd_one hS hn hM i0 i8, ?_, ?_, ?_, ?_, ?_, ?_, ?_, ?_, ?_⟩
    · intro i o j q I s0 h hR
      rw [rd] at h
      exact rd_head (lo := [.ref 39, .int 0]) (fun res h => Cv.of hq_30 (z_le rfl) rfl (w5_R_readTerm hS h)) h (fun j q e => i0 _ _ _ _ I s0 e hR) (fun j s q2 I1 e R1 => i2 0 _ _ _ _ I1 _ (Nat.zero_le _) e R1)
    · intro x i o j q I s0 hx h hR
      have sl := hR.2.1
      have ml := hM.le
      rw [rd] at h
      by_cases e : TK b n i = 8
      · rw [if_pos e] at h
        have iM := hM.lt hR.2.1 (by omega)
        have g := (tkz hR.1 (t := 8) (by decide)).2 e
        have n160 : ¬ (160 : Int32) ≤ zi x := fun e => absurd ((zi_le (a := 160) (by omega) (by omega)).1 e) (by omega)
        obtain ⟨Iz, pc, u⟩ := rd_loop (X := X) (D := 3 + 8 * (5 - o) + 1) (ν := 30) (a := 31) (x := x) (lo := fun y => [.ref 39, .int y]) hS hn hM hR (by omega) (show (20006 : Int32) = cs 18 by decide) h (fun I3 j q R3 e => RDc.deep (i0 _ _ _ _ I3 s0 e R3) (by omega)) (fun j s q2 I1 ij e R1 => RDe.deep (i2 (x + 1) _ _ _ _ I1 _ (by omega) e R1) (by omega))
        exact ⟨Iz, Ev.deep (w5_R_readTerm_11 _ hS ⟨fun h => absurd h n160, fun _ => ⟨fun h => absurd g h, fun _ => pc⟩⟩) (by omega), u⟩
      · rw [if_neg e] at h
        cases h
        have g : ¬ I 39 4 = 8 := fun g => e ((tkz hR.1 (t := 8) (by decide)).1 g)
        exact ⟨I, (w5_R_readTerm_11 (d := 9 + 8 * (5 - o) + 1) _ hS ⟨fun _ => rfl, fun _ => ⟨fun _ => rfl, fun h => absurd h g⟩⟩), Out.refl hR⟩
    · intro i o j q I s0 h hR
      rw [rd] at h
      exact rd_head (lo := [.ref 39, .int 0, zU]) (fun res h => Cv.of hq_29 (z_le rfl) rfl (w5_R_readSum hS h)) h (fun j q e => i1 _ _ _ _ I s0 e hR) (fun j s q2 I1 e R1 => i4 0 _ _ _ _ I1 _ zU rfl (Nat.zero_le _) e R1)
    · intro x i o j q I s0 v2 hv2 hx h hR
      have sl := hR.2.1
      have ml := hM.le
      rw [rd] at h
      have lp : ∀ (c : Nat) (v : Int32), v = cs c → TK b n i ≠ 0 → rThen (rAdd (rd (TK b n) (NM b n) f 1 (i + 1) o) [c]) (fun j => rd (TK b n) (NM b n) f 4 j o) = some (j, q) → _ := fun c v hv h0 h => rd_loop (X := X) (D := 3 + 8 * (5 - o) + 2) (ν := 29) (a := 30) (v := v) (x := x) (lo := fun y => [.ref 39, .int y, .int v]) hS hn hM hR h0 hv h (fun I3 j q R3 e => RDc.deep (i1 _ _ _ _ I3 s0 e R3) (by omega)) (fun j s q2 I1 ij e R1 => RDe.deep (i4 (x + 1) _ _ _ _ I1 _ (.int v) rfl (by omega) e R1) (by omega))
      by_cases e6 : TK b n i = 6
      · rw [if_pos (Or.inl e6)] at h
        have iM := hM.lt hR.2.1 (by omega)
        have g := (tkz hR.1 (t := 6) (by decide)).2 e6
        have n160 : ¬ (160 : Int32) ≤ zi x := fun e => absurd ((zi_le (a := 160) (by omega) (by omega)).1 e) (by omega)
        obtain ⟨Iz, pc, u⟩ := lp _ 20004 (by rw [e6]; decide) (by omega) h
        exact ⟨Iz, Ev.deep (w5_R_readSum_11 _ _ hv2 hS ⟨fun h => absurd h n160, fun _ => ⟨fun _ => ⟨fun h => absurd g h, fun _ => pc⟩, fun h => absurd g h⟩⟩) (by omega), u⟩
      have n6 : ¬ I 39 4 = 6 := fun g => e6 ((tkz hR.1 (t := 6) (by decide)).1 g)
      by_cases e7 : TK b n i = 7
      · rw [if_pos (Or.inr e7)] at h
        have iM := hM.lt hR.2.1 (by omega)
        have g := (tkz hR.1 (t := 7) (by decide)).2 e7
        have n160 : ¬ (160 : Int32) ≤ zi x := fun e => absurd ((zi_le (a := 160) (by omega) (by omega)).1 e) (by omega)
        obtain ⟨Iz, pc, u⟩ := lp _ 20005 (by rw [e7]; decide) (by omega) h
        exact ⟨Iz, Ev.deep (w5_R_readSum_11 _ _ hv2 hS ⟨fun h => absurd h n160, fun _ => ⟨fun h => absurd h n6, fun _ => ⟨fun h => absurd g h, fun _ => ⟨fun _ => pc, fun h => absurd h n6⟩⟩⟩⟩) (by omega), u⟩
      have n7 : ¬ I 39 4 = 7 := fun g => e7 ((tkz hR.1 (t := 7) (by decide)).1 g)
      rw [if_neg (by omega)] at h
      cases h
      exact ⟨I, w5_R_readSum_11 (d := 9 + 8 * (5 - o) + 2) _ _ hv2 hS ⟨fun _ => rfl, fun _ => ⟨fun h => absurd h n6, fun _ => ⟨fun _ => rfl, fun h => absurd h n7⟩⟩⟩, Out.refl hR⟩
    · intro i o j q I s0 h hR
      have sl := hR.2.1
      have ml := hM.le
      rw [rd] at h
      by_cases e16 : TK b n i = 16
      · rw [if_pos e16] at h
        have g := (tkz hR.1 (t := 16) (by decide)).2 e16
        by_cases ho : o < 5
        · rw [if_pos ho] at h
          have iM := hM.lt hR.2.1 (by omega)
          obtain ⟨I5, k5, f5, R5⟩ := opened (X := X) (d := 0) hS hn hR iM ho
          obtain ⟨q2, e, rfl⟩ := rAdd_iv h
          obtain ⟨I9, k9, u9⟩ := i5 _ _ _ _ I5 s0 e R5
          cases q2 with
          | none =>
            exact ⟨I9, Cv.of hq_25 (z_le rfl) rfl (w5_R_readNot (d := 9 + 8 * (5 - o) + 3) hS ⟨fun h => absurd g h, fun _ => ⟨1, I5, k5.deep (by omega), fun _ => ⟨0, I9, k9.deep (by omega), fun _ => rfl, fun h => absurd rfl h⟩, fun h => absurd h (by decide)⟩⟩), Out.fail f5 (Nat.le_succ _) u9⟩
          | some s =>
            obtain ⟨R9, l9⟩ := u9.2.2.2.2 s rfl
            have sl := hR.2.2.2.2.2
            obtain ⟨Ia, ka, fa, Ra⟩ := c_closes (X := X) (d := 9 + 8 * (5 - o) + 3) hS R9
            obtain ⟨Ib, kb, fb, Rb⟩ := c_putR (X := X) (d := 9 + 8 * (5 - o) + 3) (c := 13) (v := 20007) hS (by omega) (by decide) Ra (by rw [List.length_append]; omega)
            refine ⟨Ib, Cv.of hq_25 (z_le rfl) rfl (w5_R_readNot (d := 9 + 8 * (5 - o) + 3) hS ⟨fun h => absurd g h, fun _ => ⟨1, I5, k5.deep (by omega), fun _ => ⟨1, I9, k9.deep (by omega), fun h => absurd h (by decide), fun _ => ⟨1, Ia, ka, fun h => absurd h (by decide), fun _ => ⟨1, Ib, kb, fun h => absurd h (by decide), fun _ => rfl⟩⟩⟩, fun h => absurd h (by decide)⟩⟩), ((f5.tr u9.1).tr fa).tr fb, Rb.1, by have := u9.2.2.1; omega, Rb.2.1, fun t et => ?_⟩
            cases et
            rw [← List.append_assoc]
            exact ⟨Rb, by rw [List.length_append]; show s.length + 1 + i ≤ j; omega⟩
        · rw [if_neg ho] at h
          cases h
          exact ⟨I, Cv.of hq_25 (z_le rfl) rfl (w5_R_readNot (d := 9 + 8 * (5 - o) + 3) hS ⟨fun h => absurd g h, fun _ => ⟨0, I, (opensNo (d := 0) hS ho hR.2.2.1 hR.2.2.2.1).deep (by omega), fun h => absurd rfl h, fun _ => rfl⟩⟩), Out.no hR⟩
      rw [if_neg e16] at h
      have n16 : ¬ I 39 4 = 16 := fun g => e16 ((tkz hR.1 (t := 16) (by decide)).1 g)
      rcases rThen_iv h with ⟨e, rfl⟩ | ⟨m, s, q2, e, e2, rfl⟩
      · obtain ⟨I1, k, u⟩ := i3 _ _ _ _ I s0 e hR
        exact ⟨I1, Cv.of hq_25 (z_le rfl) rfl (w5_R_readNot (d := 9 + 8 * (5 - o) + 3) hS ⟨fun _ => ⟨0, I1, k, fun h => absurd rfl h, fun _ => rfl⟩, fun h => absurd h n16⟩), u⟩
      · obtain ⟨I2, k2, u⟩ := i3 _ _ _ _ I s0 e hR
        obtain ⟨R2, l2⟩ := u.2.2.2.2 s rfl
        have sg : ∀ (c : Nat) (v : Int32), v = cs c → TK b n m ≠ 0 → rAdd (rd (TK b n) (NM b n) f 3 (m + 1) o) [c] = some (j, q2) → _ := fun c v hv h0 h => rd_sign (X := X) (D := 3 + 8 * (5 - o) + 3) (a := 29) (v := v) hS hn hM R2 h0 hv h (fun I3 j q R3 e => RDc.deep (i3 _ _ _ _ I3 (s0 ++ s) e R3) (by omega))
        by_cases e9 : TK b n m = 9
        · rw [if_pos (Or.inl e9)] at e2
          have g := (tkz R2.1 (t := 9) (by decide)).2 e9
          obtain ⟨I3, r7, I5, k3, k5, u1, u2⟩ := sg _ 20002 (by rw [e9]; decide) (by omega) e2
          by_cases hr : r7 = 0
          · obtain ⟨rfl, u5⟩ := u1 hr
            exact ⟨I5, Cv.of hq_25 (z_le rfl) rfl (w5_R_readNot (d := 9 + 8 * (5 - o) + 3) hS ⟨fun _ => ⟨1, I2, k2, fun _ => ⟨fun _ => ⟨fun h => absurd g h, fun _ => ⟨I3, k3.deep (by omega), r7, I5, k5.deep (by omega), fun _ => rfl, fun h => absurd hr h⟩⟩, fun h => absurd g h⟩, fun h => absurd h (by decide)⟩, fun h => absurd h n16⟩), u.then_ u5⟩
          · obtain ⟨I9, s', k9, rfl, u9⟩ := u2 hr
            exact ⟨I9, Cv.of hq_25 (z_le rfl) rfl (w5_R_readNot (d := 9 + 8 * (5 - o) + 3) hS ⟨fun _ => ⟨1, I2, k2, fun _ => ⟨fun _ => ⟨fun h => absurd g h, fun _ => ⟨I3, k3.deep (by omega), r7, I5, k5.deep (by omega), fun h => absurd h hr, fun _ => ⟨1, I9, k9.deep (by omega), fun h => absurd h (by decide), fun _ => rfl⟩⟩⟩, fun h => absurd g h⟩, fun h => absurd h (by decide)⟩, fun h => absurd h n16⟩), u.then_ u9⟩
        have n9 : ¬ I2 39 4 = 9 := fun g => e9 ((tkz R2.1 (t := 9) (by decide)).1 g)
        by_cases e10 : TK b n m = 10
        · rw [if_pos (Or.inr e10)] at e2
          have g := (tkz R2.1 (t := 10) (by decide)).2 e10
          obtain ⟨I3, r7, I5, k3, k5, u1, u2⟩ := sg _ 20003 (by rw [e10]; decide) (by omega) e2
          by_cases hr : r7 = 0
          · obtain ⟨rfl, u5⟩ := u1 hr
            exact ⟨I5, Cv.of hq_25 (z_le rfl) rfl (w5_R_readNot (d := 9 + 8 * (5 - o) + 3) hS ⟨fun _ => ⟨1, I2, k2, fun _ => ⟨fun h => absurd h n9, fun _ => ⟨fun _ => ⟨fun _ => ⟨I3, k3.deep (by omega), r7, I5, k5.deep (by omega), fun _ => rfl, fun h => absurd hr h⟩, fun h => absurd h n9⟩, fun h => absurd g h⟩⟩, fun h => absurd h (by decide)⟩, fun h => absurd h n16⟩), u.then_ u5⟩
          · obtain ⟨I9, s', k9, rfl, u9⟩ := u2 hr
            exact ⟨I9, Cv.of hq_25 (z_le rfl) rfl (w5_R_readNot (d := 9 + 8 * (5 - o) + 3) hS ⟨fun _ => ⟨1, I2, k2, fun _ => ⟨fun h => absurd h n9, fun _ => ⟨fun _ => ⟨fun _ => ⟨I3, k3.deep (by omega), r7, I5, k5.deep (by omega), fun h => absurd h hr, fun _ => ⟨1, I9, k9.deep (by omega), fun h => absurd h (by decide), fun _ => rfl⟩⟩, fun h => absurd h n9⟩, fun h => absurd g h⟩⟩, fun h => absurd h (by decide)⟩, fun h => absurd h n16⟩), u.then_ u9⟩
        have n10 : ¬ I2 39 4 = 10 := fun g => e10 ((tkz R2.1 (t := 10) (by decide)).1 g)
        rw [if_neg (by omega)] at e2
        cases e2
        exact ⟨I2, Cv.of hq_25 (z_le rfl) rfl (w5_R_readNot (d := 9 + 8 * (5 - o) + 3) hS ⟨fun _ => ⟨1, I2, k2, fun _ => ⟨fun h => absurd h n9, fun _ => ⟨fun h => absurd h n10, fun _ => rfl⟩⟩, fun h => absurd h (by decide)⟩, fun h => absurd h n16⟩), u.then_ (Out.refl R2)⟩
    · intro i o j q I s0 h hR
      rw [rd] at h
      exact rd_head (lo := [.ref 39, .int 0]) (fun res h => Cv.of hq_24 (z_le rfl) rfl (w5_R_readBoth hS h)) h (fun j q e => i5 _ _ _ _ I s0 e hR) (fun j s q2 I1 e R1 => i7 0 _ _ _ _ I1 _ (Nat.zero_le _) e R1)
    · intro x i o j q I s0 hx h hR
      have sl := hR.2.1
      have ml := hM.le
      rw [rd] at h
      by_cases e : TK b n i = 15
      · rw [if_pos e] at h
        have iM := hM.lt hR.2.1 (by omega)
        have g := (tkz hR.1 (t := 15) (by decide)).2 e
        have n160 : ¬ (160 : Int32) ≤ zi x := fun e => absurd ((zi_le (a := 160) (by omega) (by omega)).1 e) (by omega)
        obtain ⟨Iz, pc, u⟩ := rd_loop (X := X) (D := 3 + 8 * (5 - o) + 4) (ν := 24) (a := 25) (x := x) (lo := fun y => [.ref 39, .int y]) hS hn hM hR (by omega) (show (20001 : Int32) = cs 12 by decide) h (fun I3 j q R3 e => RDc.deep (i5 _ _ _ _ I3 s0 e R3) (by omega)) (fun j s q2 I1 ij e R1 => RDe.deep (i7 (x + 1) _ _ _ _ I1 _ (by omega) e R1) (by omega))
        exact ⟨Iz, Ev.deep (w5_R_readBoth_11 _ hS ⟨fun h => absurd h n160, fun _ => ⟨fun h => absurd g h, fun _ => pc⟩⟩) (by omega), u⟩
      · rw [if_neg e] at h
        cases h
        have g : ¬ I 39 4 = 15 := fun g => e ((tkz hR.1 (t := 15) (by decide)).1 g)
        exact ⟨I, (w5_R_readBoth_11 (d := 9 + 8 * (5 - o) + 4) _ hS ⟨fun _ => rfl, fun _ => ⟨fun _ => rfl, fun h => absurd h g⟩⟩), Out.refl hR⟩
    · intro i o j q I s0 h hR
      rw [rd] at h
      exact rd_head (lo := [.ref 39, .int 0]) (fun res h => Cv.of hq_23 (z_le rfl) rfl (w5_R_readEither hS h)) h (fun j q e => i6 _ _ _ _ I s0 e hR) (fun j s q2 I1 e R1 => i9 0 _ _ _ _ I1 _ (Nat.zero_le _) e R1)
    · intro x i o j q I s0 hx h hR
      have sl := hR.2.1
      have ml := hM.le
      rw [rd] at h
      by_cases e : TK b n i = 14
      · rw [if_pos e] at h
        have iM := hM.lt hR.2.1 (by omega)
        have g := (tkz hR.1 (t := 14) (by decide)).2 e
        have n160 : ¬ (160 : Int32) ≤ zi x := fun e => absurd ((zi_le (a := 160) (by omega) (by omega)).1 e) (by omega)
        obtain ⟨Iz, pc, u⟩ := rd_loop (X := X) (D := 3 + 8 * (5 - o) + 5) (ν := 23) (a := 24) (x := x) (lo := fun y => [.ref 39, .int y]) hS hn hM hR (by omega) (show (20000 : Int32) = cs 11 by decide) h (fun I3 j q R3 e => RDc.deep (i6 _ _ _ _ I3 s0 e R3) (by omega)) (fun j s q2 I1 ij e R1 => RDe.deep (i9 (x + 1) _ _ _ _ I1 _ (by omega) e R1) (by omega))
        exact ⟨Iz, Ev.deep (w5_R_readEither_11 _ hS ⟨fun h => absurd h n160, fun _ => ⟨fun h => absurd g h, fun _ => pc⟩⟩) (by omega), u⟩
      · rw [if_neg e] at h
        cases h
        have g : ¬ I 39 4 = 14 := fun g => e ((tkz hR.1 (t := 14) (by decide)).1 g)
        exact ⟨I, (w5_R_readEither_11 (d := 9 + 8 * (5 - o) + 5) _ hS ⟨fun _ => rfl, fun _ => ⟨fun _ => rfl, fun h => absurd h g⟩⟩), Out.refl hR⟩
