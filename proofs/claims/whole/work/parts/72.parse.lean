/-! TEXTS, PURELY: the class reads by descent (rd), the reference holds its signs back (Sy). Tokens by number: tk (the class's numbers), nm. Steps are the reference's codes. Kinds: 0 ONE, 1 TERM, 2 its loop, 3 SUM, 4 its loop, 5 NOT, 6 AND, 7 its loop, 8 E, 9 its loop -/
def rk (s : Nat) : Nat := if s = 0 then 0 else if s = 11 then 1 else if s = 12 then 2 else if s = 13 then 3 else if s ≤ 15 then 4 else if s ≤ 17 then 5 else if s = 18 then 6 else 7
def sgo (t : Nat) : Nat := if t = 14 then 11 else if t = 15 then 12 else if t = 9 then 14 else if t = 10 then 15 else if t = 6 then 16 else if t = 7 then 17 else 18
abbrev zPR : Type := Option (Nat × Option (List Nat))
/-- one thing, a sign behind it -/
def rAdd (r : zPR) (x : List Nat) : zPR := match r with
  | some (j, some s) => some (j, some (s ++ x))
  | some (j, none) => some (j, none)
  | none => none
/-- one behind the other -/
def rThen (r : zPR) (g : Nat → zPR) : zPR := match r with
  | some (j, some s) => (match g j with
    | some (l, some s') => some (l, some (s ++ s'))
    | some (l, none) => some (l, none)
    | none => none)
  | some (j, none) => some (j, none)
  | none => none
def rd (tk nm : Nat → Nat) : Nat → Nat → Nat → Nat → zPR
  | 0, _, _, _ => none
  | f + 1, 0, i, o =>
    if tk i = 2 then some (i + 1, some [100000 + nm i])
    else if 17 ≤ tk i ∧ tk i ≤ 22 then some (i + 1, some [tk i - 17])
    else if tk i = 7 then (if o < 5 then rAdd (rd tk nm f 0 (i + 1) (o + 1)) [19] else some (i, none))
    else if tk i = 3 then (if o < 5 then (match rd tk nm f 8 (i + 1) (o + 1) with
      | some (j, some s) => if tk j = 4 then some (j + 1, some s) else some (j, none)
      | some (j, none) => some (j, none)
      | none => none) else some (i, none))
    else some (i, none)
  | f + 1, 1, i, o => rThen (rd tk nm f 0 i o) (fun j => rd tk nm f 2 j o)
  | f + 1, 2, i, o => if tk i = 8 then rThen (rAdd (rd tk nm f 0 (i + 1) o) [18]) (fun j => rd tk nm f 2 j o) else some (i, some [])
  | f + 1, 3, i, o => rThen (rd tk nm f 1 i o) (fun j => rd tk nm f 4 j o)
  | f + 1, 4, i, o => if tk i = 6 ∨ tk i = 7 then rThen (rAdd (rd tk nm f 1 (i + 1) o) [sgo (tk i)]) (fun j => rd tk nm f 4 j o) else some (i, some [])
  | f + 1, 5, i, o =>
    if tk i = 16 then (if o < 5 then rAdd (rd tk nm f 5 (i + 1) (o + 1)) [13] else some (i, none))
    else rThen (rd tk nm f 3 i o) (fun j => if tk j = 9 ∨ tk j = 10 then rAdd (rd tk nm f 3 (j + 1) o) [sgo (tk j)] else some (j, some []))
  | f + 1, 6, i, o => rThen (rd tk nm f 5 i o) (fun j => rd tk nm f 7 j o)
  | f + 1, 7, i, o => if tk i = 15 then rThen (rAdd (rd tk nm f 5 (i + 1) o) [12]) (fun j => rd tk nm f 7 j o) else some (i, some [])
  | f + 1, 8, i, o => rThen (rd tk nm f 6 i o) (fun j => rd tk nm f 9 j o)
  | f + 1, 9, i, o => if tk i = 14 then rThen (rAdd (rd tk nm f 6 (i + 1) o) [11]) (fun j => rd tk nm f 9 j o) else some (i, some [])
  | _ + 1, _ + 10, _, _ => none
def rlv (k : Nat) : Nat := if k = 0 then 0 else if k = 1 then 1 else if k = 3 then 2 else if k = 5 then 3 else if k = 6 then 4 else if k = 8 then 5 else 6
def rlo (k : Nat) : Prop := k = 2 ∨ k = 4 ∨ k = 7 ∨ k = 9
theorem rAdd_ok {r : zPR} {x : List Nat} {j : Nat} {q : Option (List Nat)} (h : r = some (j, q)) : rAdd r x = some (j, q.map (fun s => s ++ x)) := by
  subst h; cases q <;> rfl
theorem rThen_no {r : zPR} {g : Nat → zPR} {j : Nat} (h : r = some (j, none)) : rThen r g = some (j, none) := by subst h; rfl
theorem rThen_ok {r : zPR} {g : Nat → zPR} {j l : Nat} {s : List Nat} {q : Option (List Nat)} (h : r = some (j, some s)) (h2 : g j = some (l, q)) : rThen r g = some (l, q.map (fun t => s ++ t)) := by
  subst h; simp only [rThen, h2]; cases q <;> rfl
/-- where it stands behind: it ends -/
theorem rd_end {tk nm : Nat → Nat} {M : Nat} (hM : tk M = 0) : ∀ f k i o, k < 10 → i ≤ M → 10 * (M - i) + rlv k < f → ∃ (j : Nat) (q : Option (List Nat)), rd tk nm f k i o = some (j, q) ∧ i ≤ j ∧ j ≤ M ∧ (∀ s, q = some s → ¬ rlo k → i < j) := by
  intro f
  induction f with
  | zero => intro k i o _ _ h; exact absurd h (by omega)
  | succ f ih =>
    intro k i o hk hi hf
    have lt : tk i ≠ 0 → i + 1 ≤ M := fun h => by
      rcases Nat.lt_or_ge i M with e | e
      · omega
      · exact absurd (by rw [show i = M by omega]; exact hM) h
    -- one thing at i, then a loop
    have go : ∀ (a b o' : Nat), a < 10 → b < 10 → ¬ rlo a → rlv a < rlv k → ∃ (j : Nat) (q : Option (List Nat)), rThen (rd tk nm f a i o') (fun j => rd tk nm f b j o') = some (j, q) ∧ i ≤ j ∧ j ≤ M ∧ (∀ s, q = some s → i < j) := by
      intro a b o' ha hb hla hlv
      obtain ⟨j, q, e1, e2, e3, e4⟩ := ih a i o' ha hi (by omega)
      cases q with
      | none => exact ⟨j, none, rThen_no e1, e2, e3, fun s h => by cases h⟩
      | some s =>
        have l1 := e4 s rfl hla
        have hb6 : rlv b ≤ 6 := by unfold rlv; repeat' split
                                   all_goals omega
        obtain ⟨l, q2, g1, g2, g3, -⟩ := ih b j o' hb e3 (by omega)
        exact ⟨l, _, rThen_ok e1 g1, by omega, g3, fun _ _ => by omega⟩
    -- a sign at i, one thing, then the loop again
    have lp : ∀ (a b : Nat) (x : List Nat), a < 10 → b < 10 → tk i ≠ 0 → ∃ (j : Nat) (q : Option (List Nat)), rThen (rAdd (rd tk nm f a (i + 1) o) x) (fun j => rd tk nm f b j o) = some (j, q) ∧ i ≤ j ∧ j ≤ M := by
      intro a b x ha hb h0
      have l1 := lt h0
      have hb6 : ∀ b, rlv b ≤ 6 := fun b => by unfold rlv; repeat' split
                                               all_goals omega
      have := hb6 a
      have := hb6 b
      obtain ⟨j, q, e1, e2, e3, e4⟩ := ih a (i + 1) o ha l1 (by omega)
      cases q with
      | none => exact ⟨j, none, rThen_no (rAdd_ok e1), by omega, e3⟩
      | some s =>
        obtain ⟨l, q2, g1, g2, g3, -⟩ := ih b j o hb e3 (by omega)
        exact ⟨l, _, rThen_ok (rAdd_ok e1) g1, by omega, g3⟩
    match k, hk with
    | 0, _ =>
      rw [rd]
      by_cases h1 : tk i = 2
      · rw [if_pos h1]; exact ⟨_, _, rfl, by omega, lt (by omega), fun _ _ _ => by omega⟩
      rw [if_neg h1]
      by_cases h2 : 17 ≤ tk i ∧ tk i ≤ 22
      · rw [if_pos h2]; exact ⟨_, _, rfl, by omega, lt (by omega), fun _ _ _ => by omega⟩
      rw [if_neg h2]
      by_cases h3 : tk i = 7
      · rw [if_pos h3]
        by_cases ho : o < 5
        · rw [if_pos ho]
          obtain ⟨j, q, e1, e2, e3, e4⟩ := ih 0 (i + 1) (o + 1) (by omega) (lt (by omega)) (by unfold rlv at hf ⊢; simp at hf ⊢; have := lt (by omega); omega)
          exact ⟨j, _, rAdd_ok e1, by omega, e3, fun _ _ _ => by omega⟩
        · rw [if_neg ho]; exact ⟨i, none, rfl, by omega, hi, fun s h => by cases h⟩
      rw [if_neg h3]
      by_cases h4 : tk i = 3
      · rw [if_pos h4]
        by_cases ho : o < 5
        · rw [if_pos ho]
          obtain ⟨j, q, e1, e2, e3, e4⟩ := ih 8 (i + 1) (o + 1) (by omega) (lt (by omega)) (by unfold rlv at hf ⊢; simp at hf ⊢; have := lt (by omega); omega)
          rw [e1]
          cases q with
          | none => exact ⟨j, none, rfl, by omega, e3, fun s h => by cases h⟩
          | some s =>
            dsimp only
            by_cases h5 : tk j = 4
            · rw [if_pos h5]
              have : j + 1 ≤ M := by
                rcases Nat.lt_or_ge j M with e | e
                · omega
                · rw [show j = M by omega, hM] at h5; cases h5
              exact ⟨_, _, rfl, by omega, this, fun _ _ _ => by omega⟩
            · rw [if_neg h5]; exact ⟨j, none, rfl, by omega, e3, fun s h => by cases h⟩
        · rw [if_neg ho]; exact ⟨i, none, rfl, by omega, hi, fun s h => by cases h⟩
      rw [if_neg h4]; exact ⟨i, none, rfl, by omega, hi, fun s h => by cases h⟩
    | 1, _ =>
      obtain ⟨j, q, a, b, c, d⟩ := go 0 2 o (by omega) (by omega) (by unfold rlo; omega) (by decide)
      exact ⟨j, q, a, b, c, fun s h _ => d s h⟩
    | 2, _ =>
      rw [rd]
      by_cases h : tk i = 8
      · rw [if_pos h]
        obtain ⟨j, q, a, b, c⟩ := lp 0 2 [18] (by omega) (by omega) (by omega)
        exact ⟨j, q, a, b, c, fun s _ h => absurd (by unfold rlo; omega) h⟩
      · rw [if_neg h]; exact ⟨i, _, rfl, by omega, hi, fun s _ h => absurd (by unfold rlo; omega) h⟩
    | 3, _ =>
      obtain ⟨j, q, a, b, c, d⟩ := go 1 4 o (by omega) (by omega) (by unfold rlo; omega) (by decide)
      exact ⟨j, q, a, b, c, fun s h _ => d s h⟩
    | 4, _ =>
      rw [rd]
      by_cases h : tk i = 6 ∨ tk i = 7
      · rw [if_pos h]
        obtain ⟨j, q, a, b, c⟩ := lp 1 4 [sgo (tk i)] (by omega) (by omega) (by omega)
        exact ⟨j, q, a, b, c, fun s _ h => absurd (by unfold rlo; omega) h⟩
      · rw [if_neg h]; exact ⟨i, _, rfl, by omega, hi, fun s _ h => absurd (by unfold rlo; omega) h⟩
    | 5, _ =>
      rw [rd]
      by_cases h : tk i = 16
      · rw [if_pos h]
        by_cases ho : o < 5
        · rw [if_pos ho]
          obtain ⟨j, q, e1, e2, e3, e4⟩ := ih 5 (i + 1) (o + 1) (by omega) (lt (by omega)) (by have := lt (by omega); omega)
          exact ⟨j, _, rAdd_ok e1, by omega, e3, fun _ _ _ => by omega⟩
        · rw [if_neg ho]; exact ⟨i, none, rfl, by omega, hi, fun s h => by cases h⟩
      · rw [if_neg h]
        obtain ⟨j, q, e1, e2, e3, e4⟩ := ih 3 i o (by omega) hi (by unfold rlv at hf ⊢; simp at hf ⊢; omega)
        cases q with
        | none => exact ⟨j, none, rThen_no e1, e2, e3, fun s h => by cases h⟩
        | some s =>
          have l1 := e4 s rfl (by unfold rlo; omega)
          by_cases h9 : tk j = 9 ∨ tk j = 10
          · have : j + 1 ≤ M := by
              rcases Nat.lt_or_ge j M with e | e
              · omega
              · rw [show j = M by omega, hM] at h9; omega
            obtain ⟨l, q2, g1, g2, g3, -⟩ := ih 3 (j + 1) o (by omega) this (by unfold rlv at hf ⊢; simp at hf ⊢; omega)
            exact ⟨l, _, rThen_ok e1 (by rw [if_pos h9]; exact rAdd_ok g1), by omega, g3, fun _ _ _ => by omega⟩
          · exact ⟨j, _, rThen_ok e1 (by rw [if_neg h9]), by omega, e3, fun _ _ _ => by omega⟩
    | 6, _ =>
      obtain ⟨j, q, a, b, c, d⟩ := go 5 7 o (by omega) (by omega) (by unfold rlo; omega) (by decide)
      exact ⟨j, q, a, b, c, fun s h _ => d s h⟩
    | 7, _ =>
      rw [rd]
      by_cases h : tk i = 15
      · rw [if_pos h]
        obtain ⟨j, q, a, b, c⟩ := lp 5 7 [12] (by omega) (by omega) (by omega)
        exact ⟨j, q, a, b, c, fun s _ h => absurd (by unfold rlo; omega) h⟩
      · rw [if_neg h]; exact ⟨i, _, rfl, by omega, hi, fun s _ h => absurd (by unfold rlo; omega) h⟩
    | 8, _ =>
      obtain ⟨j, q, a, b, c, d⟩ := go 6 9 o (by omega) (by omega) (by unfold rlo; omega) (by decide)
      exact ⟨j, q, a, b, c, fun s h _ => d s h⟩
    | 9, _ =>
      rw [rd]
      by_cases h : tk i = 14
      · rw [if_pos h]
        obtain ⟨j, q, a, b, c⟩ := lp 6 9 [11] (by omega) (by omega) (by omega)
        exact ⟨j, q, a, b, c, fun s _ h => absurd (by unfold rlo; omega) h⟩
      · rw [if_neg h]; exact ⟨i, _, rfl, by omega, hi, fun s _ h => absurd (by unfold rlo; omega) h⟩
