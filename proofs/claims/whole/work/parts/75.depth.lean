/-! HOW MANY WAIT: no more than 31 -/
def okc (c d : Nat) : Prop := ((c < 6 ∨ (100000 ≤ c ∧ c < 110000)) ∧ d < 31) ∨ ((c = 13 ∨ c = 19) ∧ 1 ≤ d ∧ d ≤ 31) ∨ ((c = 11 ∨ c = 12 ∨ c = 14 ∨ c = 15 ∨ c = 16 ∨ c = 17 ∨ c = 18) ∧ 2 ≤ d ∧ d ≤ 31)
def std (c d : Nat) : Nat := if c < 6 ∨ 100000 ≤ c then d + 1 else if c = 13 ∨ c = 19 then d else d - 1
def rnD : List Nat → Nat → Nat
  | [], d => d
  | c :: s, d => rnD s (std c d)
def okD : List Nat → Nat → Prop
  | [], _ => True
  | c :: s, d => okc c d ∧ okD s (std c d)
theorem rnD_app : ∀ (s t : List Nat) (d : Nat), rnD (s ++ t) d = rnD t (rnD s d) := by
  intro s
  induction s with
  | nil => intro t d; rfl
  | cons c s ih => intro t d; exact ih t _
theorem okD_app : ∀ (s t : List Nat) (d : Nat), okD s d → okD t (rnD s d) → okD (s ++ t) d := by
  intro s
  induction s with
  | nil => intro t d _ h; exact h
  | cons c s ih => intro t d h h2; exact ⟨h.1, ih t _ h.2 h2⟩
def exx (K : Nat) : Nat := if K = 0 then 0 else if K ≤ 2 then 1 else if K ≤ 4 then 2 else if K = 5 then 3 else if K ≤ 7 then 4 else 5
/-- what is read of a thing puts one number more; of a loop, none more -/
def GD (K i o j : Nat) (s : List Nat) : Prop := s.length + i ≤ j ∧ ∀ d, d + (1 + 5 * (5 - o) + exx K) ≤ 31 → (¬ isL K → okD s d ∧ rnD s d = d + 1) ∧ (isL K → okD s (d + 1) ∧ rnD s (d + 1) = d + 1)
theorem two_ok {s t : List Nat} {g d : Nat} (hg : g = 11 ∨ g = 12 ∨ g = 14 ∨ g = 15 ∨ g = 16 ∨ g = 17 ∨ g = 18) (h2 : okD t (d + 1) ∧ rnD t (d + 1) = d + 2) (hd : d + 2 ≤ 31) : okD (t ++ [g]) (d + 1) ∧ rnD (t ++ [g]) (d + 1) = d + 1 := by
  have e : std g (d + 2) = d + 1 := by unfold std; rw [if_neg (by omega), if_neg (by omega)]; omega
  refine ⟨okD_app _ _ _ h2.1 ?_, ?_⟩
  · rw [h2.2]; exact ⟨Or.inr (Or.inr ⟨hg, by omega, hd⟩), trivial⟩
  · rw [rnD_app, h2.2]; exact e
theorem one_ok {s : List Nat} {g d : Nat} (hg : g = 13 ∨ g = 19) (h : okD s d ∧ rnD s d = d + 1) (hd : d + 1 ≤ 31) : okD (s ++ [g]) d ∧ rnD (s ++ [g]) d = d + 1 := by
  have e : std g (d + 1) = d + 1 := by unfold std; rw [if_neg (by omega), if_pos hg]
  refine ⟨okD_app _ _ _ h.1 ?_, ?_⟩
  · rw [h.2]; exact ⟨Or.inr (Or.inl ⟨hg, by omega, hd⟩), trivial⟩
  · rw [rnD_app, h.2]; exact e
section
variable {tk nm : Nat → Nat}
theorem gd_all (hn : ∀ i, tk i = 2 → nm i < 10000) : ∀ f K i o j s, rd tk nm f K i o = some (j, some s) → o ≤ 5 → GD K i o j s := by
  intro f
  induction f with
  | zero => intro K i o j s h; cases h
  | succ f ih =>
    have then_ : ∀ K a b i o j s, ((K = 1 ∧ a = 0 ∧ b = 2) ∨ (K = 3 ∧ a = 1 ∧ b = 4) ∨ (K = 6 ∧ a = 5 ∧ b = 7) ∨ (K = 8 ∧ a = 6 ∧ b = 9)) → rThen (rd tk nm f a i o) (fun j => rd tk nm f b j o) = some (j, some s) → o ≤ 5 → GD K i o j s := by
      intro K a b i o j s hK h ho
      have nla : ¬ isL a := by unfold isL; omega
      have nlK : ¬ isL K := by unfold isL; omega
      have lb : isL b := by unfold isL; omega
      have ea : exx a ≤ exx K := by rcases hK with ⟨rfl, rfl, rfl⟩ | ⟨rfl, rfl, rfl⟩ | ⟨rfl, rfl, rfl⟩ | ⟨rfl, rfl, rfl⟩ <;> decide
      have eb : exx b = exx K := by rcases hK with ⟨rfl, rfl, rfl⟩ | ⟨rfl, rfl, rfl⟩ | ⟨rfl, rfl, rfl⟩ | ⟨rfl, rfl, rfl⟩ <;> decide
      rcases rThen_inv h with ⟨-, h2⟩ | ⟨j1, s1, q', e1, e2, e3⟩
      · cases h2
      · cases q' with
        | none => cases e3
        | some s2 =>
          cases e3
          obtain ⟨l1, p1⟩ := ih _ _ _ _ _ e1 ho
          obtain ⟨l2, p2⟩ := ih _ _ _ _ _ e2 ho
          refine ⟨by rw [List.length_append]; omega, fun d hd => ⟨fun _ => ?_, fun h => absurd h nlK⟩⟩
          obtain ⟨o1, r1⟩ := (p1 d (by omega)).1 nla
          obtain ⟨o2, r2⟩ := (p2 d (by omega)).2 lb
          exact ⟨okD_app _ _ _ o1 (by rw [r1]; exact o2), by rw [rnD_app, r1]; exact r2⟩
    have loop_ : ∀ K a g i o j s, ((K = 2 ∧ a = 0 ∧ g = 18) ∨ (K = 4 ∧ a = 1 ∧ (g = 16 ∨ g = 17)) ∨ (K = 7 ∧ a = 5 ∧ g = 12) ∨ (K = 9 ∧ a = 6 ∧ g = 11)) → rThen (rAdd (rd tk nm f a (i + 1) o) [g]) (fun j => rd tk nm f K j o) = some (j, some s) → o ≤ 5 → GD K i o j s := by
      intro K a g i o j s hK h ho
      have nla : ¬ isL a := by unfold isL; omega
      have lK : isL K := by unfold isL; omega
      have ea : exx a + 1 = exx K := by rcases hK with ⟨rfl, rfl, -⟩ | ⟨rfl, rfl, -⟩ | ⟨rfl, rfl, -⟩ | ⟨rfl, rfl, -⟩ <;> decide
      have hg : g = 11 ∨ g = 12 ∨ g = 14 ∨ g = 15 ∨ g = 16 ∨ g = 17 ∨ g = 18 := by omega
      rcases rThen_inv h with ⟨-, h2⟩ | ⟨j1, s0, q', e1, e2, e3⟩
      · cases h2
      · obtain ⟨q1, e4, e5⟩ := rAdd_inv e1
        cases q1 with
        | none => cases e5
        | some s1 =>
        cases e5
        cases q' with
        | none => cases e3
        | some s2 =>
          cases e3
          obtain ⟨l1, p1⟩ := ih _ _ _ _ _ e4 ho
          obtain ⟨l2, p2⟩ := ih _ _ _ _ _ e2 ho
          refine ⟨by simp only [List.length_append, List.length_cons, List.length_nil]; omega, fun d hd => ⟨fun h => absurd lK h, fun _ => ?_⟩⟩
          obtain ⟨o1, r1⟩ := two_ok (s := s1) hg ((p1 (d + 1) (by omega)).1 nla) (by omega)
          obtain ⟨o2, r2⟩ := (p2 d (by omega)).2 lK
          exact ⟨okD_app _ _ _ o1 (by rw [r1]; exact o2), by rw [rnD_app, r1]; exact r2⟩
    have stop_ : ∀ K i o, isL K → GD K i o i [] := fun K i o lK => ⟨by simp, fun d _ => ⟨fun h => absurd lK h, fun _ => ⟨trivial, rfl⟩⟩⟩
    intro K i o j s h ho
    match K, h with
    | 0, h =>
      have nl : ¬ isL 0 := by unfold isL; omega
      have push : ∀ c, (c < 6 ∨ (100000 ≤ c ∧ c < 110000)) → GD 0 i o (i + 1) [c] := fun c hc => ⟨by simp only [List.length_cons, List.length_nil]; omega, fun d hd => ⟨fun _ => ⟨⟨Or.inl ⟨hc, by omega⟩, trivial⟩, by show std c d = d + 1; unfold std; rw [if_pos (by omega)]⟩, fun h => absurd h nl⟩⟩
      rw [rd] at h
      by_cases h1 : tk i = 2
      · rw [if_pos h1] at h; cases h; exact push _ (Or.inr ⟨by omega, by have := hn i h1; omega⟩)
      rw [if_neg h1] at h
      by_cases h2 : 17 ≤ tk i ∧ tk i ≤ 22
      · rw [if_pos h2] at h; cases h; exact push _ (Or.inl (by omega))
      rw [if_neg h2] at h
      by_cases h3 : tk i = 7
      · rw [if_pos h3] at h
        by_cases h5 : o < 5
        · rw [if_pos h5] at h
          obtain ⟨q1, e3, e4⟩ := rAdd_inv h
          cases q1 with
          | none => cases e4
          | some s1 =>
            cases e4
            obtain ⟨l1, p1⟩ := ih _ _ _ _ _ e3 (by omega)
            exact ⟨by simp only [List.length_append, List.length_cons, List.length_nil]; omega, fun d hd => ⟨fun _ => one_ok (Or.inr rfl) ((p1 d (by omega)).1 nl) (by omega), fun h => absurd h nl⟩⟩
        · rw [if_neg h5] at h; cases h
      rw [if_neg h3] at h
      by_cases h4 : tk i = 3
      · rw [if_pos h4] at h
        by_cases h5 : o < 5
        · rw [if_pos h5] at h
          match e3 : rd tk nm f 8 (i + 1) (o + 1), h with
          | some (j1, none), h => cases h
          | none, h => cases h
          | some (j1, some s1), h =>
            dsimp only at h
            by_cases h6 : tk j1 = 4
            · rw [if_pos h6] at h
              cases h
              obtain ⟨l1, p1⟩ := ih _ _ _ _ _ e3 (by omega)
              have e0 : exx 0 = 0 := rfl
              have e8 : exx 8 = 5 := rfl
              exact ⟨by omega, fun d hd => ⟨fun _ => (p1 d (by omega)).1 (by unfold isL; omega), fun h => absurd h nl⟩⟩
            · rw [if_neg h6] at h; cases h
        · rw [if_neg h5] at h; cases h
      rw [if_neg h4] at h; cases h
    | 1, h => exact then_ 1 0 2 _ _ _ _ (Or.inl ⟨rfl, rfl, rfl⟩) h ho
    | 2, h =>
      rw [rd] at h
      by_cases h1 : tk i = 8
      · rw [if_pos h1] at h; exact loop_ 2 0 18 _ _ _ _ (Or.inl ⟨rfl, rfl, rfl⟩) h ho
      · rw [if_neg h1] at h; cases h; exact stop_ _ _ _ (by unfold isL; omega)
    | 3, h => exact then_ 3 1 4 _ _ _ _ (Or.inr (Or.inl ⟨rfl, rfl, rfl⟩)) h ho
    | 4, h =>
      rw [rd] at h
      by_cases h1 : tk i = 6 ∨ tk i = 7
      · rw [if_pos h1] at h
        exact loop_ 4 1 _ _ _ _ _ (Or.inr (Or.inl ⟨rfl, rfl, by rcases h1 with e | e <;> rw [e] <;> decide⟩)) h ho
      · rw [if_neg h1] at h; cases h; exact stop_ _ _ _ (by unfold isL; omega)
    | 5, h =>
      have nl : ¬ isL 5 := by unfold isL; omega
      have nl3 : ¬ isL 3 := by unfold isL; omega
      have e5 : exx 5 = 3 := rfl
      have e33 : exx 3 = 2 := rfl
      rw [rd] at h
      by_cases h1 : tk i = 16
      · rw [if_pos h1] at h
        by_cases h5 : o < 5
        · rw [if_pos h5] at h
          obtain ⟨q1, e3, e4⟩ := rAdd_inv h
          cases q1 with
          | none => cases e4
          | some s1 =>
            cases e4
            obtain ⟨l1, p1⟩ := ih _ _ _ _ _ e3 (by omega)
            exact ⟨by simp only [List.length_append, List.length_cons, List.length_nil]; omega, fun d hd => ⟨fun _ => one_ok (Or.inl rfl) ((p1 d (by omega)).1 nl) (by omega), fun h => absurd h nl⟩⟩
        · rw [if_neg h5] at h; cases h
      rw [if_neg h1] at h
      rcases rThen_inv h with ⟨-, h2⟩ | ⟨j1, s1, q', e1, e2, e3⟩
      · cases h2
      · cases q' with
        | none => cases e3
        | some s2 =>
          cases e3
          obtain ⟨l1, p1⟩ := ih _ _ _ _ _ e1 ho
          by_cases h9 : tk j1 = 9 ∨ tk j1 = 10
          · rw [if_pos h9] at e2
            obtain ⟨q2, e4, e5'⟩ := rAdd_inv e2
            cases q2 with
            | none => cases e5'
            | some s3 =>
              cases e5'
              obtain ⟨l2, p2⟩ := ih _ _ _ _ _ e4 ho
              refine ⟨by simp only [List.length_append, List.length_cons, List.length_nil]; omega, fun d hd => ⟨fun _ => ?_, fun h => absurd h nl⟩⟩
              obtain ⟨o1, r1⟩ := (p1 d (by omega)).1 nl3
              obtain ⟨o2, r2⟩ := two_ok (s := s3) (g := sgo (tk j1)) (by rcases h9 with e | e <;> rw [e] <;> decide) ((p2 (d + 1) (by omega)).1 nl3) (by omega)
              exact ⟨okD_app _ _ _ o1 (by rw [r1]; exact o2), by rw [rnD_app, r1]; exact r2⟩
          · rw [if_neg h9] at e2
            cases e2
            refine ⟨by simp only [List.length_append, List.length_nil]; omega, fun d hd => ⟨fun _ => ?_, fun h => absurd h nl⟩⟩
            have := (p1 d (by omega)).1 nl3
            simpa only [List.append_nil] using this
    | 6, h => exact then_ 6 5 7 _ _ _ _ (Or.inr (Or.inr (Or.inl ⟨rfl, rfl, rfl⟩))) h ho
    | 7, h =>
      rw [rd] at h
      by_cases h1 : tk i = 15
      · rw [if_pos h1] at h; exact loop_ 7 5 12 _ _ _ _ (Or.inr (Or.inr (Or.inl ⟨rfl, rfl, rfl⟩))) h ho
      · rw [if_neg h1] at h; cases h; exact stop_ _ _ _ (by unfold isL; omega)
    | 8, h => exact then_ 8 6 9 _ _ _ _ (Or.inr (Or.inr (Or.inr ⟨rfl, rfl, rfl⟩))) h ho
    | 9, h =>
      rw [rd] at h
      by_cases h1 : tk i = 14
      · rw [if_pos h1] at h; exact loop_ 9 6 11 _ _ _ _ (Or.inr (Or.inr (Or.inr ⟨rfl, rfl, rfl⟩))) h ho
      · rw [if_neg h1] at h; cases h; exact stop_ _ _ _ (by unfold isL; omega)
    | K + 10, h => cases h
end
