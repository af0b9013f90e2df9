/-! THE STEPS OF A TEXT MEAN THE SAME -/
theorem op_r {c d : Nat} (h : okc c d) : OpR (cs c) (zi c) d (std c d) := by
  rcases h with ⟨h | ⟨h, h2⟩, hd⟩ | ⟨h, h1, hd⟩ | ⟨h, h1, hd⟩
  · refine Or.inr (Or.inl ⟨c, h, ?_, rfl, ?_, hd⟩)
    · unfold cs; rw [if_neg (by omega), if_pos h]
    · unfold std; rw [if_pos (by omega)]
  · refine Or.inl ⟨c - 100000, by omega, ?_, congrArg zi (by omega), ?_, hd⟩
    · unfold cs; rw [if_pos h]
    · unfold std; rw [if_pos (by omega)]
  · rcases h with rfl | rfl
    · exact Or.inr (Or.inr (Or.inl ⟨by decide, rfl, rfl, h1, hd⟩))
    · exact Or.inr (Or.inr (Or.inr (Or.inl ⟨by decide, rfl, rfl, h1, hd⟩)))
  · refine Or.inr (Or.inr (Or.inr (Or.inr ⟨?_, ?_, ?_, hd⟩)))
    · rcases h with rfl | rfl | rfl | rfl | rfl | rfl | rfl
      · exact Or.inl ⟨by decide, rfl⟩
      · exact Or.inr (Or.inl ⟨by decide, rfl⟩)
      · exact Or.inr (Or.inr (Or.inl ⟨by decide, rfl⟩))
      · exact Or.inr (Or.inr (Or.inr (Or.inl ⟨by decide, rfl⟩)))
      · exact Or.inr (Or.inr (Or.inr (Or.inr (Or.inl ⟨by decide, rfl⟩))))
      · exact Or.inr (Or.inr (Or.inr (Or.inr (Or.inr (Or.inl ⟨by decide, rfl⟩)))))
      · exact Or.inr (Or.inr (Or.inr (Or.inr (Or.inr (Or.inr ⟨by decide, rfl⟩)))))
    · unfold std; rw [if_neg (by omega), if_neg (by omega)]; omega
    · unfold std; rw [if_neg (by omega), if_neg (by omega)]; omega
theorem op_at : ∀ (s : List Nat) (d k : Nat), okD s d → k < s.length → OpR (cs (s.getD k 0)) (zi (s.getD k 0)) (rnD (s.take k) d) (rnD (s.take (k + 1)) d) := by
  intro s
  induction s with
  | nil => intro d k _ h; exact absurd h (Nat.not_lt_zero _)
  | cons c s ih =>
    intro d k h hk
    cases k with
    | zero => exact op_r h.1
    | succ k => exact ih (std c d) k h.2 (Nat.lt_of_succ_lt_succ hk)
