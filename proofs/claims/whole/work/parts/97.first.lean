/-! THE FIRST TEXT -/
theorem EndAt.uni {b : Nat → Int32} {n M N : Nat} (h : EndAt b n M) (h2 : EndAt b n N) : M = N := by
  rcases Nat.lt_trichotomy M N with e | e | e
  · exact absurd h.1 (h2.2 M e)
  · exact e
  · exact absurd h2.1 (h.2 N e)
def b0 (k : Nat) : Int32 := (zTb 0).getD k 0
theorem b0_end : EndAt b0 54 15 := ⟨by decide +kernel, by decide +kernel⟩
theorem b0_txr : (txr (TK b0 54) (NM b0 54) 15 3 0 0 []).map (fun ss => ss.flatten.length) = some 9 := by decide +kernel
theorem b0_len : (zTb 0).length = 54 := by decide +kernel
