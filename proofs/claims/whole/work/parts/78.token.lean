/-! TOKENS, PURELY -/
def bl (v : Int32) : Bool := decide (v = 32 ∨ v = 10)
def lt_ (v : Int32) : Bool := decide (¬ v < 97 ∧ ¬ 122 < v)
def di (v : Int32) : Bool := decide (¬ v < 48 ∧ ¬ 57 < v)
def run (P : Nat → Bool) : Nat → Nat → Nat
  | 0, i => i
  | m + 1, i => if P i = true then run P m (i + 1) else i
theorem run_ge (P : Nat → Bool) : ∀ m i, i ≤ run P m i ∧ run P m i ≤ i + m := by
  intro m
  induction m with
  | zero => intro i; exact ⟨Nat.le_refl _, Nat.le_refl _⟩
  | succ m ih =>
    intro i
    rw [run]
    split
    · have := ih (i + 1); omega
    · omega
theorem run_in (P : Nat → Bool) : ∀ m i k, i ≤ k → k < run P m i → P k = true := by
  intro m
  induction m with
  | zero => intro i k h1 h2; exact absurd h2 (by rw [run]; omega)
  | succ m ih =>
    intro i k h1 h2
    rw [run] at h2
    split at h2
    · by_cases e : k = i
      · subst e; assumption
      · exact ih (i + 1) k (by omega) h2
    · omega
theorem run_st (P : Nat → Bool) : ∀ m i, run P m i = i + m ∨ P (run P m i) = false := by
  intro m
  induction m with
  | zero => intro i; exact Or.inl rfl
  | succ m ih =>
    intro i
    rw [run]
    split
    · rcases ih (i + 1) with h | h
      · exact Or.inl (by omega)
      · exact Or.inr h
    · rename_i h
      exact Or.inr (by simpa using h)
theorem run_cong {P Q : Nat → Bool} : ∀ m i, (∀ k, i ≤ k → k < i + m → P k = Q k) → run P m i = run Q m i := by
  intro m
  induction m with
  | zero => intro i _; rfl
  | succ m ih =>
    intro i h
    rw [run, run, h i (Nat.le_refl _) (by omega), ih (i + 1) (fun k h1 h2 => h k (by omega) (by omega))]
def spB (b : Nat → Int32) (p L j : Nat) : Bool := decide (L = (zTb j).length ∧ ∀ c, c < L → b (p + c) = (zTb j).getD c 0)
def wjf (b : Nat → Int32) (p L : Nat) : Nat → Nat
  | 0 => 0
  | m + 1 => if spB b p L (12 - m) = true then 12 - m else wjf b p L m
def wj (b : Nat → Int32) (p L : Nat) : Nat := wjf b p L 12
def sgT (v : Int32) : Nat := if v = 40 then 3 else if v = 41 then 4 else if v = 59 then 5 else if v = 43 then 6 else if v = 45 then 7 else if v = 42 then 8 else if v = 60 then 9 else if v = 61 then 10 else 1
def dval (b : Nat → Int32) (p : Nat) : Nat → Nat
  | 0 => 0
  | k + 1 => dval b p k * 10 + ((b (p + k)).toNatClampNeg - 48)
/-- the token that is read from place i on: where it stands, where it ends, which, its number -/
def tkp (b : Nat → Int32) (n i : Nat) : Nat := run (fun k => bl (b k)) (n - i) i
def tke (b : Nat → Int32) (n i : Nat) : Nat := if n ≤ tkp b n i then tkp b n i else if lt_ (b (tkp b n i)) = true then run (fun k => lt_ (b k)) (n - tkp b n i) (tkp b n i) else if di (b (tkp b n i)) = true then run (fun k => di (b k)) (n - tkp b n i) (tkp b n i) else tkp b n i + 1
def tkt (b : Nat → Int32) (n i : Nat) : Nat := if n ≤ tkp b n i then 0 else if lt_ (b (tkp b n i)) = true then (if wj b (tkp b n i) (tke b n i - tkp b n i) = 0 then 1 else wj b (tkp b n i) (tke b n i - tkp b n i) + 10) else if di (b (tkp b n i)) = true then (if tke b n i - tkp b n i ≤ 4 then 2 else 1) else sgT (b (tkp b n i))
def tkv (b : Nat → Int32) (n i : Nat) : Nat := dval b (tkp b n i) (tke b n i - tkp b n i)
theorem tkp_le {b : Nat → Int32} {n i : Nat} (h : i ≤ n) : i ≤ tkp b n i ∧ tkp b n i ≤ n := by
  have := run_ge (fun k => bl (b k)) (n - i) i
  unfold tkp; omega
theorem tke_le {b : Nat → Int32} {n i : Nat} (h : i ≤ n) : tkp b n i ≤ tke b n i ∧ tke b n i ≤ n ∧ (tkt b n i ≠ 0 → i < tke b n i) := by
  have h1 := tkp_le (b := b) h
  by_cases hn : n ≤ tkp b n i
  · have e : tke b n i = tkp b n i := if_pos hn
    rw [e]
    exact ⟨Nat.le_refl _, h1.2, fun h0 => absurd (if_pos hn) h0⟩
  · have e : tke b n i = if lt_ (b (tkp b n i)) = true then run (fun k => lt_ (b k)) (n - tkp b n i) (tkp b n i) else if di (b (tkp b n i)) = true then run (fun k => di (b k)) (n - tkp b n i) (tkp b n i) else tkp b n i + 1 := if_neg hn
    obtain ⟨m, hm⟩ : ∃ m, n - tkp b n i = m + 1 := ⟨n - tkp b n i - 1, by omega⟩
    rw [e, hm]
    by_cases hl : lt_ (b (tkp b n i)) = true
    · rw [if_pos hl, run, if_pos hl]
      have := run_ge (fun k => lt_ (b k)) m (tkp b n i + 1)
      exact ⟨by omega, by omega, fun _ => by omega⟩
    · rw [if_neg hl]
      by_cases hd : di (b (tkp b n i)) = true
      · rw [if_pos hd, run, if_pos hd]
        have := run_ge (fun k => di (b k)) m (tkp b n i + 1)
        exact ⟨by omega, by omega, fun _ => by omega⟩
      · rw [if_neg hd]; exact ⟨by omega, by omega, fun _ => by omega⟩
theorem di_v {v : Int32} (h : di v = true) : 48 ≤ v.toNatClampNeg ∧ v.toNatClampNeg ≤ 57 ∧ v = zi v.toNatClampNeg := by
  have h := of_decide_eq_true h
  have q1 := z_lq.1 (Int32.not_lt.1 h.1)
  have q2 := z_lq.1 (Int32.not_lt.1 h.2)
  have q1 : 48 ≤ v.toInt := q1
  have q2 : v.toInt ≤ 57 := q2
  have t : v.toNatClampNeg = v.toInt.toNat := rfl
  exact ⟨by omega, by omega, zi_of (by omega)⟩
theorem dval_lt {b : Nat → Int32} {p : Nat} : ∀ k, (∀ c, c < k → di (b (p + c)) = true) → dval b p k < 10 ^ k := by
  intro k
  induction k with
  | zero => intro _; show 0 < 1; omega
  | succ k ih =>
    intro h
    have h1 := ih (fun c hc => h c (by omega))
    obtain ⟨a, c, -⟩ := di_v (h k (by omega))
    rw [dval, Nat.pow_succ]; omega
theorem tkv_lt {b : Nat → Int32} {n i : Nat} (h : tkt b n i = 2) : tkv b n i < 10000 := by
  unfold tkt at h
  by_cases hn : n ≤ tkp b n i
  · rw [if_pos hn] at h; cases h
  rw [if_neg hn] at h
  by_cases hl : lt_ (b (tkp b n i)) = true
  · rw [if_pos hl] at h
    split at h <;> omega
  rw [if_neg hl] at h
  by_cases hd : di (b (tkp b n i)) = true
  · rw [if_pos hd] at h
    split at h
    · have e : tke b n i = run (fun k => di (b k)) (n - tkp b n i) (tkp b n i) := by unfold tke; rw [if_neg hn, if_neg hl, if_pos hd]
      have h1 := dval_lt (b := b) (p := tkp b n i) (tke b n i - tkp b n i) (fun c hc => run_in (fun k => di (b k)) (n - tkp b n i) (tkp b n i) (tkp b n i + c) (by omega) (by rw [← e]; omega))
      have h2 : 10 ^ (tke b n i - tkp b n i) ≤ 10 ^ 4 := Nat.pow_le_pow_right (by omega) (by assumption)
      unfold tkv; omega
    · cases h
  · rw [if_neg hd] at h
    exfalso
    unfold sgT at h
    repeat' split at h
    all_goals omega
theorem wj_le (b : Nat → Int32) (p L : Nat) : ∀ m, m ≤ 12 → wjf b p L m ≤ 12 := by
  intro m
  induction m with
  | zero => intro _; exact Nat.zero_le _
  | succ m ih =>
    intro h
    rw [wjf]
    split
    · omega
    · exact ih (by omega)
theorem zTb_ne : ∀ j, j < 13 → ∀ j', j' < 13 → zTb j = zTb j' → j = j' := by decide +kernel
theorem spB_one {b : Nat → Int32} {p L j j' : Nat} (h : j < 13) (h' : j' < 13) (e : spB b p L j = true) (e' : spB b p L j' = true) : j = j' := by
  obtain ⟨a1, a2⟩ := of_decide_eq_true e
  obtain ⟨b1, b2⟩ := of_decide_eq_true e'
  refine zTb_ne j h j' h' (List.ext_getElem (by omega) fun i h1 h2 => ?_)
  have := (a2 i (by omega)).symm.trans (b2 i (by omega))
  rw [← List.getElem_eq_getD (h := h1) 0, ← List.getElem_eq_getD (h := h2) 0] at this
  exact this
theorem wjf_sp {b : Nat → Int32} {p L : Nat} : ∀ m, m ≤ 12 → (wjf b p L m ≠ 0 → spB b p L (wjf b p L m) = true) ∧ (wjf b p L m = 0 → ∀ j, 12 - m < j → j ≤ 12 → spB b p L j = false) := by
  intro m
  induction m with
  | zero => intro _; exact ⟨fun h => absurd rfl h, fun _ j h1 h2 => absurd h2 (by omega)⟩
  | succ m ih =>
    intro hm
    obtain ⟨i1, i2⟩ := ih (by omega)
    rw [wjf]
    by_cases h : spB b p L (12 - m) = true
    · rw [if_pos h]
      exact ⟨fun _ => h, fun e => absurd e (by omega)⟩
    · rw [if_neg h]
      refine ⟨i1, fun e j h1 h2 => ?_⟩
      by_cases q : j = 12 - m
      · subst q; simpa using h
      · exact i2 e j (by omega) h2
