/-! THE STEPS OF A TEXT MEAN THE SAME -/
theorem op_r {c d : Nat} (h : okc c d) : OpR (cs c) (zi c) d (std c d) := by
  rcases h with ⟨h | ⟨h, h2⟩, hd⟩ | ⟨h, h1, hd⟩ | ⟨h, h1, hd⟩
  · refine Or.inr (Or.inl ⟨c, h, ?_, rfl, ?_, hd⟩)
    · unfold cs; rw [if_neg (by omega), if_pos h]
    · unfold std; rw [if_pos (by omega)]
  · refine Or.inl ⟨c - 100000, by omega, ?_, congrArg zi (by omega), ?_, hd⟩
    · unfold cs; rw [if_pos h]
    · unfold std; rw [if_pos (by omega)]
  · rcases h with rfl | rfl
    · exact Or.inr (Or.inr (Or.inl ⟨by decide, rfl, rfl, h1, hd⟩))
    · exact Or.inr (Or.inr (Or.inr (Or.inl ⟨by decide, rfl, rfl, h1, hd⟩)))
  · refine Or.inr (Or.inr (Or.inr (Or.inr ⟨?_, ?_, ?_, hd⟩)))
    · rcases h with rfl | rfl | rfl | rfl | rfl | rfl | rfl
      · exact Or.inl ⟨by decide, rfl⟩
      · exact Or.inr (Or.inl ⟨by decide, rfl⟩)
      · exact Or.inr (Or.inr (Or.inl ⟨by decide, rfl⟩))
      · exact Or.inr (Or.inr (Or.inr (Or.inl ⟨by decide, rfl⟩)))
      · exact Or.inr (Or.inr (Or.inr (Or.inr (Or.inl ⟨by decide, rfl⟩))))
      · exact Or.inr (Or.inr (Or.inr (Or.inr (Or.inr (Or.inl ⟨by decide, rfl⟩)))))
      · exact Or.inr (Or.inr (Or.inr (Or.inr (Or.inr (Or.inr ⟨by decide, rfl⟩)))))
    · unfold std; rw [if_neg (by omega), if_neg (by omega)]; omega
    · unfold std; rw [if_neg (by omega), if_neg (by omega)]; omega
theorem op_at : ∀ (s : List Nat) (d k : Nat), okD s d → k < s.length → OpR (cs (s.getD k 0)) (zi (s.getD k 0)) (rnD (s.take k) d) (rnD (s.take (k + 1)) d) := by
  intro s
  induction s with
  | nil => intro d k _ h; exact absurd h (Nat.not_lt_zero _)
  | cons c s ih =>
    intro d k h hk
    cases k with
    | zero => exact op_r h.1
    | succ k => exact ih (std c d) k h.2 (Nat.lt_of_succ_lt_succ hk)
theorem gl_ {x y : List Nat} {r : Nat} (h : r < x.length) : (x ++ y).getD r 0 = x.getD r 0 := by
  rw [List.getD_eq_getElem?_getD, List.getD_eq_getElem?_getD, List.getElem?_append_left h]
theorem gr_ {x y : List Nat} {r : Nat} : (x ++ y).getD (x.length + r) 0 = y.getD r 0 := by
  rw [List.getD_eq_getElem?_getD, List.getD_eq_getElem?_getD, List.getElem?_append_right (by omega), Nat.add_sub_cancel_left]
theorem tr_new {G : zG} {I J : zI} {w m : Nat} {ss : List (List Nat)} (hL : LW G w) (hm : m < 6) (hl : zl G (w + 1) = ss.flatten.length) (h3 : ss.length = 3) (hok : ∀ t, t ∈ ss → okD t 0 ∧ rnD t 0 = 1) (h160 : ss.flatten.length ≤ 160)
    (hw1 : ∀ k, k < ss.flatten.length → I (w + 1) k = cs (ss.flatten.getD k 0)) (hw2 : ∀ k, k < 4 → I (w + 2) k = zi (stp ss k) ∧ J 63 (4 * m + k) = zi (stp ss k)) (hc : ∀ k, k < ss.flatten.length → J 62 (200 * m + k) = zi (ss.flatten.getD k 0)) : TR G I J w m := by
  match ss, h3 with
  | [a, b, c], _ =>
    have e : [a, b, c].flatten = a ++ (b ++ c) := by simp
    have s0 : stp [a, b, c] 0 = 0 := rfl
    have s1 : stp [a, b, c] 1 = a.length := by simp [stp]
    have s2 : stp [a, b, c] 2 = a.length + b.length := by simp [stp]
    have s3 : stp [a, b, c] 3 = a.length + b.length + c.length := by simp [stp]; omega
    have len : [a, b, c].flatten.length = a.length + b.length + c.length := by rw [e, List.length_append, List.length_append]; omega
    have part : ∀ (t : List Nat) (st : Nat), okD t 0 ∧ rnD t 0 = 1 → st + t.length ≤ [a, b, c].flatten.length → (∀ r, r < t.length → [a, b, c].flatten.getD (st + r) 0 = t.getD r 0) → rnD (t.take (st - st)) 0 = 0 ∧ rnD (t.take (st + t.length - st)) 0 = 1 ∧ ∀ k, st ≤ k → k < st + t.length → OpR (I (w + 1) k) (J 62 (200 * m + k)) (rnD (t.take (k - st)) 0) (rnD (t.take (k + 1 - st)) 0) := by
      intro t st ht hle hg
      refine ⟨by rw [Nat.sub_self]; rfl, by rw [Nat.add_sub_cancel_left, List.take_length]; exact ht.2, fun k h1 h2 => ?_⟩
      rw [hw1 k (by omega), hc k (by omega), show k = st + (k - st) by omega, hg _ (by omega), show st + (k - st) - st = k - st by omega, show st + (k - st) + 1 - st = k - st + 1 by omega]
      exact op_at t 0 (k - st) ht.1 (by omega)
    have pa := part a 0 (hok a (by simp)) (by omega) (fun r hr => by rw [e, Nat.zero_add]; exact gl_ hr)
    have pb := part b a.length (hok b (by simp)) (by omega) (fun r hr => by rw [e, gr_]; exact gl_ hr)
    have pc := part c (a.length + b.length) (hok c (by simp)) (by omega) (fun r hr => by rw [e, Nat.add_assoc, gr_, gr_])
    rw [Nat.zero_add] at pa
    refine ⟨hL, hm, by omega, stp [a, b, c], fun p k => rnD (([a, b, c].getD p []).take (k - stp [a, b, c] p)) 0, by rw [s3, hl, len]; exact Nat.le_refl _, fun p hp => ?_, hw2, fun p hp => ?_⟩
    · match p, hp with
      | 0, _ => rw [s0]; exact Nat.zero_le _
      | 1, _ => rw [s1, s2]; omega
      | 2, _ => rw [s2, s3]; omega
    · match p, hp with
      | 0, _ => rw [s0, s1]; exact pa
      | 1, _ => rw [s1, s2]; dsimp only; rw [s1]; exact pb
      | 2, _ => rw [s2, s3]; dsimp only; rw [s2]; exact pc
