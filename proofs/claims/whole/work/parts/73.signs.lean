/-! the reference's reading, purely: signs wait, what binds more comes out first -/
def unw (r : Nat) : List Nat → List Nat → List Nat × List Nat
  | [], out => ([], out)
  | h :: H, out => if r ≤ rk h then unw r H (out ++ [h]) else (h :: H, out)
def cntH : List Nat → Nat
  | [] => 0
  | h :: H => (if h = 0 ∨ h = 13 ∨ h = 19 then 1 else 0) + cntH H
def tp : List Nat → Nat
  | [] => 0
  | h :: _ => rk h
def thr (t : Nat) : Nat := if t = 15 then 2 else if t = 9 ∨ t = 10 ∨ t = 6 ∨ t = 7 then 5 else if t = 8 then 6 else 1
def isSg (t : Nat) : Prop := t = 14 ∨ t = 15 ∨ t = 9 ∨ t = 10 ∨ t = 6 ∨ t = 7 ∨ t = 8
def isSgD (t : Nat) : Decidable (isSg t) := by unfold isSg; infer_instance
def sy (tk nm : Nat → Nat) : Nat → Bool → Bool → Nat → List Nat → List Nat → zPR
  | 0, _, _, _, _, _ => none
  | f + 1, true, mn, i, H, out =>
    if tk i = 2 then sy tk nm f false mn (i + 1) (unw 7 H (out ++ [100000 + nm i])).1 (unw 7 H (out ++ [100000 + nm i])).2
    else if 17 ≤ tk i ∧ tk i ≤ 22 then sy tk nm f false mn (i + 1) (unw 7 H (out ++ [tk i - 17])).1 (unw 7 H (out ++ [tk i - 17])).2
    else if tk i = 16 ∧ mn = true then (if cntH H = 5 then some (i, none) else sy tk nm f true mn (i + 1) (13 :: H) out)
    else if tk i = 7 then (if cntH H = 5 then some (i, none) else sy tk nm f true false (i + 1) (19 :: H) out)
    else if tk i = 3 then (if cntH H = 5 then some (i, none) else sy tk nm f true true (i + 1) (0 :: H) out)
    else some (i, none)
  | f + 1, false, mn, i, H, out =>
    if tk i = 5 then (match (unw (thr (tk i)) H out).1 with
      | [] => some (i, some (unw (thr (tk i)) H out).2)
      | _ :: _ => some (i, none))
    else if tk i = 4 then (match (unw (thr (tk i)) H out).1 with
      | [] => some (i, none)
      | _ :: H' => sy tk nm f false mn (i + 1) (unw 7 H' (unw (thr (tk i)) H out).2).1 (unw 7 H' (unw (thr (tk i)) H out).2).2)
    else if tk i = 14 ∨ tk i = 15 ∨ tk i = 9 ∨ tk i = 10 ∨ tk i = 6 ∨ tk i = 7 ∨ tk i = 8 then
      (if (tk i = 9 ∨ tk i = 10) ∧ tp (unw (thr (tk i)) H out).1 = 4 then some (i, none)
      else sy tk nm f true (decide (tk i = 14 ∨ tk i = 15)) (i + 1) (sgo (tk i) :: (unw (thr (tk i)) H out).1) (unw (thr (tk i)) H out).2)
    else some (i, none)
section
variable {tk nm : Nat → Nat}
def Sy (tk nm : Nat → Nat) (w mn : Bool) (i : Nat) (H out : List Nat) (r : Nat × Option (List Nat)) : Prop := ∃ f, sy tk nm f w mn i H out = some r
theorem unw_pop {q h : Nat} {H out : List Nat} (hq : q ≤ rk h) : unw q (h :: H) out = unw q H (out ++ [h]) := if_pos hq
theorem unw_nop {q : Nat} {H out : List Nat} (hq : tp H < q) : unw q H out = (H, out) := by
  cases H with
  | nil => rfl
  | cons h H => exact if_neg (by show ¬ q ≤ rk h; have : rk h < q := hq; omega)
theorem unw_unw {q r : Nat} (hq : q ≤ r) : ∀ H out, unw q (unw r H out).1 (unw r H out).2 = unw q H out := by
  intro H
  induction H with
  | nil => intro out; rfl
  | cons h H ih =>
    intro out
    by_cases e : r ≤ rk h
    · rw [unw_pop e, unw_pop (by omega)]; exact ih _
    · rw [show unw r (h :: H) out = (h :: H, out) from if_neg e]
theorem thr_le (t : Nat) : 1 ≤ thr t ∧ thr t ≤ 6 := by
  unfold thr
  split
  · omega
  · split
    · omega
    · split <;> omega
theorem Sy_swap {mn : Bool} {j : Nat} {H1 o1 H2 o2 : List Nat} {r : Nat × Option (List Nat)} (h : unw (thr (tk j)) H1 o1 = unw (thr (tk j)) H2 o2) (k : Sy tk nm false mn j H2 o2 r) : Sy tk nm false mn j H1 o1 r := by
  obtain ⟨f, hf⟩ := k
  refine ⟨f, ?_⟩
  cases f with
  | zero => cases hf
  | succ f =>
    rw [sy] at hf ⊢
    rw [h]; exact hf
theorem Sy_one {mn : Bool} {i c : Nat} {H out : List Nat} {r : Nat × Option (List Nat)} (h : (tk i = 2 ∧ c = 100000 + nm i) ∨ (17 ≤ tk i ∧ tk i ≤ 22 ∧ c = tk i - 17)) (k : Sy tk nm false mn (i + 1) H (out ++ [c]) r) : Sy tk nm true mn i H out r := by
  have k2 := Sy_swap (H1 := (unw 7 H (out ++ [c])).1) (o1 := (unw 7 H (out ++ [c])).2) (unw_unw (by have := thr_le (tk (i + 1)); omega) _ _) k
  obtain ⟨f, hf⟩ := k2
  refine ⟨f + 1, ?_⟩
  rw [sy]
  rcases h with ⟨h, rfl⟩ | ⟨h, h2, rfl⟩
  · rw [if_pos h]; exact hf
  · rw [if_neg (by omega), if_pos ⟨h, h2⟩]; exact hf
theorem Sy_open {mn mn2 : Bool} {i g : Nat} {H out : List Nat} {r : Nat × Option (List Nat)} (h : (tk i = 16 ∧ mn = true ∧ g = 13 ∧ mn2 = mn) ∨ (tk i = 7 ∧ g = 19 ∧ mn2 = false) ∨ (tk i = 3 ∧ g = 0 ∧ mn2 = true)) (hc : cntH H ≠ 5) (k : Sy tk nm true mn2 (i + 1) (g :: H) out r) : Sy tk nm true mn i H out r := by
  obtain ⟨f, hf⟩ := k
  refine ⟨f + 1, ?_⟩
  rw [sy]
  rcases h with ⟨h, h2, rfl, rfl⟩ | ⟨h, rfl, rfl⟩ | ⟨h, rfl, rfl⟩
  · rw [if_neg (by omega), if_neg (by omega), if_pos ⟨h, h2⟩, if_neg hc]; exact hf
  · rw [if_neg (by omega), if_neg (by omega), if_neg (by omega), if_pos h, if_neg hc]; exact hf
  · rw [if_neg (by omega), if_neg (by omega), if_neg (by omega), if_neg (by omega), if_pos h, if_neg hc]; exact hf
theorem Sy_full {mn : Bool} {i : Nat} {H out : List Nat} (h : (tk i = 16 ∧ mn = true) ∨ tk i = 7 ∨ tk i = 3) (hc : cntH H = 5) : Sy tk nm true mn i H out (i, none) := by
  refine ⟨1, ?_⟩
  rw [sy]
  rcases h with ⟨h, h2⟩ | h | h
  · rw [if_neg (by omega), if_neg (by omega), if_pos ⟨h, h2⟩, if_pos hc]
  · rw [if_neg (by omega), if_neg (by omega), if_neg (by omega), if_pos h, if_pos hc]
  · rw [if_neg (by omega), if_neg (by omega), if_neg (by omega), if_neg (by omega), if_pos h, if_pos hc]
theorem Sy_bad1 {mn : Bool} {i : Nat} {H out : List Nat} (h2 : tk i ≠ 2) (h17 : ¬ (17 ≤ tk i ∧ tk i ≤ 22)) (h16 : mn = true → tk i ≠ 16) (h7 : tk i ≠ 7) (h3 : tk i ≠ 3) : Sy tk nm true mn i H out (i, none) := by
  refine ⟨1, ?_⟩
  rw [sy, if_neg h2, if_neg h17, if_neg (fun e => h16 e.2 e.1), if_neg h7, if_neg h3]
theorem Sy_sign {mn : Bool} {i : Nat} {H out : List Nat} {r : Nat × Option (List Nat)} (h : tk i = 14 ∨ tk i = 15 ∨ tk i = 9 ∨ tk i = 10 ∨ tk i = 6 ∨ tk i = 7 ∨ tk i = 8) (hn : ¬ ((tk i = 9 ∨ tk i = 10) ∧ tp (unw (thr (tk i)) H out).1 = 4)) (k : Sy tk nm true (decide (tk i = 14 ∨ tk i = 15)) (i + 1) (sgo (tk i) :: (unw (thr (tk i)) H out).1) (unw (thr (tk i)) H out).2 r) : Sy tk nm false mn i H out r := by
  obtain ⟨f, hf⟩ := k
  refine ⟨f + 1, ?_⟩
  rw [sy, if_neg (by omega), if_neg (by omega), if_pos h, if_neg hn]; exact hf
theorem Sy_twice {mn : Bool} {i : Nat} {H out : List Nat} (h : tk i = 9 ∨ tk i = 10) (hn : tp (unw (thr (tk i)) H out).1 = 4) : Sy tk nm false mn i H out (i, none) := by
  refine ⟨1, ?_⟩
  rw [sy, if_neg (by omega), if_neg (by omega), if_pos (by omega), if_pos ⟨h, hn⟩]
theorem Sy_shut {mn : Bool} {i h : Nat} {H H' out : List Nat} {r : Nat × Option (List Nat)} (h4 : tk i = 4) (hu : unw (thr (tk i)) H out = (h :: H', out)) (k : Sy tk nm false mn (i + 1) H' out r) : Sy tk nm false mn i H out r := by
  have k2 := Sy_swap (H1 := (unw 7 H' out).1) (o1 := (unw 7 H' out).2) (unw_unw (by have := thr_le (tk (i + 1)); omega) _ _) k
  obtain ⟨f, hf⟩ := k2
  refine ⟨f + 1, ?_⟩
  rw [sy, if_neg (by omega), if_pos h4, hu]; exact hf
/-- behind a whole E in ( ): nothing but ) can stand -/
theorem Sy_bad2 {mn : Bool} {i h : Nat} {H H' out : List Nat} (hu : unw (thr (tk i)) H out = (h :: H', out)) (h4 : tk i ≠ 4) (hs : ¬ (tk i = 14 ∨ tk i = 15 ∨ tk i = 9 ∨ tk i = 10 ∨ tk i = 6 ∨ tk i = 7 ∨ tk i = 8)) : Sy tk nm false mn i H out (i, none) := by
  refine ⟨1, ?_⟩
  rw [sy]
  by_cases h5 : tk i = 5
  · rw [if_pos h5, hu]
  · rw [if_neg h5, if_neg h4, if_neg hs]
def isL (K : Nat) : Prop := K = 2 ∨ K = 4 ∨ K = 7 ∨ K = 9
def lvl (K : Nat) : Nat := if K = 0 then 8 else if K ≤ 2 then 6 else if K ≤ 4 then 5 else if K = 5 then 4 else if K ≤ 7 then 2 else 1
def Pst (K t : Nat) : Prop := (1 ≤ K → t ≠ 8) ∧ (3 ≤ K → t ≠ 6 ∧ t ≠ 7) ∧ (6 ≤ K → t ≠ 15) ∧ (8 ≤ K → t ≠ 14)
def Bd (K t : Nat) : Prop := 5 ≤ K ∧ (t = 9 ∨ t = 10)
def mnOK (K t : Nat) (mn : Bool) : Prop := (K < 5 → mn = true → t ≠ 16) ∧ (5 ≤ K → mn = true)
def St (tk nm : Nat → Nat) (K : Nat) (mn : Bool) (i : Nat) (H out : List Nat) (r : Nat × Option (List Nat)) : Prop := (¬ isL K → mnOK K (tk i) mn → Sy tk nm true mn i H out r) ∧ (isL K → Sy tk nm false mn i H out r)
/-- what the descent says, the signs say -/
def WP (tk nm : Nat → Nat) (K i o j : Nat) (q : Option (List Nat)) : Prop := ∀ (H out : List Nat) (mn : Bool), cntH H = o → tp H < lvl K →
  (q = none → St tk nm K mn i H out (j, none)) ∧ ∀ s, q = some s → Pst K (tk j) ∧ (¬ Bd K (tk j) → ∀ r, (∀ mn', Sy tk nm false mn' j H (out ++ s) r) → St tk nm K mn i H out r) ∧ (Bd K (tk j) → St tk nm K mn i H out (j, none))
theorem rAdd_inv {r : zPR} {x : List Nat} {j : Nat} {q : Option (List Nat)} (h : rAdd r x = some (j, q)) : ∃ q', r = some (j, q') ∧ q = q'.map (fun s => s ++ x) := by
  match r, h with
  | some (l, some s), h => simp only [rAdd, Option.some.injEq, Prod.mk.injEq] at h; obtain ⟨rfl, rfl⟩ := h; exact ⟨_, rfl, rfl⟩
  | some (l, none), h => simp only [rAdd, Option.some.injEq, Prod.mk.injEq] at h; obtain ⟨rfl, rfl⟩ := h; exact ⟨_, rfl, rfl⟩
  | none, h => cases h
theorem rThen_inv {r : zPR} {g : Nat → zPR} {l : Nat} {q : Option (List Nat)} (h : rThen r g = some (l, q)) : (r = some (l, none) ∧ q = none) ∨ ∃ j s q', r = some (j, some s) ∧ g j = some (l, q') ∧ q = q'.map (fun t => s ++ t) := by
  match r, h with
  | some (j, none), h => simp only [rThen, Option.some.injEq, Prod.mk.injEq] at h; obtain ⟨rfl, rfl⟩ := h; exact Or.inl ⟨rfl, rfl⟩
  | none, h => cases h
  | some (j, some s), h =>
    refine Or.inr ⟨j, s, ?_⟩
    simp only [rThen] at h
    match hg : g j, h with
    | some (a, some t), h => simp only [Option.some.injEq, Prod.mk.injEq] at h; obtain ⟨rfl, rfl⟩ := h; exact ⟨_, rfl, rfl, rfl⟩
    | some (a, none), h => simp only [Option.some.injEq, Prod.mk.injEq] at h; obtain ⟨rfl, rfl⟩ := h; exact ⟨_, rfl, rfl, rfl⟩
    | none, h => cases h
end
