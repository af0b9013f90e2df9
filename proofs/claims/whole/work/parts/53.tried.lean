/-! WHAT IS TRIED: a choice and its cost in one number against two -/
theorem zi_div {a d : Nat} (ha : a < 2 ^ 31) (h0 : 0 < d) (hd : d < 2 ^ 31) : zi a / zi d = zi (a / d) := pk_div ha h0 hd
theorem zi_rem {a d : Nat} (ha : a < 2 ^ 31) (h0 : 0 < d) (hd : d < 2 ^ 31) : zi a - zi a / zi d * zi d = zi (a % d) := pk_rem ha h0 hd
theorem zi_ne {a : Nat} (ha : a < 2147483647) : ¬ zi a = 2147483647 := fun h => absurd ((zi_eq (b := 2147483647) (by omega) (by omega)).1 h) (by omega)
theorem zi_nm {a : Nat} (ha : a < 2147483648) : ¬ zi a = -1 := fun h => by
  have := congrArg Int32.toInt h
  rw [zi_int ha] at this
  have : (a : Int) = -1 := this
  omega
def CT (L b l : Int32) (h : Nat) : Prop := (L = 2147483647 ∧ b = -1) ∨ ∃ p c : Nat, p < h ∧ c ≤ 12000 ∧ L = zi (c * 1024 + p) ∧ b = zi p ∧ l = zi c
theorem ch_zi {c h : Nat} : f_T_choice (zi c) (zi h) = zi (c * 1024 + h) := by
  unfold f_T_choice
  rw [show (1024 : Int32) = zi 1024 from rfl, zi_mul, zi_add]
theorem CT_none {l : Int32} {h : Nat} : CT 2147483647 (-1) l h := Or.inl ⟨rfl, rfl⟩
/-- one more is tried -/
theorem CT_step {L b l : Int32} {h c k : Nat} (hk : h < k) (hh : h < 1000) (hc : c ≤ 12000) (H : CT L b l h) :
    (b = -1 → CT (if f_T_choice (zi c) (zi h) < L then f_T_choice (zi c) (zi h) else L) (zi h) (zi c) k) ∧
    (¬ b = -1 → l ≤ zi c → CT (if f_T_choice (zi c) (zi h) < L then f_T_choice (zi c) (zi h) else L) b l k) ∧
    (¬ b = -1 → ¬ l ≤ zi c → CT (if f_T_choice (zi c) (zi h) < L then f_T_choice (zi c) (zi h) else L) (zi h) (zi c) k) := by
  rw [ch_zi]
  rcases H with ⟨rfl, rfl⟩ | ⟨p, c2, h1, h2, rfl, rfl, rfl⟩
  · refine ⟨fun _ => ?_, fun h => absurd rfl h, fun h => absurd rfl h⟩
    rw [if_pos (show zi (c * 1024 + h) < (2147483647 : Int32) from (zi_lt (b := 2147483647) (by omega) (by omega)).2 (by omega))]
    exact Or.inr ⟨h, c, hk, hc, rfl, rfl, rfl⟩
  · refine ⟨fun h => absurd h (zi_nm (by omega)), fun _ q => ?_, fun _ q => ?_⟩
    · have q := (zi_le (by omega) (by omega)).1 q
      rw [if_neg (fun e => absurd ((zi_lt (by omega) (by omega)).1 e) (by omega))]
      exact Or.inr ⟨p, c2, by omega, h2, rfl, rfl, rfl⟩
    · have q : ¬ c2 ≤ c := fun e => q ((zi_le (by omega) (by omega)).2 e)
      rw [if_pos ((zi_lt (by omega) (by omega)).2 (by omega))]
      exact Or.inr ⟨h, c, hk, hc, rfl, rfl, rfl⟩
theorem CT_keep {L b l : Int32} {h k : Nat} (hk : h ≤ k) (H : CT L b l h) : CT L b l k := by
  rcases H with e | ⟨p, c2, h1, h2, e⟩
  · exact Or.inl e
  · exact Or.inr ⟨p, c2, by omega, h2, e⟩
theorem CT_end {L b l : Int32} {h : Nat} (hh : h ≤ 1000) (H : CT L b l h) (hb : ¬ b = -1) : ¬ L = 2147483647 ∧ (∀ x : Int32, x = 0 → f_T_choiceOrCost L x = b) ∧ (∀ x : Int32, ¬ x = 0 → f_T_choiceOrCost L x = l) := by
  rcases H with ⟨-, e⟩ | ⟨p, c2, h1, h2, rfl, rfl, rfl⟩
  · exact absurd e hb
  · refine ⟨zi_ne (by omega), fun x hx => ?_, fun x hx => ?_⟩
    · rw [f_T_choiceOrCost, if_pos hx, show (1024 : Int32) = zi 1024 from rfl, zi_rem (by omega) (by omega) (by omega)]
      exact congrArg zi (by omega)
    · rw [f_T_choiceOrCost, if_neg hx, show (1024 : Int32) = zi 1024 from rfl, zi_div (by omega) (by omega) (by omega)]
      exact congrArg zi (by omega)
theorem CT_no {L b l : Int32} {h : Nat} (hh : h ≤ 1000) (H : CT L b l h) : (b = -1 → L = 2147483647) ∧ (L = 2147483647 → b = -1) := by
  rcases H with ⟨e1, e2⟩ | ⟨p, c2, h1, h2, rfl, rfl, rfl⟩
  · exact ⟨fun _ => e1, fun _ => e2⟩
  · exact ⟨fun h => absurd h (zi_nm (by omega)), fun h => absurd h (zi_ne (by omega))⟩
theorem rg_nat {v : Int32} {k : Nat} (h : rg v (k : Int)) : ∃ c : Nat, c ≤ k ∧ v = zi c := by
  refine ⟨v.toNatClampNeg, ?_, zi_of h.1⟩
  have e : v.toNatClampNeg = v.toInt.toNat := rfl
  have h1 := h.1
  have h2 := h.2
  omega
theorem rg_zi {c k : Nat} (h : c ≤ k) (hk : k < 2147483648) : rg (zi c) (k : Int) := by
  unfold rg
  rw [zi_int (by omega)]
  omega
/-! one number of a household changed in both -/
theorem RH.kindUp {o n x : Nat} {I J I1 J1 : zI} {v : Int32} (h : RH o I J n) (ho : o + 7 < 57) (hx : x < n) (hv : rg v 5) (hI : ∀ c, o ≤ c → c ≤ o + 7 → c ≠ o + 1 → I1 c = I c) (hI2 : ∀ y, y < n → I1 (o + 1) y = if y = x then v else I (o + 1) y)
    (h57 : J1 57 0 = J 57 0) (hJ : ∀ c, 58 ≤ c → c ≤ 60 → c ≠ 58 → J1 c = J c) (hJ2 : ∀ k, k < 20 → J1 58 k = if k = x then v else J 58 k) : RH o I1 J1 n := by
  have h4 := h.le
  refine ⟨h.le, by rw [hI o (by omega) (by omega) (by omega)]; exact h.ci, h57.trans h.cj, fun y hy => ?_⟩
  have hX := h.at' y hy
  refine ⟨?_, ?_, ?_, ?_, ?_, ?_, ?_, ?_, ?_, ?_, ?_, ?_, ?_, ?_⟩
  · rw [hI2 y hy, hJ2 _ (by omega)]
    by_cases e : y = x
    · subst e; rw [if_pos rfl, if_pos rfl]
    · rw [if_neg e, if_neg (by omega)]; exact hX.kind
  · rw [hI _ (by omega) (by omega) (by omega), hJ _ (by omega) (by omega) (by omega)]; exact hX.more
  · rw [hI _ (by omega) (by omega) (by omega), hJ _ (by omega) (by omega) (by omega)]; exact hX.late
  · rw [hI _ (by omega) (by omega) (by omega), hJ _ (by omega) (by omega) (by omega)]; exact hX.want
  · rw [hI _ (by omega) (by omega) (by omega), hJ _ (by omega) (by omega) (by omega)]; exact hX.set
  · rw [hI _ (by omega) (by omega) (by omega), hJ _ (by omega) (by omega) (by omega)]; exact hX.haste
  · rw [hI _ (by omega) (by omega) (by omega), hJ _ (by omega) (by omega) (by omega)]; exact hX.on
  · rw [hJ2 _ (by omega)]
    by_cases e : y = x
    · subst e; rw [if_pos rfl]; exact hv
    · rw [if_neg (by omega)]; exact hX.rk
  · rw [hJ _ (by omega) (by omega) (by omega)]; exact hX.rm
  · rw [hJ _ (by omega) (by omega) (by omega)]; exact hX.rl
  · rw [hJ _ (by omega) (by omega) (by omega)]; exact hX.rw1
  · rw [hJ _ (by omega) (by omega) (by omega)]; exact hX.rs
  · rw [hJ _ (by omega) (by omega) (by omega)]; exact hX.rh
  · rw [hJ _ (by omega) (by omega) (by omega)]; exact hX.ro
theorem RH.moreUp {o n x : Nat} {I J I1 J1 : zI} {v : Int32} (h : RH o I J n) (ho : o + 7 < 57) (hx : x < n) (hv : rg v 9) (hI : ∀ c, o ≤ c → c ≤ o + 7 → c ≠ o + 2 → I1 c = I c) (hI2 : ∀ y, y < n → I1 (o + 2) y = if y = x then v else I (o + 2) y)
    (h57 : J1 57 0 = J 57 0) (hJ : ∀ c, 58 ≤ c → c ≤ 60 → c ≠ 59 → J1 c = J c) (hJ2 : ∀ k, k < 20 → J1 59 k = if k = x then v else J 59 k) : RH o I1 J1 n := by
  have h4 := h.le
  refine ⟨h.le, by rw [hI o (by omega) (by omega) (by omega)]; exact h.ci, h57.trans h.cj, fun y hy => ?_⟩
  have hX := h.at' y hy
  refine ⟨?_, ?_, ?_, ?_, ?_, ?_, ?_, ?_, ?_, ?_, ?_, ?_, ?_, ?_⟩
  · rw [hI _ (by omega) (by omega) (by omega), hJ _ (by omega) (by omega) (by omega)]; exact hX.kind
  · rw [hI2 y hy, hJ2 _ (by omega)]
    by_cases e : y = x
    · subst e; rw [if_pos rfl, if_pos rfl]
    · rw [if_neg e, if_neg (by omega)]; exact hX.more
  · rw [hI _ (by omega) (by omega) (by omega), hJ _ (by omega) (by omega) (by omega)]; exact hX.late
  · rw [hI _ (by omega) (by omega) (by omega), hJ _ (by omega) (by omega) (by omega)]; exact hX.want
  · rw [hI _ (by omega) (by omega) (by omega), hJ _ (by omega) (by omega) (by omega)]; exact hX.set
  · rw [hI _ (by omega) (by omega) (by omega), hJ _ (by omega) (by omega) (by omega)]; exact hX.haste
  · rw [hI _ (by omega) (by omega) (by omega), hJ _ (by omega) (by omega) (by omega)]; exact hX.on
  · rw [hJ _ (by omega) (by omega) (by omega)]; exact hX.rk
  · rw [hJ2 _ (by omega)]
    by_cases e : y = x
    · subst e; rw [if_pos rfl]; exact hv
    · rw [if_neg (by omega)]; exact hX.rm
  · rw [hJ _ (by omega) (by omega) (by omega)]; exact hX.rl
  · rw [hJ _ (by omega) (by omega) (by omega)]; exact hX.rw1
  · rw [hJ _ (by omega) (by omega) (by omega)]; exact hX.rs
  · rw [hJ _ (by omega) (by omega) (by omega)]; exact hX.rh
  · rw [hJ _ (by omega) (by omega) (by omega)]; exact hX.ro
theorem RH.lateUp {o n x : Nat} {I J I1 J1 : zI} {v : Int32} (h : RH o I J n) (ho : o + 7 < 57) (hx : x < n) (hv : rg v 4) (hI : ∀ c, o ≤ c → c ≤ o + 7 → c ≠ o + 3 → I1 c = I c) (hI2 : ∀ y, y < n → I1 (o + 3) y = if y = x then v else I (o + 3) y)
    (h57 : J1 57 0 = J 57 0) (hJ : ∀ c, 58 ≤ c → c ≤ 60 → c ≠ 60 → J1 c = J c) (hJ2 : ∀ k, k < 20 → J1 60 k = if k = 5 * x then v else J 60 k) : RH o I1 J1 n := by
  have h4 := h.le
  refine ⟨h.le, by rw [hI o (by omega) (by omega) (by omega)]; exact h.ci, h57.trans h.cj, fun y hy => ?_⟩
  have hX := h.at' y hy
  refine ⟨?_, ?_, ?_, ?_, ?_, ?_, ?_, ?_, ?_, ?_, ?_, ?_, ?_, ?_⟩
  · rw [hI _ (by omega) (by omega) (by omega), hJ _ (by omega) (by omega) (by omega)]; exact hX.kind
  · rw [hI _ (by omega) (by omega) (by omega), hJ _ (by omega) (by omega) (by omega)]; exact hX.more
  · rw [hI2 y hy, hJ2 _ (by omega)]
    by_cases e : y = x
    · subst e; rw [if_pos rfl, if_pos rfl]
    · rw [if_neg e, if_neg (by omega)]; exact hX.late
  · rw [hI _ (by omega) (by omega) (by omega), hJ2 _ (by omega), if_neg (by omega)]; exact hX.want
  · rw [hI _ (by omega) (by omega) (by omega), hJ2 _ (by omega), if_neg (by omega)]; exact hX.set
  · rw [hI _ (by omega) (by omega) (by omega), hJ2 _ (by omega), if_neg (by omega)]; exact hX.haste
  · rw [hI _ (by omega) (by omega) (by omega), hJ2 _ (by omega), if_neg (by omega)]; exact hX.on
  · rw [hJ _ (by omega) (by omega) (by omega)]; exact hX.rk
  · rw [hJ _ (by omega) (by omega) (by omega)]; exact hX.rm
  · rw [hJ2 _ (by omega)]
    by_cases e : y = x
    · subst e; rw [if_pos rfl]; exact hv
    · rw [if_neg (by omega)]; exact hX.rl
  · rw [hJ2 _ (by omega), if_neg (by omega)]; exact hX.rw1
  · rw [hJ2 _ (by omega), if_neg (by omega)]; exact hX.rs
  · rw [hJ2 _ (by omega), if_neg (by omega)]; exact hX.rh
  · rw [hJ2 _ (by omega), if_neg (by omega)]; exact hX.ro
theorem RH.setUp {o n x : Nat} {I J I1 J1 : zI} {v : Int32} (h : RH o I J n) (ho : o + 7 < 57) (hx : x < n) (hv : rg v 999) (hI : ∀ c, o ≤ c → c ≤ o + 7 → c ≠ o + 5 → I1 c = I c) (hI2 : ∀ y, y < n → I1 (o + 5) y = if y = x then v else I (o + 5) y)
    (h57 : J1 57 0 = J 57 0) (hJ : ∀ c, 58 ≤ c → c ≤ 60 → c ≠ 60 → J1 c = J c) (hJ2 : ∀ k, k < 20 → J1 60 k = if k = 5 * x + 2 then v else J 60 k) : RH o I1 J1 n := by
  have h4 := h.le
  refine ⟨h.le, by rw [hI o (by omega) (by omega) (by omega)]; exact h.ci, h57.trans h.cj, fun y hy => ?_⟩
  have hX := h.at' y hy
  refine ⟨?_, ?_, ?_, ?_, ?_, ?_, ?_, ?_, ?_, ?_, ?_, ?_, ?_, ?_⟩
  · rw [hI _ (by omega) (by omega) (by omega), hJ _ (by omega) (by omega) (by omega)]; exact hX.kind
  · rw [hI _ (by omega) (by omega) (by omega), hJ _ (by omega) (by omega) (by omega)]; exact hX.more
  · rw [hI _ (by omega) (by omega) (by omega), hJ2 _ (by omega), if_neg (by omega)]; exact hX.late
  · rw [hI _ (by omega) (by omega) (by omega), hJ2 _ (by omega), if_neg (by omega)]; exact hX.want
  · rw [hI2 y hy, hJ2 _ (by omega)]
    by_cases e : y = x
    · subst e; rw [if_pos rfl, if_pos rfl]
    · rw [if_neg e, if_neg (by omega)]; exact hX.set
  · rw [hI _ (by omega) (by omega) (by omega), hJ2 _ (by omega), if_neg (by omega)]; exact hX.haste
  · rw [hI _ (by omega) (by omega) (by omega), hJ2 _ (by omega), if_neg (by omega)]; exact hX.on
  · rw [hJ _ (by omega) (by omega) (by omega)]; exact hX.rk
  · rw [hJ _ (by omega) (by omega) (by omega)]; exact hX.rm
  · rw [hJ2 _ (by omega), if_neg (by omega)]; exact hX.rl
  · rw [hJ2 _ (by omega), if_neg (by omega)]; exact hX.rw1
  · rw [hJ2 _ (by omega)]
    by_cases e : y = x
    · subst e; rw [if_pos rfl]; exact hv
    · rw [if_neg (by omega)]; exact hX.rs
  · rw [hJ2 _ (by omega), if_neg (by omega)]; exact hX.rh
  · rw [hJ2 _ (by omega), if_neg (by omega)]; exact hX.ro
theorem RH.hasteUp {o n x : Nat} {I J I1 J1 : zI} {v : Int32} (h : RH o I J n) (ho : o + 7 < 57) (hx : x < n) (hv : rg v 16) (hI : ∀ c, o ≤ c → c ≤ o + 7 → c ≠ o + 6 → I1 c = I c) (hI2 : ∀ y, y < n → I1 (o + 6) y = if y = x then v else I (o + 6) y)
    (h57 : J1 57 0 = J 57 0) (hJ : ∀ c, 58 ≤ c → c ≤ 60 → c ≠ 60 → J1 c = J c) (hJ2 : ∀ k, k < 20 → J1 60 k = if k = 5 * x + 3 then v else J 60 k) : RH o I1 J1 n := by
  have h4 := h.le
  refine ⟨h.le, by rw [hI o (by omega) (by omega) (by omega)]; exact h.ci, h57.trans h.cj, fun y hy => ?_⟩
  have hX := h.at' y hy
  refine ⟨?_, ?_, ?_, ?_, ?_, ?_, ?_, ?_, ?_, ?_, ?_, ?_, ?_, ?_⟩
  · rw [hI _ (by omega) (by omega) (by omega), hJ _ (by omega) (by omega) (by omega)]; exact hX.kind
  · rw [hI _ (by omega) (by omega) (by omega), hJ _ (by omega) (by omega) (by omega)]; exact hX.more
  · rw [hI _ (by omega) (by omega) (by omega), hJ2 _ (by omega), if_neg (by omega)]; exact hX.late
  · rw [hI _ (by omega) (by omega) (by omega), hJ2 _ (by omega), if_neg (by omega)]; exact hX.want
  · rw [hI _ (by omega) (by omega) (by omega), hJ2 _ (by omega), if_neg (by omega)]; exact hX.set
  · rw [hI2 y hy, hJ2 _ (by omega)]
    by_cases e : y = x
    · subst e; rw [if_pos rfl, if_pos rfl]
    · rw [if_neg e, if_neg (by omega)]; exact hX.haste
  · rw [hI _ (by omega) (by omega) (by omega), hJ2 _ (by omega), if_neg (by omega)]; exact hX.on
  · rw [hJ _ (by omega) (by omega) (by omega)]; exact hX.rk
  · rw [hJ _ (by omega) (by omega) (by omega)]; exact hX.rm
  · rw [hJ2 _ (by omega), if_neg (by omega)]; exact hX.rl
  · rw [hJ2 _ (by omega), if_neg (by omega)]; exact hX.rw1
  · rw [hJ2 _ (by omega), if_neg (by omega)]; exact hX.rs
  · rw [hJ2 _ (by omega)]
    by_cases e : y = x
    · subst e; rw [if_pos rfl]; exact hv
    · rw [if_neg (by omega)]; exact hX.rh
  · rw [hJ2 _ (by omega), if_neg (by omega)]; exact hX.ro
theorem RH.onUp {o n x : Nat} {I J I1 J1 : zI} {v : Int32} (h : RH o I J n) (ho : o + 7 < 57) (hx : x < n) (hv : v = 0 ∨ v = 1) (hI : ∀ c, o ≤ c → c ≤ o + 7 → c ≠ o + 7 → I1 c = I c) (hI2 : ∀ y, y < n → I1 (o + 7) y = if y = x then v else I (o + 7) y)
    (h57 : J1 57 0 = J 57 0) (hJ : ∀ c, 58 ≤ c → c ≤ 60 → c ≠ 60 → J1 c = J c) (hJ2 : ∀ k, k < 20 → J1 60 k = if k = 5 * x + 4 then v else J 60 k) : RH o I1 J1 n := by
  have h4 := h.le
  refine ⟨h.le, by rw [hI o (by omega) (by omega) (by omega)]; exact h.ci, h57.trans h.cj, fun y hy => ?_⟩
  have hX := h.at' y hy
  refine ⟨?_, ?_, ?_, ?_, ?_, ?_, ?_, ?_, ?_, ?_, ?_, ?_, ?_, ?_⟩
  · rw [hI _ (by omega) (by omega) (by omega), hJ _ (by omega) (by omega) (by omega)]; exact hX.kind
  · rw [hI _ (by omega) (by omega) (by omega), hJ _ (by omega) (by omega) (by omega)]; exact hX.more
  · rw [hI _ (by omega) (by omega) (by omega), hJ2 _ (by omega), if_neg (by omega)]; exact hX.late
  · rw [hI _ (by omega) (by omega) (by omega), hJ2 _ (by omega), if_neg (by omega)]; exact hX.want
  · rw [hI _ (by omega) (by omega) (by omega), hJ2 _ (by omega), if_neg (by omega)]; exact hX.set
  · rw [hI _ (by omega) (by omega) (by omega), hJ2 _ (by omega), if_neg (by omega)]; exact hX.haste
  · rw [hI2 y hy, hJ2 _ (by omega)]
    by_cases e : y = x
    · subst e; rw [if_pos rfl, if_pos rfl]
    · rw [if_neg e, if_neg (by omega)]; exact hX.on
  · rw [hJ _ (by omega) (by omega) (by omega)]; exact hX.rk
  · rw [hJ _ (by omega) (by omega) (by omega)]; exact hX.rm
  · rw [hJ2 _ (by omega), if_neg (by omega)]; exact hX.rl
  · rw [hJ2 _ (by omega), if_neg (by omega)]; exact hX.rw1
  · rw [hJ2 _ (by omega), if_neg (by omega)]; exact hX.rs
  · rw [hJ2 _ (by omega), if_neg (by omega)]; exact hX.rh
  · rw [hJ2 _ (by omega)]
    by_cases e : y = x
    · subst e; rw [if_pos rfl]; exact hv
    · rw [if_neg (by omega)]; exact hX.ro
/-- the house that is thought of becomes the true one -/
theorem RH.mv {o o2 n : Nat} {I I1 J : zI} (h : RH o I J n) (h1 : ∀ j, j < 7 → ∀ x, x < 4 → I1 (o2 + 1 + j) x = I (o + 1 + j) x) (h7 : I1 o2 7 = I o 7) : RH o2 I1 J n := by
  have h4 := h.le
  refine ⟨h.le, h7.trans h.ci, h.cj, fun x hx => ?_⟩
  have hX := h.at' x hx
  refine ⟨(h1 0 (by omega) x (by omega)).trans hX.kind, (h1 1 (by omega) x (by omega)).trans hX.more, (h1 2 (by omega) x (by omega)).trans hX.late, (h1 3 (by omega) x (by omega)).trans hX.want, (h1 4 (by omega) x (by omega)).trans hX.set, (h1 5 (by omega) x (by omega)).trans hX.haste, (h1 6 (by omega) x (by omega)).trans hX.on, hX.rk, hX.rm, hX.rl, hX.rw1, hX.rs, hX.rh, hX.ro⟩
theorem think {X : Nat × (Nat → Int32)} {d : Nat} {n m : Nat} {G : zG} {I J : zI} (R : Rel n m G I J) : ∃ (r : Nat) (I1 : zI), Cv X (d + 1) 83 [.ref 9, .ref 1] G I (none, G, I1) ∧ FC I I1 ∧ AD 9 n r m G I1 J ∧ (∀ c, ¬ (9 ≤ c ∧ c ≤ 16) → I1 c = I c) := by
  obtain ⟨r, e1, e2, e3⟩ := R.L
  obtain ⟨I1, k1, k2, k3, k4, k5⟩ := c_become_9_1 (X := X) (d := d) R.S I
  refine ⟨r, I1, k1, fun c h _ _ => k2 c h, ⟨R.H.mv (o := 1) (o2 := 9) k3 k4, e1, k5.trans e2, e3, R.T.fr (by rw [k2 0 (by omega)]) rfl (fun c _ _ => k2 c (by omega)) rfl rfl⟩, k2⟩
/-- like FZ, but some numbers of the reference's held0 are other -/
def FZ6 (p : Nat → Prop) (J J1 : zI) : Prop := (∀ c, c ≠ 57 → c ≠ 60 → ¬ (71 ≤ c ∧ c ≤ 79) → J1 c = J c) ∧ (∀ k, (k < 18 ∨ k = 34) → J1 57 k = J 57 k) ∧ ∀ k, ¬ p k → J1 60 k = J 60 k
theorem FZ.six {p : Nat → Prop} {J J1 : zI} (h : FZ J J1) : FZ6 p J J1 := ⟨fun c a _ b => h.1 c a b, h.2, fun k _ => by rw [h.1 60 (by omega) (by omega)]⟩
theorem FZ6.tr {p : Nat → Prop} {J J1 J2 : zI} (h : FZ6 p J J1) (h2 : FZ6 p J1 J2) : FZ6 p J J2 := ⟨fun c a b e => (h2.1 c a b e).trans (h.1 c a b e), fun k a => (h2.2.1 k a).trans (h.2.1 k a), fun k a => (h2.2.2 k a).trans (h.2.2 k a)⟩
theorem FZ6.up {p : Nat → Prop} {J : zI} {k : Nat} {v : Int32} (hk : p k) : FZ6 p J (z_up J 60 k v) := ⟨fun c _ b _ => up_cell b, fun k _ => by rw [up_cell (by omega)], fun j hj => up_place (fun e => hj (e ▸ hk))⟩
theorem FZ6.back {p : Nat → Prop} {J J1 : zI} (h : FZ6 p J J1) (h2 : ∀ k, p k → J1 60 k = J 60 k) : FZ J J1 := by
  refine ⟨fun c a b => ?_, h.2.1⟩
  by_cases e : c = 60
  · subst e
    funext k
    rcases Classical.em (p k) with q | q
    · exact h2 k q
    · exact h.2.2 k q
  · exact h.1 c a e b
