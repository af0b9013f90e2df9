/-! WHAT A NEW LAW LEAVES -/
theorem zLW_old {G : zG} {s : Nat} {a : Nat} (ha : a < zn G) : zk (zLW G s) a = zk G a ∧ zl (zLW G s) a = zl G a ∧ ∀ j, zr (zLW G s) a j = zr G a j := by
  refine ⟨?_, ?_, fun j => ?_⟩
  · show va_up (va_up (va_up (va_up (va_up (zk G) (zn G) 1) (zn G + 1) 6) (zn G + 2) 6) (zn G + 3) 6) (zn G + 4) 6 a = _
    rw [va_up_ne _ _ (by omega), va_up_ne _ _ (by omega), va_up_ne _ _ (by omega), va_up_ne _ _ (by omega), va_up_ne _ _ (by omega)]
  · show va_up (va_up (va_up (va_up (va_up (zl G) (zn G) (zNF 1)) (zn G + 1) s) (zn G + 2) 4) (zn G + 3) 6) (zn G + 4) 40 a = _
    rw [va_up_ne _ _ (by omega), va_up_ne _ _ (by omega), va_up_ne _ _ (by omega), va_up_ne _ _ (by omega), va_up_ne _ _ (by omega)]
  · have na : ¬ a = zn G := by omega
    have e : ∀ (R : Nat → Nat → Option Nat) (k : Nat) (v : Option Nat), z_upR R (zn G) k v a j = R a j := fun R k v => if_neg (fun h => na h.1)
    show z_upR (z_upR (z_upR (va_up (z_upR (va_up (va_up (va_up (va_up (zr G) (zn G) (fun _ => none)) (zn G + 1) (fun _ => none)) (zn G + 2) (fun _ => none)) (zn G + 3) (fun _ => none)) (zn G) 2 (some (zn G + 3))) (zn G + 4) (fun _ => none)) (zn G) 3 (some (zn G + 4))) (zn G) 0 (some (zn G + 1))) (zn G) 1 (some (zn G + 2)) a j = _
    rw [e, e, e, va_up_ne _ _ (by omega), e, va_up_ne _ _ (by omega), va_up_ne _ _ (by omega), va_up_ne _ _ (by omega), va_up_ne _ _ (by omega)]
theorem zLW_law {G : zG} {s : Nat} : LW (zLW G s) (zn G) ∧ zl (zLW G s) (zn G + 1) = s ∧ zn (zLW G s) = zn G + 5 ∧ zs (zLW G s) = zs G + zNF 1 + s + 4 + 6 + 40 := by
  have k : ∀ a, zk (zLW G s) a = va_up (va_up (va_up (va_up (va_up (zk G) (zn G) 1) (zn G + 1) 6) (zn G + 2) 6) (zn G + 3) 6) (zn G + 4) 6 a := fun _ => rfl
  have l : ∀ a, zl (zLW G s) a = va_up (va_up (va_up (va_up (va_up (zl G) (zn G) (zNF 1)) (zn G + 1) s) (zn G + 2) 4) (zn G + 3) 6) (zn G + 4) 40 a := fun _ => rfl
  have l1 : zl (zLW G s) (zn G + 1) = s := by rw [l, va_up_ne _ _ (by omega), va_up_ne _ _ (by omega), va_up_ne _ _ (by omega), va_up_eq]
  refine ⟨⟨Nat.lt_succ_self _, ?_, fun j hj => ?_⟩, l1, rfl, rfl⟩
  · rw [k, va_up_ne _ _ (by omega), va_up_ne _ _ (by omega), va_up_ne _ _ (by omega), va_up_ne _ _ (by omega), va_up_eq]
  · have r : ∀ j, zr (zLW G s) (zn G) j = z_upR (z_upR (z_upR (va_up (z_upR (va_up (va_up (va_up (va_up (zr G) (zn G) (fun _ => none)) (zn G + 1) (fun _ => none)) (zn G + 2) (fun _ => none)) (zn G + 3) (fun _ => none)) (zn G) 2 (some (zn G + 3))) (zn G + 4) (fun _ => none)) (zn G) 3 (some (zn G + 4))) (zn G) 0 (some (zn G + 1))) (zn G) 1 (some (zn G + 2)) (zn G) j := fun _ => rfl
    have yes : ∀ (R : Nat → Nat → Option Nat) (k : Nat) (v : Option Nat), z_upR R (zn G) k v (zn G) k = v := fun R k v => if_pos ⟨rfl, rfl⟩
    have no : ∀ (R : Nat → Nat → Option Nat) (k j : Nat) (v : Option Nat), ¬ j = k → z_upR R (zn G) k v (zn G) j = R (zn G) j := fun R k j v h => if_neg (fun q => h q.2)
    match j, hj with
    | 0, _ => exact ⟨by rw [r, no _ 1 0 _ (by decide), yes], by rw [k, va_up_ne _ _ (by omega), va_up_ne _ _ (by omega), va_up_ne _ _ (by omega), va_up_eq], by rw [l1]; exact l1.symm⟩
    | 1, _ => exact ⟨by rw [r, yes], by rw [k, va_up_ne _ _ (by omega), va_up_ne _ _ (by omega), va_up_eq], by rw [l, va_up_ne _ _ (by omega), va_up_ne _ _ (by omega), va_up_eq]; rfl⟩
    | 2, _ => exact ⟨by rw [r, no _ 1 2 _ (by decide), no _ 0 2 _ (by decide), no _ 3 2 _ (by decide), va_up_ne _ _ (by omega), yes], by rw [k, va_up_ne _ _ (by omega), va_up_eq], by rw [l, va_up_ne _ _ (by omega), va_up_eq]; rfl⟩
    | 3, _ => exact ⟨by rw [r, no _ 1 3 _ (by decide), no _ 0 3 _ (by decide), yes], by rw [k, va_up_eq], by rw [l, va_up_eq]; rfl⟩
theorem zLWI_old {G : zG} {s : Nat} {I : zI} {f : Nat → Int32} {a : Nat} (ha : a < zn G) : zLWI G s I f a = I a := by
  show va_up (va_up (va_up (va_up (va_up I (zn G) (fun _ => 0)) (zn G + 1) f) (zn G + 2) (I 42)) (zn G + 3) (fun _ => 0)) (zn G + 4) (fun _ => 0) a = _
  rw [va_up_ne _ _ (by omega), va_up_ne _ _ (by omega), va_up_ne _ _ (by omega), va_up_ne _ _ (by omega), va_up_ne _ _ (by omega)]
theorem zLWI_new {G : zG} {s : Nat} {I : zI} {f : Nat → Int32} : zLWI G s I f (zn G + 1) = f ∧ zLWI G s I f (zn G + 2) = I 42 := by
  have e : ∀ a, zLWI G s I f a = va_up (va_up (va_up (va_up (va_up I (zn G) (fun _ => 0)) (zn G + 1) f) (zn G + 2) (I 42)) (zn G + 3) (fun _ => 0)) (zn G + 4) (fun _ => 0) a := fun _ => rfl
  exact ⟨by rw [e, va_up_ne _ _ (by omega), va_up_ne _ _ (by omega), va_up_ne _ _ (by omega), va_up_eq], by rw [e, va_up_ne _ _ (by omega), va_up_ne _ _ (by omega), va_up_eq]⟩
