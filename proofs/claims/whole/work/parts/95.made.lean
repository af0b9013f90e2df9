/-! ROWS OF NEW THINGS, WITH NAMES FOR WHAT COMES OUT -/
section
variable {X : Nat × (Nat → Int32)} {d μ pc : Nat} {lo st : List Value} {G G2 : zG} {I I2 : zI} {res : Option Value × zG × zI} {nm : MethodName} {cd : ByteArray} {ml ow np : Nat} {rt : Option FieldType}
theorem Ev_nO {ix : Nat} {q : Nat × String} {c a l : Nat} (hq : zM[μ]? = some (nm, cd, ml, rt, ow, np)) (hd : decode cd pc = .ok (.new ix, 3)) (hf : zLk zN ow ix = some q) (h6 : q.1 < 6) (hc : q.1 = c) (hl : zNF c = l) (ha : zn G = a) (hG : z_new G c l (fun _ => none) = G2) (hI : va_up I a (fun _ => 0) = I2) (k : Ev X d μ (pc + 3) lo (.ref a :: st) G2 I2 res) : Ev X d μ pc lo st G I res := by
  subst hc hl ha hG hI
  exact Ev_newO hq hd hf h6 k
theorem Ev_nI {t : ArrayType} {n : Int32} {a l : Nat} (hq : zM[μ]? = some (nm, cd, ml, rt, ow, np)) (hd : decode cd pc = .ok (.newarray t, 2)) (ht : newarray.typeOf t = .int) (hn : 0 ≤ n) (hl : n.toNatClampNeg = l) (hn2 : l ≤ 100000) (ha : zn G = a) (hG : z_new G 6 l (fun _ => none) = G2) (hI : va_up I a (fun _ => 0) = I2) (k : Ev X d μ (pc + 2) lo (.ref a :: st) G2 I2 res) : Ev X d μ pc lo (.int n :: st) G I res := by
  subst hl ha hG hI
  exact Ev_newI hq hd ht hn hn2 k
theorem Ev_nA {ix : Nat} {n : Int32} {a l : Nat} (hq : zM[μ]? = some (nm, cd, ml, rt, ow, np)) (hd : decode cd pc = .ok (.anewarray ix, 3)) (ht : (zLk zN ow ix).map (fun q => q.1) = some 1) (hn : 0 ≤ n) (hl : n.toNatClampNeg = l) (hn2 : l ≤ 100000) (ha : zn G = a) (hG : z_new G 7 l (fun _ => none) = G2) (hI : va_up I a (fun _ => 0) = I2) (k : Ev X d μ (pc + 3) lo (.ref a :: st) G2 I2 res) : Ev X d μ pc lo (.int n :: st) G I res := by
  subst hl ha hG hI
  exact Ev_h hq hd rfl (if_pos ⟨rfl, ht, hn, hn2⟩) k
def zF4 (G : zG) (l : Nat) : zG := z_new (z_new (z_new (z_new (z_new G 8 4 (fun j => if j < 4 then some (zn G + 1 + j) else none)) 6 l (fun _ => none)) 6 l (fun _ => none)) 6 l (fun _ => none)) 6 l (fun _ => none)
def vF4 (I : zI) (a : Nat) : zI := va_up (va_up (va_up (va_up (va_up I a (fun _ => 0)) (a + 1) (fun _ => 0)) (a + 2) (fun _ => 0)) (a + 3) (fun _ => 0)) (a + 4) (fun _ => 0)
theorem Ev_n4 {ix : Nat} {n : Int32} {a l : Nat} (hq : zM[μ]? = some (nm, cd, ml, rt, ow, np)) (hd : decode cd pc = .ok (.multianewarray ix 2, 4)) (ht : (zLk zN ow ix).map (fun q => q.1) = some 8) (hn : 0 ≤ n) (hl : n.toNatClampNeg = l) (hn2 : l ≤ 1000) (ha : zn G = a) (hG : zF4 G l = G2) (hI : vF4 I a = I2) (k : Ev X d μ (pc + 4) lo (.ref a :: st) G2 I2 res) : Ev X d μ pc lo (.int n :: .int 4 :: st) G I res := by
  subst hl ha hG hI
  exact Ev_h hq hd rfl (if_pos ⟨rfl, rfl, ht, hn, hn2, (by decide), (by decide)⟩) k
theorem Ev_pR {ix a ci j b : Nat} (hq : zM[μ]? = some (nm, cd, ml, rt, ow, np)) (hd : decode cd pc = .ok (.putfield ix, 3)) (hf : zLk zF ow ix = some (ci, j)) (ha : a < zn G) (hk : zk G a = ci) (hj : j < zNF ci) (hn : zFin ci j = true → z_isC nm = true ∧ ow = ci) (hr : zIsR ci j = true) (hG : zPR_ G a j b = G2) (k : Ev X d μ (pc + 3) lo (st) G2 I res) : Ev X d μ pc lo (.ref b :: .ref a :: st) G I res := by
  subst hG
  exact Ev_putR hq hd hf ha hk hj hn hr k
theorem Ev_pI {ix a ci j : Nat} {x : Int32} (hq : zM[μ]? = some (nm, cd, ml, rt, ow, np)) (hd : decode cd pc = .ok (.putfield ix, 3)) (hf : zLk zF ow ix = some (ci, j)) (ha : a < zn G) (hk : zk G a = ci) (hj : j < zNF ci) (hn : zFin ci j = true → z_isC nm = true ∧ ow = ci) (hr : zIsR ci j = false) (hb : zTy ci j = .boolean → x = 0 ∨ x = 1) (hI : z_up I a j x = I2) (k : Ev X d μ (pc + 3) lo (st) G I2 res) : Ev X d μ pc lo (.int x :: .ref a :: st) G I res := by
  subst hI
  exact Ev_putI hq hd hf ha hk hj hn hr hb k
theorem Ev_aS {a b l : Nat} {i : Int32} (hq : zM[μ]? = some (nm, cd, ml, rt, ow, np)) (hd : decode cd pc = .ok (.aastore, 1)) (ha : a < zn G) (hk : zk G a = 7) (hi : z_inr i (zl G a)) (hb : b < zn G) (hkb : zk G b = 1) (hl : i.toNatClampNeg = l) (hG : zPR_ G a l b = G2) (k : Ev X d μ (pc + 1) lo (st) G2 I res) : Ev X d μ pc lo (.ref b :: .int i :: .ref a :: st) G I res := by
  subst hl hG
  exact Ev_aast hq hd ha hk hi hb hkb k
end
