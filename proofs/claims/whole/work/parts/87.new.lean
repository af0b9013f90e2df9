/-! NEW THINGS -/
section
variable {X : Nat × (Nat → Int32)} {d μ pc : Nat} {lo st : List Value} {G : zG} {I : zI} {res : Option Value × zG × zI} {nm : MethodName} {cd : ByteArray} {ml ow np : Nat} {rt : Option FieldType}
theorem Ev_newO {ix : Nat} {q : Nat × String} (hq : zM[μ]? = some (nm, cd, ml, rt, ow, np)) (hd : decode cd pc = .ok (.new ix, 3)) (hf : zLk zN ow ix = some q) (h6 : q.1 < 6) (k : Ev X d μ (pc + 3) lo (.ref (zn G) :: st) (z_new G q.1 (zNF q.1) (fun _ => none)) (z_newI G I (fun _ => 0)) res) : Ev X d μ pc lo st G I res := Ev_h hq hd rfl (by simp only [z_heap, hf]; exact if_pos ⟨trivial, h6⟩) k
theorem Ev_newI {t : ArrayType} {n : Int32} (hq : zM[μ]? = some (nm, cd, ml, rt, ow, np)) (hd : decode cd pc = .ok (.newarray t, 2)) (ht : newarray.typeOf t = .int) (hn : 0 ≤ n) (hn2 : n.toNatClampNeg ≤ 100000) (k : Ev X d μ (pc + 2) lo (.ref (zn G) :: st) (z_new G 6 n.toNatClampNeg (fun _ => none)) (z_newI G I (fun _ => 0)) res) : Ev X d μ pc lo (.int n :: st) G I res := Ev_h hq hd rfl (if_pos ⟨rfl, ht, hn, hn2⟩) k
theorem Ev_cast {ix a : Nat} (hq : zM[μ]? = some (nm, cd, ml, rt, ow, np)) (hd : decode cd pc = .ok (.checkcast ix, 3)) (ha : a < zn G) (hk : zk G a = 6) (hc : (zLk zN ow ix).map (fun q => q.1) = some 6) (k : Ev X d μ (pc + 3) lo (.ref a :: st) G I res) : Ev X d μ pc lo (.ref a :: st) G I res := Ev_h hq hd rfl (if_pos ⟨rfl, ha, hk, hc⟩) k
end
def zPR_ (G : zG) (a j b : Nat) : zG := (zn G, zs G, zk G, zl G, z_upR (zr G) a j (some b))
def zLG (G : zG) (w a s : Nat) : zG := zPR_ (zPR_ (zPR_ (z_new (zPR_ (z_new G 6 6 (fun _ => none)) w 2 (zn G)) 6 40 (fun _ => none)) w 3 (zn G + 1)) w 0 a) w 1 s
def zLI (G : zG) (I : zI) : zI := va_up (va_up I (zn G) (fun _ => 0)) (zn G + 1) (fun _ => 0)
set_option maxRecDepth 20000 in
theorem c_Linit {X : Nat × (Nat → Int32)} {d : Nat} {G : zG} {I : zI} {w a s : Nat} (hw : w < zn G) (hk : zk G w = 1) : Cv X (d + 1) 35 [.ref w, .ref a, .ref s] G I (none, zLG G w a s, zLI G I) := by
  refine Cv.of hq_35 (z_le rfl) rfl ?_
  have k1 : zk (z_new G 6 6 (fun _ => none)) w = 1 := by show va_up (zk G) (zn G) 6 w = 1; rw [va_up_ne _ _ (by omega)]; exact hk
  have k2 : zk (z_new (zPR_ (z_new G 6 6 (fun _ => none)) w 2 (zn G)) 6 40 (fun _ => none)) w = 1 := by show va_up (va_up (zk G) (zn G) 6) (zn G + 1) 6 w = 1; rw [va_up_ne _ _ (by omega)]; exact k1
  refine Ev_aload_n hq_35 (show decode prog_3_method_1_code 0 = .ok (.aload_n 0, 1) by decide +kernel) rfl ?_
  refine Ev_obj hq_35 (show decode prog_3_method_1_code 1 = .ok (.invokespecial 3, 3) by decide +kernel) rfl (z_le rfl) ?_
  refine Ev_aload_n hq_35 (show decode prog_3_method_1_code 4 = .ok (.aload_n 0, 1) by decide +kernel) rfl ?_
  refine Ev_bipush (v := 6) hq_35 (show decode prog_3_method_1_code 5 = .ok (.bipush 6, 2) by decide +kernel) (by decide) ?_
  refine Ev_newI hq_35 (show decode prog_3_method_1_code 7 = .ok (.newarray .int, 2) by decide +kernel) rfl (by decide) (by decide) ?_
  refine Ev_putR hq_35 (show decode prog_3_method_1_code 9 = .ok (.putfield 9, 3) by decide +kernel) rfl (Nat.lt_succ_of_lt hw) k1 (by decide) (by decide) rfl ?_
  refine Ev_aload_n hq_35 (show decode prog_3_method_1_code 12 = .ok (.aload_n 0, 1) by decide +kernel) rfl ?_
  refine Ev_bipush (v := 40) hq_35 (show decode prog_3_method_1_code 13 = .ok (.bipush 40, 2) by decide +kernel) (by decide) ?_
  refine Ev_newI hq_35 (show decode prog_3_method_1_code 15 = .ok (.newarray .int, 2) by decide +kernel) rfl (by decide) (by decide) ?_
  refine Ev_putR hq_35 (show decode prog_3_method_1_code 17 = .ok (.putfield 13, 3) by decide +kernel) rfl (Nat.lt_succ_of_lt (Nat.lt_succ_of_lt hw)) k2 (by decide) (by decide) rfl ?_
  refine Ev_aload_n hq_35 (show decode prog_3_method_1_code 20 = .ok (.aload_n 0, 1) by decide +kernel) rfl ?_
  refine Ev_aload_n hq_35 (show decode prog_3_method_1_code 21 = .ok (.aload_n 1, 1) by decide +kernel) rfl ?_
  refine Ev_putR hq_35 (show decode prog_3_method_1_code 22 = .ok (.putfield 16, 3) by decide +kernel) rfl (Nat.lt_succ_of_lt (Nat.lt_succ_of_lt hw)) k2 (by decide) (by decide) rfl ?_
  refine Ev_aload_n hq_35 (show decode prog_3_method_1_code 25 = .ok (.aload_n 0, 1) by decide +kernel) rfl ?_
  refine Ev_aload_n hq_35 (show decode prog_3_method_1_code 26 = .ok (.aload_n 2, 1) by decide +kernel) rfl ?_
  refine Ev_putR hq_35 (show decode prog_3_method_1_code 27 = .ok (.putfield 19, 3) by decide +kernel) rfl (Nat.lt_succ_of_lt (Nat.lt_succ_of_lt hw)) k2 (by decide) (by decide) rfl ?_
  exact Ev_vret hq_35 (show decode prog_3_method_1_code 30 = .ok (.return_, 1) by decide +kernel) rfl
