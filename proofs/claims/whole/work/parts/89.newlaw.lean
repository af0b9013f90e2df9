/-! A NEW LAW -/
theorem S5.new {G : zG} (h : S5 G) (kd len : Nat) (r : Nat → Option Nat) : S5 (z_new G kd len r) := by
  obtain ⟨a1, a2, a3, a4⟩ := h
  have l1 : zKd5.length = 52 := by decide
  have l2 : zLn5.length = 52 := by decide
  refine ⟨Nat.le_succ_of_le a1, fun a k ha => ?_, fun a k ha => ?_, fun a j b ha hr => ?_⟩
  · have := (List.getElem?_eq_some_iff.1 ha).1
    show va_up (zk G) (zn G) kd a = k
    rw [va_up_ne _ _ (by omega)]; exact a2 a k ha
  · have := (List.getElem?_eq_some_iff.1 ha).1
    show va_up (zl G) (zn G) len a = k
    rw [va_up_ne _ _ (by omega)]; exact a3 a k ha
  · show va_up (zr G) (zn G) r a j = some b
    rw [va_up_ne _ _ (by omega)]; exact a4 a j b ha hr
def zLW (G : zG) (s : Nat) : zG := zLG (z_new (z_new (z_new G 1 (zNF 1) (fun _ => none)) 6 s (fun _ => none)) 6 4 (fun _ => none)) (zn G) (zn G + 1) (zn G + 2)
def zLWI (G : zG) (s : Nat) (I : zI) (f : Nat → Int32) : zI := zLI (z_new (z_new (z_new G 1 (zNF 1) (fun _ => none)) 6 s (fun _ => none)) 6 4 (fun _ => none)) (va_up (va_up (va_up I (zn G) (fun _ => 0)) (zn G + 1) f) (zn G + 2) (I 42))
set_option maxRecDepth 20000 in
theorem c_law {X : Nat × (Nat → Int32)} {d : Nat} {G : zG} {I : zI} (h5 : S5 G) {s : Nat} (hs : s ≤ 160) (h8 : I 39 8 = zi s) : ∃ f : Nat → Int32, (∀ k, k < s → f k = I 41 k) ∧ Cv X (d + 2) 33 [.ref 39] G I (some (.ref (zn G)), zLW G s, zLWI G s I f) := by
  have n52 := h5.1
  have h51 : S5 (z_new G 1 (zNF 1) (fun _ => none)) := h5.new _ _ _
  have h52 : S5 (z_new (z_new G 1 (zNF 1) (fun _ => none)) 6 s (fun _ => none)) := h51.new _ _ _
  obtain ⟨f, hf, kc⟩ := c_copyOf (X := X) (d := d) (I := va_up I (zn G) (fun _ => 0)) h51 hs
  refine ⟨f, fun k hk => by rw [hf k hk, va_up_ne _ _ (by omega)], Cv.of hq_33 (z_le rfl) rfl ?_⟩
  refine Ev_newO (q := (1, _)) hq_33 (show decode prog_5_method_3_code 0 = .ok (.new 40, 3) by decide +kernel) rfl (by decide) ?_
  refine Ev_dup hq_33 (show decode prog_5_method_3_code 3 = .ok (.dup, 1) by decide +kernel) rfl ?_
  refine Ev_aload_n hq_33 (show decode prog_5_method_3_code 4 = .ok (.aload_n 0, 1) by decide +kernel) rfl ?_
  refine Ev_getR hq_33 (show decode prog_5_method_3_code 5 = .ok (.getfield 34, 3) by decide +kernel) rfl (S5n h51 (by decide)) (S5k h51 rfl) (by decide) rfl (S5r h51 rfl) ?_
  refine Ev_iconst (v := 0) hq_33 (show decode prog_5_method_3_code 8 = .ok (.iconst 0, 1) by decide +kernel) (by decide) ?_
  refine Ev_aload_n hq_33 (show decode prog_5_method_3_code 9 = .ok (.aload_n 0, 1) by decide +kernel) rfl ?_
  refine Ev_getI hq_33 (show decode prog_5_method_3_code 10 = .ok (.getfield 37, 3) by decide +kernel) rfl (S5n h51 (by decide)) (S5k h51 rfl) (by decide) rfl ?_
  rw [show z_newI G I (fun _ => 0) 39 8 = zi s by rw [show z_newI G I (fun _ => 0) 39 = I 39 from va_up_ne _ _ (by omega)]; exact h8]
  refine Ev_max hq_33 (show decode prog_5_method_3_code 13 = .ok (.invokestatic 60, 3) by decide +kernel) rfl (z_le rfl) ?_
  rw [show (if (0 : Int32) < zi s then zi s else 0) = zi s by
    by_cases q : s = 0
    · subst q; rfl
    · exact if_pos ((zi_lt (a := 0) (by omega) (by omega)).2 (by omega))]
  refine Ev_stat (as := [.ref 41, .int (zi s)]) hq_33 (show decode prog_5_method_3_code 16 = .ok (.invokestatic 66, 3) by decide +kernel) rfl (Or.inl rfl) hq_34 rfl (z_le rfl) kc ?_
  refine Ev_aload_n hq_33 (show decode prog_5_method_3_code 19 = .ok (.aload_n 0, 1) by decide +kernel) rfl ?_
  refine Ev_getR hq_33 (show decode prog_5_method_3_code 20 = .ok (.getfield 42, 3) by decide +kernel) rfl (S5n h52 (by decide)) (S5k h52 rfl) (by decide) rfl (S5r h52 rfl) ?_
  refine Ev_clone hq_33 (show decode prog_5_method_3_code 23 = .ok (.invokevirtual 72, 3) by decide +kernel) rfl ⟨z_le rfl, S5n h52 (by decide), S5k h52 rfl⟩ ?_
  rw [S5l h52 (a := 42) (k := 4) rfl]
  refine Ev_cast hq_33 (show decode prog_5_method_3_code 26 = .ok (.checkcast 73, 3) by decide +kernel) (Nat.lt_succ_self _) (va_up_eq _ _ _) rfl ?_
  have kw : zk (z_new (z_new (z_new G 1 (zNF 1) (fun _ => none)) 6 s (fun _ => none)) 6 4 (fun _ => none)) (zn G) = 1 := by
    show va_up (va_up (va_up (zk G) (zn G) 1) (zn G + 1) 6) (zn G + 1 + 1) 6 (zn G) = 1
    rw [va_up_ne _ _ (by omega), va_up_ne _ _ (by omega), va_up_eq]
  have e42 : va_up (va_up I (zn G) (fun _ => 0)) (zn G + 1) f 42 = I 42 := by rw [va_up_ne _ _ (by omega), va_up_ne _ _ (by omega)]
  refine Ev_spec (as := [.ref (zn G + 1), .ref (zn G + 2)]) (b := zn G) hq_33 (show decode prog_5_method_3_code 29 = .ok (.invokespecial 77, 3) by decide +kernel) rfl (Or.inl rfl) hq_35 rfl (z_le rfl) (c_Linit (d := d) (by show zn G < zn G + 1 + 1 + 1; omega) kw) ?_
  refine Ev_aretO hq_33 (show decode prog_5_method_3_code 32 = .ok (.areturn, 1) by decide +kernel) ?_
  rw [show z_newI (z_new (z_new G 1 (zNF 1) (fun _ => none)) 6 s (fun _ => none)) (va_up (va_up I (zn G) (fun _ => 0)) (zn (z_new G 1 (zNF 1) (fun _ => none))) f) (va_up (va_up I (zn G) (fun _ => 0)) (zn (z_new G 1 (zNF 1) (fun _ => none))) f 42) = va_up (va_up (va_up I (zn G) (fun _ => 0)) (zn G + 1) f) (zn G + 2) (I 42) by rw [← e42]; rfl]
  rfl
