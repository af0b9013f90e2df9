/-! WHAT A NEW MODEL MAKES -/
def wU (I : zI) (c : Nat) (l : List Int32) (n : Nat) : zI := fun a j => if a = c ∧ j < n then l.getD j 0 else I a j
theorem wU_0 {I : zI} {c : Nat} {l : List Int32} : wU I c l 0 = I := by
  funext a j
  exact if_neg (fun h => Nat.not_lt_zero _ h.2)
theorem wU_cell {I : zI} {c a n : Nat} {l : List Int32} (h : a ≠ c) : wU I c l n a = I a := by
  funext j
  exact if_neg (fun q => h q.1)
theorem wU_at {I : zI} {c n j : Nat} {l : List Int32} (h : j < n) : wU I c l n c j = l.getD j 0 := if_pos ⟨rfl, h⟩
theorem wU_step {I : zI} {c n : Nat} {l : List Int32} {v : Int32} (h : l.getD n 0 = v) : z_up (wU I c l n) c n v = wU I c l (n + 1) := by
  funext a j
  by_cases e : a = c
  · subst e
    by_cases q : j = n
    · subst q
      rw [up_same, wU_at (Nat.lt_succ_self _)]
      exact h.symm
    · rw [up_place q]
      by_cases r : j < n
      · rw [wU_at r, wU_at (by omega)]
      · show (if a = a ∧ j < n then _ else _) = (if a = a ∧ j < n + 1 then _ else _)
        rw [if_neg (fun h => r h.2), if_neg (fun h => by omega)]
  · rw [up_cell e, wU_cell e, wU_cell e]
theorem Ev_lit {X : Nat × (Nat → Int32)} {d μ pc : Nat} {lo st : List Value} {G : zG} {I : zI} {res : Option Value × zG × zI} {nm : MethodName} {cd : ByteArray} {ml ow np : Nat} {rt : Option FieldType} {a k : Nat} {i x : Int32} {l : List Int32} (hq : zM[μ]? = some (nm, cd, ml, rt, ow, np)) (hd : decode cd pc = .ok (.iastore, 1)) (ha : a < zn G) (hk : zk G a = 6) (hi : z_inr i (zl G a)) (hn : i.toNatClampNeg = k) (hx : l.getD k 0 = x) (kk : Ev X d μ (pc + 1) lo st G (wU I a l (k + 1)) res) : Ev X d μ pc lo (.int x :: .int i :: .ref a :: st) G (wU I a l k) res := by
  refine Ev_iast hq hd ha hk hi ?_
  rw [hn, wU_step hx]
  exact kk
def m1L : List Int32 := [-1, -1, -1, -1]
def lawL : List Int32 := [116, 117, 114, 110, 115, 32, 99, 111, 108, 100, 32, 59, 32, 99, 111, 115, 116, 115, 32, 99, 111, 108, 100, 32, 42, 32, 99, 111, 108, 100, 32, 59, 32, 121, 101, 108, 108, 115, 32, 99, 111, 108, 100, 32, 60, 32, 48, 32, 45, 32, 50, 48, 32, 59]
def mG0 : zG := cT6
def mI0 (I : zI) : zI := I
theorem mG0_n : zn mG0 = 57 := by decide +kernel
def mG1 : zG := z_new mG0 5 39 (fun _ => none)
def mI1 (I : zI) : zI := va_up (mI0 I) 57 (fun _ => 0)
theorem mG1_n : zn mG1 = 58 := by decide +kernel
def mG2 : zG := z_new mG1 6 4 (fun _ => none)
def mI2 (I : zI) : zI := va_up (mI1 I) 58 (fun _ => 0)
theorem mG2_n : zn mG2 = 59 := by decide +kernel
def mG3 : zG := zPR_ mG2 57 1 58
theorem mG3_n : zn mG3 = 59 := by decide +kernel
def mG4 : zG := z_new mG3 6 4 (fun _ => none)
def mI3 (I : zI) : zI := va_up (mI2 I) 59 (fun _ => 0)
theorem mG4_n : zn mG4 = 60 := by decide +kernel
def mG5 : zG := zPR_ mG4 57 2 59
theorem mG5_n : zn mG5 = 60 := by decide +kernel
def mG6 : zG := z_new mG5 6 20 (fun _ => none)
def mI4 (I : zI) : zI := va_up (mI3 I) 60 (fun _ => 0)
theorem mG6_n : zn mG6 = 61 := by decide +kernel
def mG7 : zG := zPR_ mG6 57 3 60
theorem mG7_n : zn mG7 = 61 := by decide +kernel
def mG8 : zG := z_new mG7 6 160 (fun _ => none)
def mI5 (I : zI) : zI := va_up (mI4 I) 61 (fun _ => 0)
theorem mG8_n : zn mG8 = 62 := by decide +kernel
def mG9 : zG := zPR_ mG8 57 4 61
theorem mG9_n : zn mG9 = 62 := by decide +kernel
def mG10 : zG := z_new mG9 6 1200 (fun _ => none)
def mI6 (I : zI) : zI := va_up (mI5 I) 62 (fun _ => 0)
theorem mG10_n : zn mG10 = 63 := by decide +kernel
def mG11 : zG := zPR_ mG10 57 6 62
theorem mG11_n : zn mG11 = 63 := by decide +kernel
def mG12 : zG := z_new mG11 6 24 (fun _ => none)
def mI7 (I : zI) : zI := va_up (mI6 I) 63 (fun _ => 0)
theorem mG12_n : zn mG12 = 64 := by decide +kernel
def mG13 : zG := zPR_ mG12 57 7 63
theorem mG13_n : zn mG13 = 64 := by decide +kernel
def mG14 : zG := z_new mG13 6 20 (fun _ => none)
def mI8 (I : zI) : zI := va_up (mI7 I) 64 (fun _ => 0)
theorem mG14_n : zn mG14 = 65 := by decide +kernel
def mG15 : zG := zPR_ mG14 57 13 64
theorem mG15_n : zn mG15 = 65 := by decide +kernel
def mG16 : zG := z_new mG15 6 4 (fun _ => none)
def mI9 (I : zI) : zI := wU (va_up (mI8 I) 65 (fun _ => 0)) 65 m1L 0
theorem mG16_n : zn mG16 = 66 := by decide +kernel
def mI10 (I : zI) : zI := wU (va_up (mI8 I) 65 (fun _ => 0)) 65 m1L 4
def mG17 : zG := zPR_ mG16 57 14 65
theorem mG17_n : zn mG17 = 66 := by decide +kernel
def mG18 : zG := z_new mG17 6 4 (fun _ => none)
def mI11 (I : zI) : zI := va_up (mI10 I) 66 (fun _ => 0)
theorem mG18_n : zn mG18 = 67 := by decide +kernel
def mG19 : zG := zPR_ mG18 57 15 66
theorem mG19_n : zn mG19 = 67 := by decide +kernel
def mG20 : zG := z_new mG19 6 160 (fun _ => none)
def mI12 (I : zI) : zI := va_up (mI11 I) 67 (fun _ => 0)
theorem mG20_n : zn mG20 = 68 := by decide +kernel
def mG21 : zG := zPR_ mG20 57 16 67
theorem mG21_n : zn mG21 = 68 := by decide +kernel
def mG22 : zG := z_new mG21 6 54 (fun _ => none)
def mI13 (I : zI) : zI := wU (va_up (mI12 I) 68 (fun _ => 0)) 68 lawL 0
theorem mG22_n : zn mG22 = 69 := by decide +kernel
def mI14 (I : zI) : zI := wU (va_up (mI12 I) 68 (fun _ => 0)) 68 lawL 54
def mG23 : zG := zPR_ mG22 57 17 68
theorem mG23_n : zn mG23 = 69 := by decide +kernel
def mG24 : zG := z_new mG23 6 96 (fun _ => none)
def mI15 (I : zI) : zI := wU (va_up (mI14 I) 69 (fun _ => 0)) 69 wdL 0
theorem mG24_n : zn mG24 = 70 := by decide +kernel
def mI16 (I : zI) : zI := wU (va_up (mI14 I) 69 (fun _ => 0)) 69 wdL 96
def mG25 : zG := zPR_ mG24 57 22 69
theorem mG25_n : zn mG25 = 70 := by decide +kernel
def mG26 : zG := z_new mG25 6 200 (fun _ => none)
def mI17 (I : zI) : zI := va_up (mI16 I) 70 (fun _ => 0)
theorem mG26_n : zn mG26 = 71 := by decide +kernel
def mG27 : zG := zPR_ mG26 57 23 70
theorem mG27_n : zn mG27 = 71 := by decide +kernel
def mG28 : zG := z_new mG27 6 200 (fun _ => none)
def mI18 (I : zI) : zI := va_up (mI17 I) 71 (fun _ => 0)
theorem mG28_n : zn mG28 = 72 := by decide +kernel
def mG29 : zG := zPR_ mG28 57 27 71
theorem mG29_n : zn mG29 = 72 := by decide +kernel
def mG30 : zG := z_new mG29 6 6 (fun _ => none)
def mI19 (I : zI) : zI := va_up (mI18 I) 72 (fun _ => 0)
theorem mG30_n : zn mG30 = 73 := by decide +kernel
def mG31 : zG := zPR_ mG30 57 28 72
theorem mG31_n : zn mG31 = 73 := by decide +kernel
def mG32 : zG := z_new mG31 6 124 (fun _ => none)
def mI20 (I : zI) : zI := va_up (mI19 I) 73 (fun _ => 0)
theorem mG32_n : zn mG32 = 74 := by decide +kernel
def mG33 : zG := zPR_ mG32 57 29 73
theorem mG33_n : zn mG33 = 74 := by decide +kernel
def mG34 : zG := z_new mG33 6 120 (fun _ => none)
def mI21 (I : zI) : zI := va_up (mI20 I) 74 (fun _ => 0)
theorem mG34_n : zn mG34 = 75 := by decide +kernel
def mG35 : zG := zPR_ mG34 57 30 74
theorem mG35_n : zn mG35 = 75 := by decide +kernel
def mG36 : zG := z_new mG35 6 4 (fun _ => none)
def mI22 (I : zI) : zI := va_up (mI21 I) 75 (fun _ => 0)
theorem mG36_n : zn mG36 = 76 := by decide +kernel
def mG37 : zG := zPR_ mG36 57 31 75
theorem mG37_n : zn mG37 = 76 := by decide +kernel
def mG38 : zG := z_new mG37 6 4 (fun _ => none)
def mI23 (I : zI) : zI := va_up (mI22 I) 76 (fun _ => 0)
theorem mG38_n : zn mG38 = 77 := by decide +kernel
def mG39 : zG := zPR_ mG38 57 32 76
theorem mG39_n : zn mG39 = 77 := by decide +kernel
def mG40 : zG := z_new mG39 6 4 (fun _ => none)
def mI24 (I : zI) : zI := va_up (mI23 I) 77 (fun _ => 0)
theorem mG40_n : zn mG40 = 78 := by decide +kernel
def mG41 : zG := zPR_ mG40 57 33 77
theorem mG41_n : zn mG41 = 78 := by decide +kernel
def mI25 (I : zI) : zI := z_up (mI24 I) 57 34 (-1)
def mG42 : zG := z_new mG41 6 4 (fun _ => none)
def mI26 (I : zI) : zI := va_up (mI25 I) 78 (fun _ => 0)
theorem mG42_n : zn mG42 = 79 := by decide +kernel
def mG43 : zG := zPR_ mG42 57 37 78
theorem mG43_n : zn mG43 = 79 := by decide +kernel
def mG44 : zG := z_new mG43 6 4 (fun _ => none)
def mI27 (I : zI) : zI := va_up (mI26 I) 79 (fun _ => 0)
theorem mG44_n : zn mG44 = 80 := by decide +kernel
def mG45 : zG := zPR_ mG44 57 38 79
theorem mG45_n : zn mG45 = 80 := by decide +kernel
set_option maxRecDepth 20000 in
theorem Z_init_1085 {X : Nat × (Nat → Int32)} {d : Nat} {I : zI} {res : Option Value × zG × zI} (k : Ev X (d + 2) 128 1085 [.ref 57, zU] [] mG45 (mI27 I) res) : Ev X (d + 2) 128 0 [.ref 57, zU] [] mG1 (mI1 I) res := by
  refine Ev_aload_n hq_128 (show decode prog_7_method_1_code 0 = .ok (.aload_n 0, 1) by decide +kernel) rfl ?_
  refine Ev_obj hq_128 (show decode prog_7_method_1_code 1 = .ok (.invokespecial 1, 3) by decide +kernel) rfl (z_le rfl) ?_
  refine Ev_aload_n hq_128 (show decode prog_7_method_1_code 4 = .ok (.aload_n 0, 1) by decide +kernel) rfl ?_
  refine Ev_iconst (v := 4) hq_128 (show decode prog_7_method_1_code 5 = .ok (.iconst 4, 1) by decide +kernel) (by decide) ?_
  refine Ev_nI (l := 4) (G2 := mG2) (I2 := (mI2 I)) hq_128 (show decode prog_7_method_1_code 6 = .ok (.newarray .int, 2) by decide +kernel) rfl (by decide) (by decide) (by decide) mG1_n rfl rfl ?_
  refine Ev_pR (G2 := mG3) hq_128 (show decode prog_7_method_1_code 8 = .ok (.putfield 7, 3) by decide +kernel) rfl (by decide +kernel) (by decide +kernel) (by decide) (by decide) rfl rfl ?_
  refine Ev_aload_n hq_128 (show decode prog_7_method_1_code 11 = .ok (.aload_n 0, 1) by decide +kernel) rfl ?_
  refine Ev_iconst (v := 4) hq_128 (show decode prog_7_method_1_code 12 = .ok (.iconst 4, 1) by decide +kernel) (by decide) ?_
  refine Ev_nI (l := 4) (G2 := mG4) (I2 := (mI3 I)) hq_128 (show decode prog_7_method_1_code 13 = .ok (.newarray .int, 2) by decide +kernel) rfl (by decide) (by decide) (by decide) mG3_n rfl rfl ?_
  refine Ev_pR (G2 := mG5) hq_128 (show decode prog_7_method_1_code 15 = .ok (.putfield 13, 3) by decide +kernel) rfl (by decide +kernel) (by decide +kernel) (by decide) (by decide) rfl rfl ?_
  refine Ev_aload_n hq_128 (show decode prog_7_method_1_code 18 = .ok (.aload_n 0, 1) by decide +kernel) rfl ?_
  refine Ev_bipush (v := 20) hq_128 (show decode prog_7_method_1_code 19 = .ok (.bipush 20, 2) by decide +kernel) (by decide) ?_
  refine Ev_nI (l := 20) (G2 := mG6) (I2 := (mI4 I)) hq_128 (show decode prog_7_method_1_code 21 = .ok (.newarray .int, 2) by decide +kernel) rfl (by decide) (by decide) (by decide) mG5_n rfl rfl ?_
  refine Ev_pR (G2 := mG7) hq_128 (show decode prog_7_method_1_code 23 = .ok (.putfield 16, 3) by decide +kernel) rfl (by decide +kernel) (by decide +kernel) (by decide) (by decide) rfl rfl ?_
  refine Ev_aload_n hq_128 (show decode prog_7_method_1_code 26 = .ok (.aload_n 0, 1) by decide +kernel) rfl ?_
  refine Ev_sipush (v := 160) hq_128 (show decode prog_7_method_1_code 27 = .ok (.sipush 160, 3) by decide +kernel) (by decide) ?_
  refine Ev_nI (l := 160) (G2 := mG8) (I2 := (mI5 I)) hq_128 (show decode prog_7_method_1_code 30 = .ok (.newarray .int, 2) by decide +kernel) rfl (by decide) (by decide) (by decide) mG7_n rfl rfl ?_
  refine Ev_pR (G2 := mG9) hq_128 (show decode prog_7_method_1_code 32 = .ok (.putfield 19, 3) by decide +kernel) rfl (by decide +kernel) (by decide +kernel) (by decide) (by decide) rfl rfl ?_
  refine Ev_aload_n hq_128 (show decode prog_7_method_1_code 35 = .ok (.aload_n 0, 1) by decide +kernel) rfl ?_
  refine Ev_sipush (v := 1200) hq_128 (show decode prog_7_method_1_code 36 = .ok (.sipush 1200, 3) by decide +kernel) (by decide) ?_
  refine Ev_nI (l := 1200) (G2 := mG10) (I2 := (mI6 I)) hq_128 (show decode prog_7_method_1_code 39 = .ok (.newarray .int, 2) by decide +kernel) rfl (by decide) (by decide) (by decide) mG9_n rfl rfl ?_
  refine Ev_pR (G2 := mG11) hq_128 (show decode prog_7_method_1_code 41 = .ok (.putfield 22, 3) by decide +kernel) rfl (by decide +kernel) (by decide +kernel) (by decide) (by decide) rfl rfl ?_
  refine Ev_aload_n hq_128 (show decode prog_7_method_1_code 44 = .ok (.aload_n 0, 1) by decide +kernel) rfl ?_
  refine Ev_bipush (v := 24) hq_128 (show decode prog_7_method_1_code 45 = .ok (.bipush 24, 2) by decide +kernel) (by decide) ?_
  refine Ev_nI (l := 24) (G2 := mG12) (I2 := (mI7 I)) hq_128 (show decode prog_7_method_1_code 47 = .ok (.newarray .int, 2) by decide +kernel) rfl (by decide) (by decide) (by decide) mG11_n rfl rfl ?_
  refine Ev_pR (G2 := mG13) hq_128 (show decode prog_7_method_1_code 49 = .ok (.putfield 25, 3) by decide +kernel) rfl (by decide +kernel) (by decide +kernel) (by decide) (by decide) rfl rfl ?_
  refine Ev_aload_n hq_128 (show decode prog_7_method_1_code 52 = .ok (.aload_n 0, 1) by decide +kernel) rfl ?_
  refine Ev_bipush (v := 20) hq_128 (show decode prog_7_method_1_code 53 = .ok (.bipush 20, 2) by decide +kernel) (by decide) ?_
  refine Ev_nI (l := 20) (G2 := mG14) (I2 := (mI8 I)) hq_128 (show decode prog_7_method_1_code 55 = .ok (.newarray .int, 2) by decide +kernel) rfl (by decide) (by decide) (by decide) mG13_n rfl rfl ?_
  refine Ev_pR (G2 := mG15) hq_128 (show decode prog_7_method_1_code 57 = .ok (.putfield 28, 3) by decide +kernel) rfl (by decide +kernel) (by decide +kernel) (by decide) (by decide) rfl rfl ?_
  refine Ev_aload_n hq_128 (show decode prog_7_method_1_code 60 = .ok (.aload_n 0, 1) by decide +kernel) rfl ?_
  refine Ev_iconst (v := 4) hq_128 (show decode prog_7_method_1_code 61 = .ok (.iconst 4, 1) by decide +kernel) (by decide) ?_
  refine Ev_nI (l := 4) (G2 := mG16) (I2 := (mI9 I)) hq_128 (show decode prog_7_method_1_code 62 = .ok (.newarray .int, 2) by decide +kernel) rfl (by decide) (by decide) (by decide) mG15_n rfl wU_0.symm ?_
  refine Ev_dup hq_128 (show decode prog_7_method_1_code 64 = .ok (.dup, 1) by decide +kernel) rfl ?_
  refine Ev_iconst (v := 0) hq_128 (show decode prog_7_method_1_code 65 = .ok (.iconst 0, 1) by decide +kernel) (by decide) ?_
  refine Ev_iconst (v := (-1)) hq_128 (show decode prog_7_method_1_code 66 = .ok (.iconst (-1), 1) by decide +kernel) (by decide) ?_
  refine Ev_lit (k := 0) (l := m1L) hq_128 (show decode prog_7_method_1_code 67 = .ok (.iastore, 1) by decide +kernel) (by decide +kernel) (by decide +kernel) (by decide +kernel) (by decide) rfl ?_
  refine Ev_dup hq_128 (show decode prog_7_method_1_code 68 = .ok (.dup, 1) by decide +kernel) rfl ?_
  refine Ev_iconst (v := 1) hq_128 (show decode prog_7_method_1_code 69 = .ok (.iconst 1, 1) by decide +kernel) (by decide) ?_
  refine Ev_iconst (v := (-1)) hq_128 (show decode prog_7_method_1_code 70 = .ok (.iconst (-1), 1) by decide +kernel) (by decide) ?_
  refine Ev_lit (k := 1) (l := m1L) hq_128 (show decode prog_7_method_1_code 71 = .ok (.iastore, 1) by decide +kernel) (by decide +kernel) (by decide +kernel) (by decide +kernel) (by decide) rfl ?_
  refine Ev_dup hq_128 (show decode prog_7_method_1_code 72 = .ok (.dup, 1) by decide +kernel) rfl ?_
  refine Ev_iconst (v := 2) hq_128 (show decode prog_7_method_1_code 73 = .ok (.iconst 2, 1) by decide +kernel) (by decide) ?_
  refine Ev_iconst (v := (-1)) hq_128 (show decode prog_7_method_1_code 74 = .ok (.iconst (-1), 1) by decide +kernel) (by decide) ?_
  refine Ev_lit (k := 2) (l := m1L) hq_128 (show decode prog_7_method_1_code 75 = .ok (.iastore, 1) by decide +kernel) (by decide +kernel) (by decide +kernel) (by decide +kernel) (by decide) rfl ?_
  refine Ev_dup hq_128 (show decode prog_7_method_1_code 76 = .ok (.dup, 1) by decide +kernel) rfl ?_
  refine Ev_iconst (v := 3) hq_128 (show decode prog_7_method_1_code 77 = .ok (.iconst 3, 1) by decide +kernel) (by decide) ?_
  refine Ev_iconst (v := (-1)) hq_128 (show decode prog_7_method_1_code 78 = .ok (.iconst (-1), 1) by decide +kernel) (by decide) ?_
  refine Ev_lit (k := 3) (l := m1L) hq_128 (show decode prog_7_method_1_code 79 = .ok (.iastore, 1) by decide +kernel) (by decide +kernel) (by decide +kernel) (by decide +kernel) (by decide) rfl ?_
  refine Ev_pR (G2 := mG17) hq_128 (show decode prog_7_method_1_code 80 = .ok (.putfield 31, 3) by decide +kernel) rfl (by decide +kernel) (by decide +kernel) (by decide) (by decide) rfl rfl ?_
  refine Ev_aload_n hq_128 (show decode prog_7_method_1_code 83 = .ok (.aload_n 0, 1) by decide +kernel) rfl ?_
  refine Ev_iconst (v := 4) hq_128 (show decode prog_7_method_1_code 84 = .ok (.iconst 4, 1) by decide +kernel) (by decide) ?_
  refine Ev_nI (l := 4) (G2 := mG18) (I2 := (mI11 I)) hq_128 (show decode prog_7_method_1_code 85 = .ok (.newarray .int, 2) by decide +kernel) rfl (by decide) (by decide) (by decide) mG17_n rfl rfl ?_
  refine Ev_pR (G2 := mG19) hq_128 (show decode prog_7_method_1_code 87 = .ok (.putfield 34, 3) by decide +kernel) rfl (by decide +kernel) (by decide +kernel) (by decide) (by decide) rfl rfl ?_
  refine Ev_aload_n hq_128 (show decode prog_7_method_1_code 90 = .ok (.aload_n 0, 1) by decide +kernel) rfl ?_
  refine Ev_sipush (v := 160) hq_128 (show decode prog_7_method_1_code 91 = .ok (.sipush 160, 3) by decide +kernel) (by decide) ?_
  refine Ev_nI (l := 160) (G2 := mG20) (I2 := (mI12 I)) hq_128 (show decode prog_7_method_1_code 94 = .ok (.newarray .int, 2) by decide +kernel) rfl (by decide) (by decide) (by decide) mG19_n rfl rfl ?_
  refine Ev_pR (G2 := mG21) hq_128 (show decode prog_7_method_1_code 96 = .ok (.putfield 37, 3) by decide +kernel) rfl (by decide +kernel) (by decide +kernel) (by decide) (by decide) rfl rfl ?_
  refine Ev_aload_n hq_128 (show decode prog_7_method_1_code 99 = .ok (.aload_n 0, 1) by decide +kernel) rfl ?_
  refine Ev_bipush (v := 54) hq_128 (show decode prog_7_method_1_code 100 = .ok (.bipush 54, 2) by decide +kernel) (by decide) ?_
  refine Ev_nI (l := 54) (G2 := mG22) (I2 := (mI13 I)) hq_128 (show decode prog_7_method_1_code 102 = .ok (.newarray .int, 2) by decide +kernel) rfl (by decide) (by decide) (by decide) mG21_n rfl wU_0.symm ?_
  refine Ev_dup hq_128 (show decode prog_7_method_1_code 104 = .ok (.dup, 1) by decide +kernel) rfl ?_
  refine Ev_iconst (v := 0) hq_128 (show decode prog_7_method_1_code 105 = .ok (.iconst 0, 1) by decide +kernel) (by decide) ?_
  refine Ev_bipush (v := 116) hq_128 (show decode prog_7_method_1_code 106 = .ok (.bipush 116, 2) by decide +kernel) (by decide) ?_
  refine Ev_lit (k := 0) (l := lawL) hq_128 (show decode prog_7_method_1_code 108 = .ok (.iastore, 1) by decide +kernel) (by decide +kernel) (by decide +kernel) (by decide +kernel) (by decide) rfl ?_
  refine Ev_dup hq_128 (show decode prog_7_method_1_code 109 = .ok (.dup, 1) by decide +kernel) rfl ?_
  refine Ev_iconst (v := 1) hq_128 (show decode prog_7_method_1_code 110 = .ok (.iconst 1, 1) by decide +kernel) (by decide) ?_
  refine Ev_bipush (v := 117) hq_128 (show decode prog_7_method_1_code 111 = .ok (.bipush 117, 2) by decide +kernel) (by decide) ?_
  refine Ev_lit (k := 1) (l := lawL) hq_128 (show decode prog_7_method_1_code 113 = .ok (.iastore, 1) by decide +kernel) (by decide +kernel) (by decide +kernel) (by decide +kernel) (by decide) rfl ?_
  refine Ev_dup hq_128 (show decode prog_7_method_1_code 114 = .ok (.dup, 1) by decide +kernel) rfl ?_
  refine Ev_iconst (v := 2) hq_128 (show decode prog_7_method_1_code 115 = .ok (.iconst 2, 1) by decide +kernel) (by decide) ?_
  refine Ev_bipush (v := 114) hq_128 (show decode prog_7_method_1_code 116 = .ok (.bipush 114, 2) by decide +kernel) (by decide) ?_
  refine Ev_lit (k := 2) (l := lawL) hq_128 (show decode prog_7_method_1_code 118 = .ok (.iastore, 1) by decide +kernel) (by decide +kernel) (by decide +kernel) (by decide +kernel) (by decide) rfl ?_
  refine Ev_dup hq_128 (show decode prog_7_method_1_code 119 = .ok (.dup, 1) by decide +kernel) rfl ?_
  refine Ev_iconst (v := 3) hq_128 (show decode prog_7_method_1_code 120 = .ok (.iconst 3, 1) by decide +kernel) (by decide) ?_
  refine Ev_bipush (v := 110) hq_128 (show decode prog_7_method_1_code 121 = .ok (.bipush 110, 2) by decide +kernel) (by decide) ?_
  refine Ev_lit (k := 3) (l := lawL) hq_128 (show decode prog_7_method_1_code 123 = .ok (.iastore, 1) by decide +kernel) (by decide +kernel) (by decide +kernel) (by decide +kernel) (by decide) rfl ?_
  refine Ev_dup hq_128 (show decode prog_7_method_1_code 124 = .ok (.dup, 1) by decide +kernel) rfl ?_
  refine Ev_iconst (v := 4) hq_128 (show decode prog_7_method_1_code 125 = .ok (.iconst 4, 1) by decide +kernel) (by decide) ?_
  refine Ev_bipush (v := 115) hq_128 (show decode prog_7_method_1_code 126 = .ok (.bipush 115, 2) by decide +kernel) (by decide) ?_
  refine Ev_lit (k := 4) (l := lawL) hq_128 (show decode prog_7_method_1_code 128 = .ok (.iastore, 1) by decide +kernel) (by decide +kernel) (by decide +kernel) (by decide +kernel) (by decide) rfl ?_
  refine Ev_dup hq_128 (show decode prog_7_method_1_code 129 = .ok (.dup, 1) by decide +kernel) rfl ?_
  refine Ev_iconst (v := 5) hq_128 (show decode prog_7_method_1_code 130 = .ok (.iconst 5, 1) by decide +kernel) (by decide) ?_
  refine Ev_bipush (v := 32) hq_128 (show decode prog_7_method_1_code 131 = .ok (.bipush 32, 2) by decide +kernel) (by decide) ?_
  refine Ev_lit (k := 5) (l := lawL) hq_128 (show decode prog_7_method_1_code 133 = .ok (.iastore, 1) by decide +kernel) (by decide +kernel) (by decide +kernel) (by decide +kernel) (by decide) rfl ?_
  refine Ev_dup hq_128 (show decode prog_7_method_1_code 134 = .ok (.dup, 1) by decide +kernel) rfl ?_
  refine Ev_bipush (v := 6) hq_128 (show decode prog_7_method_1_code 135 = .ok (.bipush 6, 2) by decide +kernel) (by decide) ?_
  refine Ev_bipush (v := 99) hq_128 (show decode prog_7_method_1_code 137 = .ok (.bipush 99, 2) by decide +kernel) (by decide) ?_
  refine Ev_lit (k := 6) (l := lawL) hq_128 (show decode prog_7_method_1_code 139 = .ok (.iastore, 1) by decide +kernel) (by decide +kernel) (by decide +kernel) (by decide +kernel) (by decide) rfl ?_
  refine Ev_dup hq_128 (show decode prog_7_method_1_code 140 = .ok (.dup, 1) by decide +kernel) rfl ?_
  refine Ev_bipush (v := 7) hq_128 (show decode prog_7_method_1_code 141 = .ok (.bipush 7, 2) by decide +kernel) (by decide) ?_
  refine Ev_bipush (v := 111) hq_128 (show decode prog_7_method_1_code 143 = .ok (.bipush 111, 2) by decide +kernel) (by decide) ?_
  refine Ev_lit (k := 7) (l := lawL) hq_128 (show decode prog_7_method_1_code 145 = .ok (.iastore, 1) by decide +kernel) (by decide +kernel) (by decide +kernel) (by decide +kernel) (by decide) rfl ?_
  refine Ev_dup hq_128 (show decode prog_7_method_1_code 146 = .ok (.dup, 1) by decide +kernel) rfl ?_
  refine Ev_bipush (v := 8) hq_128 (show decode prog_7_method_1_code 147 = .ok (.bipush 8, 2) by decide +kernel) (by decide) ?_
  refine Ev_bipush (v := 108) hq_128 (show decode prog_7_method_1_code 149 = .ok (.bipush 108, 2) by decide +kernel) (by decide) ?_
  refine Ev_lit (k := 8) (l := lawL) hq_128 (show decode prog_7_method_1_code 151 = .ok (.iastore, 1) by decide +kernel) (by decide +kernel) (by decide +kernel) (by decide +kernel) (by decide) rfl ?_
  refine Ev_dup hq_128 (show decode prog_7_method_1_code 152 = .ok (.dup, 1) by decide +kernel) rfl ?_
  refine Ev_bipush (v := 9) hq_128 (show decode prog_7_method_1_code 153 = .ok (.bipush 9, 2) by decide +kernel) (by decide) ?_
  refine Ev_bipush (v := 100) hq_128 (show decode prog_7_method_1_code 155 = .ok (.bipush 100, 2) by decide +kernel) (by decide) ?_
  refine Ev_lit (k := 9) (l := lawL) hq_128 (show decode prog_7_method_1_code 157 = .ok (.iastore, 1) by decide +kernel) (by decide +kernel) (by decide +kernel) (by decide +kernel) (by decide) rfl ?_
  refine Ev_dup hq_128 (show decode prog_7_method_1_code 158 = .ok (.dup, 1) by decide +kernel) rfl ?_
  refine Ev_bipush (v := 10) hq_128 (show decode prog_7_method_1_code 159 = .ok (.bipush 10, 2) by decide +kernel) (by decide) ?_
  refine Ev_bipush (v := 32) hq_128 (show decode prog_7_method_1_code 161 = .ok (.bipush 32, 2) by decide +kernel) (by decide) ?_
  refine Ev_lit (k := 10) (l := lawL) hq_128 (show decode prog_7_method_1_code 163 = .ok (.iastore, 1) by decide +kernel) (by decide +kernel) (by decide +kernel) (by decide +kernel) (by decide) rfl ?_
  refine Ev_dup hq_128 (show decode prog_7_method_1_code 164 = .ok (.dup, 1) by decide +kernel) rfl ?_
  refine Ev_bipush (v := 11) hq_128 (show decode prog_7_method_1_code 165 = .ok (.bipush 11, 2) by decide +kernel) (by decide) ?_
  refine Ev_bipush (v := 59) hq_128 (show decode prog_7_method_1_code 167 = .ok (.bipush 59, 2) by decide +kernel) (by decide) ?_
  refine Ev_lit (k := 11) (l := lawL) hq_128 (show decode prog_7_method_1_code 169 = .ok (.iastore, 1) by decide +kernel) (by decide +kernel) (by decide +kernel) (by decide +kernel) (by decide) rfl ?_
  refine Ev_dup hq_128 (show decode prog_7_method_1_code 170 = .ok (.dup, 1) by decide +kernel) rfl ?_
  refine Ev_bipush (v := 12) hq_128 (show decode prog_7_method_1_code 171 = .ok (.bipush 12, 2) by decide +kernel) (by decide) ?_
  refine Ev_bipush (v := 32) hq_128 (show decode prog_7_method_1_code 173 = .ok (.bipush 32, 2) by decide +kernel) (by decide) ?_
  refine Ev_lit (k := 12) (l := lawL) hq_128 (show decode prog_7_method_1_code 175 = .ok (.iastore, 1) by decide +kernel) (by decide +kernel) (by decide +kernel) (by decide +kernel) (by decide) rfl ?_
  refine Ev_dup hq_128 (show decode prog_7_method_1_code 176 = .ok (.dup, 1) by decide +kernel) rfl ?_
  refine Ev_bipush (v := 13) hq_128 (show decode prog_7_method_1_code 177 = .ok (.bipush 13, 2) by decide +kernel) (by decide) ?_
  refine Ev_bipush (v := 99) hq_128 (show decode prog_7_method_1_code 179 = .ok (.bipush 99, 2) by decide +kernel) (by decide) ?_
  refine Ev_lit (k := 13) (l := lawL) hq_128 (show decode prog_7_method_1_code 181 = .ok (.iastore, 1) by decide +kernel) (by decide +kernel) (by decide +kernel) (by decide +kernel) (by decide) rfl ?_
  refine Ev_dup hq_128 (show decode prog_7_method_1_code 182 = .ok (.dup, 1) by decide +kernel) rfl ?_
  refine Ev_bipush (v := 14) hq_128 (show decode prog_7_method_1_code 183 = .ok (.bipush 14, 2) by decide +kernel) (by decide) ?_
  refine Ev_bipush (v := 111) hq_128 (show decode prog_7_method_1_code 185 = .ok (.bipush 111, 2) by decide +kernel) (by decide) ?_
  refine Ev_lit (k := 14) (l := lawL) hq_128 (show decode prog_7_method_1_code 187 = .ok (.iastore, 1) by decide +kernel) (by decide +kernel) (by decide +kernel) (by decide +kernel) (by decide) rfl ?_
  refine Ev_dup hq_128 (show decode prog_7_method_1_code 188 = .ok (.dup, 1) by decide +kernel) rfl ?_
  refine Ev_bipush (v := 15) hq_128 (show decode prog_7_method_1_code 189 = .ok (.bipush 15, 2) by decide +kernel) (by decide) ?_
  refine Ev_bipush (v := 115) hq_128 (show decode prog_7_method_1_code 191 = .ok (.bipush 115, 2) by decide +kernel) (by decide) ?_
  refine Ev_lit (k := 15) (l := lawL) hq_128 (show decode prog_7_method_1_code 193 = .ok (.iastore, 1) by decide +kernel) (by decide +kernel) (by decide +kernel) (by decide +kernel) (by decide) rfl ?_
  refine Ev_dup hq_128 (show decode prog_7_method_1_code 194 = .ok (.dup, 1) by decide +kernel) rfl ?_
  refine Ev_bipush (v := 16) hq_128 (show decode prog_7_method_1_code 195 = .ok (.bipush 16, 2) by decide +kernel) (by decide) ?_
  refine Ev_bipush (v := 116) hq_128 (show decode prog_7_method_1_code 197 = .ok (.bipush 116, 2) by decide +kernel) (by decide) ?_
  refine Ev_lit (k := 16) (l := lawL) hq_128 (show decode prog_7_method_1_code 199 = .ok (.iastore, 1) by decide +kernel) (by decide +kernel) (by decide +kernel) (by decide +kernel) (by decide) rfl ?_
  refine Ev_dup hq_128 (show decode prog_7_method_1_code 200 = .ok (.dup, 1) by decide +kernel) rfl ?_
  refine Ev_bipush (v := 17) hq_128 (show decode prog_7_method_1_code 201 = .ok (.bipush 17, 2) by decide +kernel) (by decide) ?_
  refine Ev_bipush (v := 115) hq_128 (show decode prog_7_method_1_code 203 = .ok (.bipush 115, 2) by decide +kernel) (by decide) ?_
  refine Ev_lit (k := 17) (l := lawL) hq_128 (show decode prog_7_method_1_code 205 = .ok (.iastore, 1) by decide +kernel) (by decide +kernel) (by decide +kernel) (by decide +kernel) (by decide) rfl ?_
  refine Ev_dup hq_128 (show decode prog_7_method_1_code 206 = .ok (.dup, 1) by decide +kernel) rfl ?_
  refine Ev_bipush (v := 18) hq_128 (show decode prog_7_method_1_code 207 = .ok (.bipush 18, 2) by decide +kernel) (by decide) ?_
  refine Ev_bipush (v := 32) hq_128 (show decode prog_7_method_1_code 209 = .ok (.bipush 32, 2) by decide +kernel) (by decide) ?_
  refine Ev_lit (k := 18) (l := lawL) hq_128 (show decode prog_7_method_1_code 211 = .ok (.iastore, 1) by decide +kernel) (by decide +kernel) (by decide +kernel) (by decide +kernel) (by decide) rfl ?_
  refine Ev_dup hq_128 (show decode prog_7_method_1_code 212 = .ok (.dup, 1) by decide +kernel) rfl ?_
  refine Ev_bipush (v := 19) hq_128 (show decode prog_7_method_1_code 213 = .ok (.bipush 19, 2) by decide +kernel) (by decide) ?_
  refine Ev_bipush (v := 99) hq_128 (show decode prog_7_method_1_code 215 = .ok (.bipush 99, 2) by decide +kernel) (by decide) ?_
  refine Ev_lit (k := 19) (l := lawL) hq_128 (show decode prog_7_method_1_code 217 = .ok (.iastore, 1) by decide +kernel) (by decide +kernel) (by decide +kernel) (by decide +kernel) (by decide) rfl ?_
  refine Ev_dup hq_128 (show decode prog_7_method_1_code 218 = .ok (.dup, 1) by decide +kernel) rfl ?_
  refine Ev_bipush (v := 20) hq_128 (show decode prog_7_method_1_code 219 = .ok (.bipush 20, 2) by decide +kernel) (by decide) ?_
  refine Ev_bipush (v := 111) hq_128 (show decode prog_7_method_1_code 221 = .ok (.bipush 111, 2) by decide +kernel) (by decide) ?_
  refine Ev_lit (k := 20) (l := lawL) hq_128 (show decode prog_7_method_1_code 223 = .ok (.iastore, 1) by decide +kernel) (by decide +kernel) (by decide +kernel) (by decide +kernel) (by decide) rfl ?_
  refine Ev_dup hq_128 (show decode prog_7_method_1_code 224 = .ok (.dup, 1) by decide +kernel) rfl ?_
  refine Ev_bipush (v := 21) hq_128 (show decode prog_7_method_1_code 225 = .ok (.bipush 21, 2) by decide +kernel) (by decide) ?_
  refine Ev_bipush (v := 108) hq_128 (show decode prog_7_method_1_code 227 = .ok (.bipush 108, 2) by decide +kernel) (by decide) ?_
  refine Ev_lit (k := 21) (l := lawL) hq_128 (show decode prog_7_method_1_code 229 = .ok (.iastore, 1) by decide +kernel) (by decide +kernel) (by decide +kernel) (by decide +kernel) (by decide) rfl ?_
  refine Ev_dup hq_128 (show decode prog_7_method_1_code 230 = .ok (.dup, 1) by decide +kernel) rfl ?_
  refine Ev_bipush (v := 22) hq_128 (show decode prog_7_method_1_code 231 = .ok (.bipush 22, 2) by decide +kernel) (by decide) ?_
  refine Ev_bipush (v := 100) hq_128 (show decode prog_7_method_1_code 233 = .ok (.bipush 100, 2) by decide +kernel) (by decide) ?_
  refine Ev_lit (k := 22) (l := lawL) hq_128 (show decode prog_7_method_1_code 235 = .ok (.iastore, 1) by decide +kernel) (by decide +kernel) (by decide +kernel) (by decide +kernel) (by decide) rfl ?_
  refine Ev_dup hq_128 (show decode prog_7_method_1_code 236 = .ok (.dup, 1) by decide +kernel) rfl ?_
  refine Ev_bipush (v := 23) hq_128 (show decode prog_7_method_1_code 237 = .ok (.bipush 23, 2) by decide +kernel) (by decide) ?_
  refine Ev_bipush (v := 32) hq_128 (show decode prog_7_method_1_code 239 = .ok (.bipush 32, 2) by decide +kernel) (by decide) ?_
  refine Ev_lit (k := 23) (l := lawL) hq_128 (show decode prog_7_method_1_code 241 = .ok (.iastore, 1) by decide +kernel) (by decide +kernel) (by decide +kernel) (by decide +kernel) (by decide) rfl ?_
  refine Ev_dup hq_128 (show decode prog_7_method_1_code 242 = .ok (.dup, 1) by decide +kernel) rfl ?_
  refine Ev_bipush (v := 24) hq_128 (show decode prog_7_method_1_code 243 = .ok (.bipush 24, 2) by decide +kernel) (by decide) ?_
  refine Ev_bipush (v := 42) hq_128 (show decode prog_7_method_1_code 245 = .ok (.bipush 42, 2) by decide +kernel) (by decide) ?_
  refine Ev_lit (k := 24) (l := lawL) hq_128 (show decode prog_7_method_1_code 247 = .ok (.iastore, 1) by decide +kernel) (by decide +kernel) (by decide +kernel) (by decide +kernel) (by decide) rfl ?_
  refine Ev_dup hq_128 (show decode prog_7_method_1_code 248 = .ok (.dup, 1) by decide +kernel) rfl ?_
  refine Ev_bipush (v := 25) hq_128 (show decode prog_7_method_1_code 249 = .ok (.bipush 25, 2) by decide +kernel) (by decide) ?_
  refine Ev_bipush (v := 32) hq_128 (show decode prog_7_method_1_code 251 = .ok (.bipush 32, 2) by decide +kernel) (by decide) ?_
  refine Ev_lit (k := 25) (l := lawL) hq_128 (show decode prog_7_method_1_code 253 = .ok (.iastore, 1) by decide +kernel) (by decide +kernel) (by decide +kernel) (by decide +kernel) (by decide) rfl ?_
  refine Ev_dup hq_128 (show decode prog_7_method_1_code 254 = .ok (.dup, 1) by decide +kernel) rfl ?_
  refine Ev_bipush (v := 26) hq_128 (show decode prog_7_method_1_code 255 = .ok (.bipush 26, 2) by decide +kernel) (by decide) ?_
  refine Ev_bipush (v := 99) hq_128 (show decode prog_7_method_1_code 257 = .ok (.bipush 99, 2) by decide +kernel) (by decide) ?_
  refine Ev_lit (k := 26) (l := lawL) hq_128 (show decode prog_7_method_1_code 259 = .ok (.iastore, 1) by decide +kernel) (by decide +kernel) (by decide +kernel) (by decide +kernel) (by decide) rfl ?_
  refine Ev_dup hq_128 (show decode prog_7_method_1_code 260 = .ok (.dup, 1) by decide +kernel) rfl ?_
  refine Ev_bipush (v := 27) hq_128 (show decode prog_7_method_1_code 261 = .ok (.bipush 27, 2) by decide +kernel) (by decide) ?_
  refine Ev_bipush (v := 111) hq_128 (show decode prog_7_method_1_code 263 = .ok (.bipush 111, 2) by decide +kernel) (by decide) ?_
  refine Ev_lit (k := 27) (l := lawL) hq_128 (show decode prog_7_method_1_code 265 = .ok (.iastore, 1) by decide +kernel) (by decide +kernel) (by decide +kernel) (by decide +kernel) (by decide) rfl ?_
  refine Ev_dup hq_128 (show decode prog_7_method_1_code 266 = .ok (.dup, 1) by decide +kernel) rfl ?_
  refine Ev_bipush (v := 28) hq_128 (show decode prog_7_method_1_code 267 = .ok (.bipush 28, 2) by decide +kernel) (by decide) ?_
  refine Ev_bipush (v := 108) hq_128 (show decode prog_7_method_1_code 269 = .ok (.bipush 108, 2) by decide +kernel) (by decide) ?_
  refine Ev_lit (k := 28) (l := lawL) hq_128 (show decode prog_7_method_1_code 271 = .ok (.iastore, 1) by decide +kernel) (by decide +kernel) (by decide +kernel) (by decide +kernel) (by decide) rfl ?_
  refine Ev_dup hq_128 (show decode prog_7_method_1_code 272 = .ok (.dup, 1) by decide +kernel) rfl ?_
  refine Ev_bipush (v := 29) hq_128 (show decode prog_7_method_1_code 273 = .ok (.bipush 29, 2) by decide +kernel) (by decide) ?_
  refine Ev_bipush (v := 100) hq_128 (show decode prog_7_method_1_code 275 = .ok (.bipush 100, 2) by decide +kernel) (by decide) ?_
  refine Ev_lit (k := 29) (l := lawL) hq_128 (show decode prog_7_method_1_code 277 = .ok (.iastore, 1) by decide +kernel) (by decide +kernel) (by decide +kernel) (by decide +kernel) (by decide) rfl ?_
  refine Ev_dup hq_128 (show decode prog_7_method_1_code 278 = .ok (.dup, 1) by decide +kernel) rfl ?_
  refine Ev_bipush (v := 30) hq_128 (show decode prog_7_method_1_code 279 = .ok (.bipush 30, 2) by decide +kernel) (by decide) ?_
  refine Ev_bipush (v := 32) hq_128 (show decode prog_7_method_1_code 281 = .ok (.bipush 32, 2) by decide +kernel) (by decide) ?_
  refine Ev_lit (k := 30) (l := lawL) hq_128 (show decode prog_7_method_1_code 283 = .ok (.iastore, 1) by decide +kernel) (by decide +kernel) (by decide +kernel) (by decide +kernel) (by decide) rfl ?_
  refine Ev_dup hq_128 (show decode prog_7_method_1_code 284 = .ok (.dup, 1) by decide +kernel) rfl ?_
  refine Ev_bipush (v := 31) hq_128 (show decode prog_7_method_1_code 285 = .ok (.bipush 31, 2) by decide +kernel) (by decide) ?_
  refine Ev_bipush (v := 59) hq_128 (show decode prog_7_method_1_code 287 = .ok (.bipush 59, 2) by decide +kernel) (by decide) ?_
  refine Ev_lit (k := 31) (l := lawL) hq_128 (show decode prog_7_method_1_code 289 = .ok (.iastore, 1) by decide +kernel) (by decide +kernel) (by decide +kernel) (by decide +kernel) (by decide) rfl ?_
  refine Ev_dup hq_128 (show decode prog_7_method_1_code 290 = .ok (.dup, 1) by decide +kernel) rfl ?_
  refine Ev_bipush (v := 32) hq_128 (show decode prog_7_method_1_code 291 = .ok (.bipush 32, 2) by decide +kernel) (by decide) ?_
  refine Ev_bipush (v := 32) hq_128 (show decode prog_7_method_1_code 293 = .ok (.bipush 32, 2) by decide +kernel) (by decide) ?_
  refine Ev_lit (k := 32) (l := lawL) hq_128 (show decode prog_7_method_1_code 295 = .ok (.iastore, 1) by decide +kernel) (by decide +kernel) (by decide +kernel) (by decide +kernel) (by decide) rfl ?_
  refine Ev_dup hq_128 (show decode prog_7_method_1_code 296 = .ok (.dup, 1) by decide +kernel) rfl ?_
  refine Ev_bipush (v := 33) hq_128 (show decode prog_7_method_1_code 297 = .ok (.bipush 33, 2) by decide +kernel) (by decide) ?_
  refine Ev_bipush (v := 121) hq_128 (show decode prog_7_method_1_code 299 = .ok (.bipush 121, 2) by decide +kernel) (by decide) ?_
  refine Ev_lit (k := 33) (l := lawL) hq_128 (show decode prog_7_method_1_code 301 = .ok (.iastore, 1) by decide +kernel) (by decide +kernel) (by decide +kernel) (by decide +kernel) (by decide) rfl ?_
  refine Ev_dup hq_128 (show decode prog_7_method_1_code 302 = .ok (.dup, 1) by decide +kernel) rfl ?_
  refine Ev_bipush (v := 34) hq_128 (show decode prog_7_method_1_code 303 = .ok (.bipush 34, 2) by decide +kernel) (by decide) ?_
  refine Ev_bipush (v := 101) hq_128 (show decode prog_7_method_1_code 305 = .ok (.bipush 101, 2) by decide +kernel) (by decide) ?_
  refine Ev_lit (k := 34) (l := lawL) hq_128 (show decode prog_7_method_1_code 307 = .ok (.iastore, 1) by decide +kernel) (by decide +kernel) (by decide +kernel) (by decide +kernel) (by decide) rfl ?_
  refine Ev_dup hq_128 (show decode prog_7_method_1_code 308 = .ok (.dup, 1) by decide +kernel) rfl ?_
  refine Ev_bipush (v := 35) hq_128 (show decode prog_7_method_1_code 309 = .ok (.bipush 35, 2) by decide +kernel) (by decide) ?_
  refine Ev_bipush (v := 108) hq_128 (show decode prog_7_method_1_code 311 = .ok (.bipush 108, 2) by decide +kernel) (by decide) ?_
  refine Ev_lit (k := 35) (l := lawL) hq_128 (show decode prog_7_method_1_code 313 = .ok (.iastore, 1) by decide +kernel) (by decide +kernel) (by decide +kernel) (by decide +kernel) (by decide) rfl ?_
  refine Ev_dup hq_128 (show decode prog_7_method_1_code 314 = .ok (.dup, 1) by decide +kernel) rfl ?_
  refine Ev_bipush (v := 36) hq_128 (show decode prog_7_method_1_code 315 = .ok (.bipush 36, 2) by decide +kernel) (by decide) ?_
  refine Ev_bipush (v := 108) hq_128 (show decode prog_7_method_1_code 317 = .ok (.bipush 108, 2) by decide +kernel) (by decide) ?_
  refine Ev_lit (k := 36) (l := lawL) hq_128 (show decode prog_7_method_1_code 319 = .ok (.iastore, 1) by decide +kernel) (by decide +kernel) (by decide +kernel) (by decide +kernel) (by decide) rfl ?_
  refine Ev_dup hq_128 (show decode prog_7_method_1_code 320 = .ok (.dup, 1) by decide +kernel) rfl ?_
  refine Ev_bipush (v := 37) hq_128 (show decode prog_7_method_1_code 321 = .ok (.bipush 37, 2) by decide +kernel) (by decide) ?_
  refine Ev_bipush (v := 115) hq_128 (show decode prog_7_method_1_code 323 = .ok (.bipush 115, 2) by decide +kernel) (by decide) ?_
  refine Ev_lit (k := 37) (l := lawL) hq_128 (show decode prog_7_method_1_code 325 = .ok (.iastore, 1) by decide +kernel) (by decide +kernel) (by decide +kernel) (by decide +kernel) (by decide) rfl ?_
  refine Ev_dup hq_128 (show decode prog_7_method_1_code 326 = .ok (.dup, 1) by decide +kernel) rfl ?_
  refine Ev_bipush (v := 38) hq_128 (show decode prog_7_method_1_code 327 = .ok (.bipush 38, 2) by decide +kernel) (by decide) ?_
  refine Ev_bipush (v := 32) hq_128 (show decode prog_7_method_1_code 329 = .ok (.bipush 32, 2) by decide +kernel) (by decide) ?_
  refine Ev_lit (k := 38) (l := lawL) hq_128 (show decode prog_7_method_1_code 331 = .ok (.iastore, 1) by decide +kernel) (by decide +kernel) (by decide +kernel) (by decide +kernel) (by decide) rfl ?_
  refine Ev_dup hq_128 (show decode prog_7_method_1_code 332 = .ok (.dup, 1) by decide +kernel) rfl ?_
  refine Ev_bipush (v := 39) hq_128 (show decode prog_7_method_1_code 333 = .ok (.bipush 39, 2) by decide +kernel) (by decide) ?_
  refine Ev_bipush (v := 99) hq_128 (show decode prog_7_method_1_code 335 = .ok (.bipush 99, 2) by decide +kernel) (by decide) ?_
  refine Ev_lit (k := 39) (l := lawL) hq_128 (show decode prog_7_method_1_code 337 = .ok (.iastore, 1) by decide +kernel) (by decide +kernel) (by decide +kernel) (by decide +kernel) (by decide) rfl ?_
  refine Ev_dup hq_128 (show decode prog_7_method_1_code 338 = .ok (.dup, 1) by decide +kernel) rfl ?_
  refine Ev_bipush (v := 40) hq_128 (show decode prog_7_method_1_code 339 = .ok (.bipush 40, 2) by decide +kernel) (by decide) ?_
  refine Ev_bipush (v := 111) hq_128 (show decode prog_7_method_1_code 341 = .ok (.bipush 111, 2) by decide +kernel) (by decide) ?_
  refine Ev_lit (k := 40) (l := lawL) hq_128 (show decode prog_7_method_1_code 343 = .ok (.iastore, 1) by decide +kernel) (by decide +kernel) (by decide +kernel) (by decide +kernel) (by decide) rfl ?_
  refine Ev_dup hq_128 (show decode prog_7_method_1_code 344 = .ok (.dup, 1) by decide +kernel) rfl ?_
  refine Ev_bipush (v := 41) hq_128 (show decode prog_7_method_1_code 345 = .ok (.bipush 41, 2) by decide +kernel) (by decide) ?_
  refine Ev_bipush (v := 108) hq_128 (show decode prog_7_method_1_code 347 = .ok (.bipush 108, 2) by decide +kernel) (by decide) ?_
  refine Ev_lit (k := 41) (l := lawL) hq_128 (show decode prog_7_method_1_code 349 = .ok (.iastore, 1) by decide +kernel) (by decide +kernel) (by decide +kernel) (by decide +kernel) (by decide) rfl ?_
  refine Ev_dup hq_128 (show decode prog_7_method_1_code 350 = .ok (.dup, 1) by decide +kernel) rfl ?_
  refine Ev_bipush (v := 42) hq_128 (show decode prog_7_method_1_code 351 = .ok (.bipush 42, 2) by decide +kernel) (by decide) ?_
  refine Ev_bipush (v := 100) hq_128 (show decode prog_7_method_1_code 353 = .ok (.bipush 100, 2) by decide +kernel) (by decide) ?_
  refine Ev_lit (k := 42) (l := lawL) hq_128 (show decode prog_7_method_1_code 355 = .ok (.iastore, 1) by decide +kernel) (by decide +kernel) (by decide +kernel) (by decide +kernel) (by decide) rfl ?_
  refine Ev_dup hq_128 (show decode prog_7_method_1_code 356 = .ok (.dup, 1) by decide +kernel) rfl ?_
  refine Ev_bipush (v := 43) hq_128 (show decode prog_7_method_1_code 357 = .ok (.bipush 43, 2) by decide +kernel) (by decide) ?_
  refine Ev_bipush (v := 32) hq_128 (show decode prog_7_method_1_code 359 = .ok (.bipush 32, 2) by decide +kernel) (by decide) ?_
  refine Ev_lit (k := 43) (l := lawL) hq_128 (show decode prog_7_method_1_code 361 = .ok (.iastore, 1) by decide +kernel) (by decide +kernel) (by decide +kernel) (by decide +kernel) (by decide) rfl ?_
  refine Ev_dup hq_128 (show decode prog_7_method_1_code 362 = .ok (.dup, 1) by decide +kernel) rfl ?_
  refine Ev_bipush (v := 44) hq_128 (show decode prog_7_method_1_code 363 = .ok (.bipush 44, 2) by decide +kernel) (by decide) ?_
  refine Ev_bipush (v := 60) hq_128 (show decode prog_7_method_1_code 365 = .ok (.bipush 60, 2) by decide +kernel) (by decide) ?_
  refine Ev_lit (k := 44) (l := lawL) hq_128 (show decode prog_7_method_1_code 367 = .ok (.iastore, 1) by decide +kernel) (by decide +kernel) (by decide +kernel) (by decide +kernel) (by decide) rfl ?_
  refine Ev_dup hq_128 (show decode prog_7_method_1_code 368 = .ok (.dup, 1) by decide +kernel) rfl ?_
  refine Ev_bipush (v := 45) hq_128 (show decode prog_7_method_1_code 369 = .ok (.bipush 45, 2) by decide +kernel) (by decide) ?_
  refine Ev_bipush (v := 32) hq_128 (show decode prog_7_method_1_code 371 = .ok (.bipush 32, 2) by decide +kernel) (by decide) ?_
  refine Ev_lit (k := 45) (l := lawL) hq_128 (show decode prog_7_method_1_code 373 = .ok (.iastore, 1) by decide +kernel) (by decide +kernel) (by decide +kernel) (by decide +kernel) (by decide) rfl ?_
  refine Ev_dup hq_128 (show decode prog_7_method_1_code 374 = .ok (.dup, 1) by decide +kernel) rfl ?_
  refine Ev_bipush (v := 46) hq_128 (show decode prog_7_method_1_code 375 = .ok (.bipush 46, 2) by decide +kernel) (by decide) ?_
  refine Ev_bipush (v := 48) hq_128 (show decode prog_7_method_1_code 377 = .ok (.bipush 48, 2) by decide +kernel) (by decide) ?_
  refine Ev_lit (k := 46) (l := lawL) hq_128 (show decode prog_7_method_1_code 379 = .ok (.iastore, 1) by decide +kernel) (by decide +kernel) (by decide +kernel) (by decide +kernel) (by decide) rfl ?_
  refine Ev_dup hq_128 (show decode prog_7_method_1_code 380 = .ok (.dup, 1) by decide +kernel) rfl ?_
  refine Ev_bipush (v := 47) hq_128 (show decode prog_7_method_1_code 381 = .ok (.bipush 47, 2) by decide +kernel) (by decide) ?_
  refine Ev_bipush (v := 32) hq_128 (show decode prog_7_method_1_code 383 = .ok (.bipush 32, 2) by decide +kernel) (by decide) ?_
  refine Ev_lit (k := 47) (l := lawL) hq_128 (show decode prog_7_method_1_code 385 = .ok (.iastore, 1) by decide +kernel) (by decide +kernel) (by decide +kernel) (by decide +kernel) (by decide) rfl ?_
  refine Ev_dup hq_128 (show decode prog_7_method_1_code 386 = .ok (.dup, 1) by decide +kernel) rfl ?_
  refine Ev_bipush (v := 48) hq_128 (show decode prog_7_method_1_code 387 = .ok (.bipush 48, 2) by decide +kernel) (by decide) ?_
  refine Ev_bipush (v := 45) hq_128 (show decode prog_7_method_1_code 389 = .ok (.bipush 45, 2) by decide +kernel) (by decide) ?_
  refine Ev_lit (k := 48) (l := lawL) hq_128 (show decode prog_7_method_1_code 391 = .ok (.iastore, 1) by decide +kernel) (by decide +kernel) (by decide +kernel) (by decide +kernel) (by decide) rfl ?_
  refine Ev_dup hq_128 (show decode prog_7_method_1_code 392 = .ok (.dup, 1) by decide +kernel) rfl ?_
  refine Ev_bipush (v := 49) hq_128 (show decode prog_7_method_1_code 393 = .ok (.bipush 49, 2) by decide +kernel) (by decide) ?_
  refine Ev_bipush (v := 32) hq_128 (show decode prog_7_method_1_code 395 = .ok (.bipush 32, 2) by decide +kernel) (by decide) ?_
  refine Ev_lit (k := 49) (l := lawL) hq_128 (show decode prog_7_method_1_code 397 = .ok (.iastore, 1) by decide +kernel) (by decide +kernel) (by decide +kernel) (by decide +kernel) (by decide) rfl ?_
  refine Ev_dup hq_128 (show decode prog_7_method_1_code 398 = .ok (.dup, 1) by decide +kernel) rfl ?_
  refine Ev_bipush (v := 50) hq_128 (show decode prog_7_method_1_code 399 = .ok (.bipush 50, 2) by decide +kernel) (by decide) ?_
  refine Ev_bipush (v := 50) hq_128 (show decode prog_7_method_1_code 401 = .ok (.bipush 50, 2) by decide +kernel) (by decide) ?_
  refine Ev_lit (k := 50) (l := lawL) hq_128 (show decode prog_7_method_1_code 403 = .ok (.iastore, 1) by decide +kernel) (by decide +kernel) (by decide +kernel) (by decide +kernel) (by decide) rfl ?_
  refine Ev_dup hq_128 (show decode prog_7_method_1_code 404 = .ok (.dup, 1) by decide +kernel) rfl ?_
  refine Ev_bipush (v := 51) hq_128 (show decode prog_7_method_1_code 405 = .ok (.bipush 51, 2) by decide +kernel) (by decide) ?_
  refine Ev_bipush (v := 48) hq_128 (show decode prog_7_method_1_code 407 = .ok (.bipush 48, 2) by decide +kernel) (by decide) ?_
  refine Ev_lit (k := 51) (l := lawL) hq_128 (show decode prog_7_method_1_code 409 = .ok (.iastore, 1) by decide +kernel) (by decide +kernel) (by decide +kernel) (by decide +kernel) (by decide) rfl ?_
  refine Ev_dup hq_128 (show decode prog_7_method_1_code 410 = .ok (.dup, 1) by decide +kernel) rfl ?_
  refine Ev_bipush (v := 52) hq_128 (show decode prog_7_method_1_code 411 = .ok (.bipush 52, 2) by decide +kernel) (by decide) ?_
  refine Ev_bipush (v := 32) hq_128 (show decode prog_7_method_1_code 413 = .ok (.bipush 32, 2) by decide +kernel) (by decide) ?_
  refine Ev_lit (k := 52) (l := lawL) hq_128 (show decode prog_7_method_1_code 415 = .ok (.iastore, 1) by decide +kernel) (by decide +kernel) (by decide +kernel) (by decide +kernel) (by decide) rfl ?_
  refine Ev_dup hq_128 (show decode prog_7_method_1_code 416 = .ok (.dup, 1) by decide +kernel) rfl ?_
  refine Ev_bipush (v := 53) hq_128 (show decode prog_7_method_1_code 417 = .ok (.bipush 53, 2) by decide +kernel) (by decide) ?_
  refine Ev_bipush (v := 59) hq_128 (show decode prog_7_method_1_code 419 = .ok (.bipush 59, 2) by decide +kernel) (by decide) ?_
  refine Ev_lit (k := 53) (l := lawL) hq_128 (show decode prog_7_method_1_code 421 = .ok (.iastore, 1) by decide +kernel) (by decide +kernel) (by decide +kernel) (by decide +kernel) (by decide) rfl ?_
  refine Ev_pR (G2 := mG23) hq_128 (show decode prog_7_method_1_code 422 = .ok (.putfield 40, 3) by decide +kernel) rfl (by decide +kernel) (by decide +kernel) (by decide) (by decide) rfl rfl ?_
  refine Ev_aload_n hq_128 (show decode prog_7_method_1_code 425 = .ok (.aload_n 0, 1) by decide +kernel) rfl ?_
  refine Ev_bipush (v := 96) hq_128 (show decode prog_7_method_1_code 426 = .ok (.bipush 96, 2) by decide +kernel) (by decide) ?_
  refine Ev_nI (l := 96) (G2 := mG24) (I2 := (mI15 I)) hq_128 (show decode prog_7_method_1_code 428 = .ok (.newarray .int, 2) by decide +kernel) rfl (by decide) (by decide) (by decide) mG23_n rfl wU_0.symm ?_
  refine Ev_dup hq_128 (show decode prog_7_method_1_code 430 = .ok (.dup, 1) by decide +kernel) rfl ?_
  refine Ev_iconst (v := 0) hq_128 (show decode prog_7_method_1_code 431 = .ok (.iconst 0, 1) by decide +kernel) (by decide) ?_
  refine Ev_bipush (v := 116) hq_128 (show decode prog_7_method_1_code 432 = .ok (.bipush 116, 2) by decide +kernel) (by decide) ?_
  refine Ev_lit (k := 0) (l := wdL) hq_128 (show decode prog_7_method_1_code 434 = .ok (.iastore, 1) by decide +kernel) (by decide +kernel) (by decide +kernel) (by decide +kernel) (by decide) rfl ?_
  refine Ev_dup hq_128 (show decode prog_7_method_1_code 435 = .ok (.dup, 1) by decide +kernel) rfl ?_
  refine Ev_iconst (v := 1) hq_128 (show decode prog_7_method_1_code 436 = .ok (.iconst 1, 1) by decide +kernel) (by decide) ?_
  refine Ev_bipush (v := 117) hq_128 (show decode prog_7_method_1_code 437 = .ok (.bipush 117, 2) by decide +kernel) (by decide) ?_
  refine Ev_lit (k := 1) (l := wdL) hq_128 (show decode prog_7_method_1_code 439 = .ok (.iastore, 1) by decide +kernel) (by decide +kernel) (by decide +kernel) (by decide +kernel) (by decide) rfl ?_
  refine Ev_dup hq_128 (show decode prog_7_method_1_code 440 = .ok (.dup, 1) by decide +kernel) rfl ?_
  refine Ev_iconst (v := 2) hq_128 (show decode prog_7_method_1_code 441 = .ok (.iconst 2, 1) by decide +kernel) (by decide) ?_
  refine Ev_bipush (v := 114) hq_128 (show decode prog_7_method_1_code 442 = .ok (.bipush 114, 2) by decide +kernel) (by decide) ?_
  refine Ev_lit (k := 2) (l := wdL) hq_128 (show decode prog_7_method_1_code 444 = .ok (.iastore, 1) by decide +kernel) (by decide +kernel) (by decide +kernel) (by decide +kernel) (by decide) rfl ?_
  refine Ev_dup hq_128 (show decode prog_7_method_1_code 445 = .ok (.dup, 1) by decide +kernel) rfl ?_
  refine Ev_iconst (v := 3) hq_128 (show decode prog_7_method_1_code 446 = .ok (.iconst 3, 1) by decide +kernel) (by decide) ?_
  refine Ev_bipush (v := 110) hq_128 (show decode prog_7_method_1_code 447 = .ok (.bipush 110, 2) by decide +kernel) (by decide) ?_
  refine Ev_lit (k := 3) (l := wdL) hq_128 (show decode prog_7_method_1_code 449 = .ok (.iastore, 1) by decide +kernel) (by decide +kernel) (by decide +kernel) (by decide +kernel) (by decide) rfl ?_
  refine Ev_dup hq_128 (show decode prog_7_method_1_code 450 = .ok (.dup, 1) by decide +kernel) rfl ?_
  refine Ev_iconst (v := 4) hq_128 (show decode prog_7_method_1_code 451 = .ok (.iconst 4, 1) by decide +kernel) (by decide) ?_
  refine Ev_bipush (v := 115) hq_128 (show decode prog_7_method_1_code 452 = .ok (.bipush 115, 2) by decide +kernel) (by decide) ?_
  refine Ev_lit (k := 4) (l := wdL) hq_128 (show decode prog_7_method_1_code 454 = .ok (.iastore, 1) by decide +kernel) (by decide +kernel) (by decide +kernel) (by decide +kernel) (by decide) rfl ?_
  refine Ev_dup hq_128 (show decode prog_7_method_1_code 455 = .ok (.dup, 1) by decide +kernel) rfl ?_
  refine Ev_iconst (v := 5) hq_128 (show decode prog_7_method_1_code 456 = .ok (.iconst 5, 1) by decide +kernel) (by decide) ?_
  refine Ev_bipush (v := 32) hq_128 (show decode prog_7_method_1_code 457 = .ok (.bipush 32, 2) by decide +kernel) (by decide) ?_
  refine Ev_lit (k := 5) (l := wdL) hq_128 (show decode prog_7_method_1_code 459 = .ok (.iastore, 1) by decide +kernel) (by decide +kernel) (by decide +kernel) (by decide +kernel) (by decide) rfl ?_
  refine Ev_dup hq_128 (show decode prog_7_method_1_code 460 = .ok (.dup, 1) by decide +kernel) rfl ?_
  refine Ev_bipush (v := 6) hq_128 (show decode prog_7_method_1_code 461 = .ok (.bipush 6, 2) by decide +kernel) (by decide) ?_
  refine Ev_bipush (v := 32) hq_128 (show decode prog_7_method_1_code 463 = .ok (.bipush 32, 2) by decide +kernel) (by decide) ?_
  refine Ev_lit (k := 6) (l := wdL) hq_128 (show decode prog_7_method_1_code 465 = .ok (.iastore, 1) by decide +kernel) (by decide +kernel) (by decide +kernel) (by decide +kernel) (by decide) rfl ?_
  refine Ev_dup hq_128 (show decode prog_7_method_1_code 466 = .ok (.dup, 1) by decide +kernel) rfl ?_
  refine Ev_bipush (v := 7) hq_128 (show decode prog_7_method_1_code 467 = .ok (.bipush 7, 2) by decide +kernel) (by decide) ?_
  refine Ev_bipush (v := 32) hq_128 (show decode prog_7_method_1_code 469 = .ok (.bipush 32, 2) by decide +kernel) (by decide) ?_
  refine Ev_lit (k := 7) (l := wdL) hq_128 (show decode prog_7_method_1_code 471 = .ok (.iastore, 1) by decide +kernel) (by decide +kernel) (by decide +kernel) (by decide +kernel) (by decide) rfl ?_
  refine Ev_dup hq_128 (show decode prog_7_method_1_code 472 = .ok (.dup, 1) by decide +kernel) rfl ?_
  refine Ev_bipush (v := 8) hq_128 (show decode prog_7_method_1_code 473 = .ok (.bipush 8, 2) by decide +kernel) (by decide) ?_
  refine Ev_bipush (v := 99) hq_128 (show decode prog_7_method_1_code 475 = .ok (.bipush 99, 2) by decide +kernel) (by decide) ?_
  refine Ev_lit (k := 8) (l := wdL) hq_128 (show decode prog_7_method_1_code 477 = .ok (.iastore, 1) by decide +kernel) (by decide +kernel) (by decide +kernel) (by decide +kernel) (by decide) rfl ?_
  refine Ev_dup hq_128 (show decode prog_7_method_1_code 478 = .ok (.dup, 1) by decide +kernel) rfl ?_
  refine Ev_bipush (v := 9) hq_128 (show decode prog_7_method_1_code 479 = .ok (.bipush 9, 2) by decide +kernel) (by decide) ?_
  refine Ev_bipush (v := 111) hq_128 (show decode prog_7_method_1_code 481 = .ok (.bipush 111, 2) by decide +kernel) (by decide) ?_
  refine Ev_lit (k := 9) (l := wdL) hq_128 (show decode prog_7_method_1_code 483 = .ok (.iastore, 1) by decide +kernel) (by decide +kernel) (by decide +kernel) (by decide +kernel) (by decide) rfl ?_
  refine Ev_dup hq_128 (show decode prog_7_method_1_code 484 = .ok (.dup, 1) by decide +kernel) rfl ?_
  refine Ev_bipush (v := 10) hq_128 (show decode prog_7_method_1_code 485 = .ok (.bipush 10, 2) by decide +kernel) (by decide) ?_
  refine Ev_bipush (v := 115) hq_128 (show decode prog_7_method_1_code 487 = .ok (.bipush 115, 2) by decide +kernel) (by decide) ?_
  refine Ev_lit (k := 10) (l := wdL) hq_128 (show decode prog_7_method_1_code 489 = .ok (.iastore, 1) by decide +kernel) (by decide +kernel) (by decide +kernel) (by decide +kernel) (by decide) rfl ?_
  refine Ev_dup hq_128 (show decode prog_7_method_1_code 490 = .ok (.dup, 1) by decide +kernel) rfl ?_
  refine Ev_bipush (v := 11) hq_128 (show decode prog_7_method_1_code 491 = .ok (.bipush 11, 2) by decide +kernel) (by decide) ?_
  refine Ev_bipush (v := 116) hq_128 (show decode prog_7_method_1_code 493 = .ok (.bipush 116, 2) by decide +kernel) (by decide) ?_
  refine Ev_lit (k := 11) (l := wdL) hq_128 (show decode prog_7_method_1_code 495 = .ok (.iastore, 1) by decide +kernel) (by decide +kernel) (by decide +kernel) (by decide +kernel) (by decide) rfl ?_
  refine Ev_dup hq_128 (show decode prog_7_method_1_code 496 = .ok (.dup, 1) by decide +kernel) rfl ?_
  refine Ev_bipush (v := 12) hq_128 (show decode prog_7_method_1_code 497 = .ok (.bipush 12, 2) by decide +kernel) (by decide) ?_
  refine Ev_bipush (v := 115) hq_128 (show decode prog_7_method_1_code 499 = .ok (.bipush 115, 2) by decide +kernel) (by decide) ?_
  refine Ev_lit (k := 12) (l := wdL) hq_128 (show decode prog_7_method_1_code 501 = .ok (.iastore, 1) by decide +kernel) (by decide +kernel) (by decide +kernel) (by decide +kernel) (by decide) rfl ?_
  refine Ev_dup hq_128 (show decode prog_7_method_1_code 502 = .ok (.dup, 1) by decide +kernel) rfl ?_
  refine Ev_bipush (v := 13) hq_128 (show decode prog_7_method_1_code 503 = .ok (.bipush 13, 2) by decide +kernel) (by decide) ?_
  refine Ev_bipush (v := 32) hq_128 (show decode prog_7_method_1_code 505 = .ok (.bipush 32, 2) by decide +kernel) (by decide) ?_
  refine Ev_lit (k := 13) (l := wdL) hq_128 (show decode prog_7_method_1_code 507 = .ok (.iastore, 1) by decide +kernel) (by decide +kernel) (by decide +kernel) (by decide +kernel) (by decide) rfl ?_
  refine Ev_dup hq_128 (show decode prog_7_method_1_code 508 = .ok (.dup, 1) by decide +kernel) rfl ?_
  refine Ev_bipush (v := 14) hq_128 (show decode prog_7_method_1_code 509 = .ok (.bipush 14, 2) by decide +kernel) (by decide) ?_
  refine Ev_bipush (v := 32) hq_128 (show decode prog_7_method_1_code 511 = .ok (.bipush 32, 2) by decide +kernel) (by decide) ?_
  refine Ev_lit (k := 14) (l := wdL) hq_128 (show decode prog_7_method_1_code 513 = .ok (.iastore, 1) by decide +kernel) (by decide +kernel) (by decide +kernel) (by decide +kernel) (by decide) rfl ?_
  refine Ev_dup hq_128 (show decode prog_7_method_1_code 514 = .ok (.dup, 1) by decide +kernel) rfl ?_
  refine Ev_bipush (v := 15) hq_128 (show decode prog_7_method_1_code 515 = .ok (.bipush 15, 2) by decide +kernel) (by decide) ?_
  refine Ev_bipush (v := 32) hq_128 (show decode prog_7_method_1_code 517 = .ok (.bipush 32, 2) by decide +kernel) (by decide) ?_
  refine Ev_lit (k := 15) (l := wdL) hq_128 (show decode prog_7_method_1_code 519 = .ok (.iastore, 1) by decide +kernel) (by decide +kernel) (by decide +kernel) (by decide +kernel) (by decide) rfl ?_
  refine Ev_dup hq_128 (show decode prog_7_method_1_code 520 = .ok (.dup, 1) by decide +kernel) rfl ?_
  refine Ev_bipush (v := 16) hq_128 (show decode prog_7_method_1_code 521 = .ok (.bipush 16, 2) by decide +kernel) (by decide) ?_
  refine Ev_bipush (v := 121) hq_128 (show decode prog_7_method_1_code 523 = .ok (.bipush 121, 2) by decide +kernel) (by decide) ?_
  refine Ev_lit (k := 16) (l := wdL) hq_128 (show decode prog_7_method_1_code 525 = .ok (.iastore, 1) by decide +kernel) (by decide +kernel) (by decide +kernel) (by decide +kernel) (by decide) rfl ?_
  refine Ev_dup hq_128 (show decode prog_7_method_1_code 526 = .ok (.dup, 1) by decide +kernel) rfl ?_
  refine Ev_bipush (v := 17) hq_128 (show decode prog_7_method_1_code 527 = .ok (.bipush 17, 2) by decide +kernel) (by decide) ?_
  refine Ev_bipush (v := 101) hq_128 (show decode prog_7_method_1_code 529 = .ok (.bipush 101, 2) by decide +kernel) (by decide) ?_
  refine Ev_lit (k := 17) (l := wdL) hq_128 (show decode prog_7_method_1_code 531 = .ok (.iastore, 1) by decide +kernel) (by decide +kernel) (by decide +kernel) (by decide +kernel) (by decide) rfl ?_
  refine Ev_dup hq_128 (show decode prog_7_method_1_code 532 = .ok (.dup, 1) by decide +kernel) rfl ?_
  refine Ev_bipush (v := 18) hq_128 (show decode prog_7_method_1_code 533 = .ok (.bipush 18, 2) by decide +kernel) (by decide) ?_
  refine Ev_bipush (v := 108) hq_128 (show decode prog_7_method_1_code 535 = .ok (.bipush 108, 2) by decide +kernel) (by decide) ?_
  refine Ev_lit (k := 18) (l := wdL) hq_128 (show decode prog_7_method_1_code 537 = .ok (.iastore, 1) by decide +kernel) (by decide +kernel) (by decide +kernel) (by decide +kernel) (by decide) rfl ?_
  refine Ev_dup hq_128 (show decode prog_7_method_1_code 538 = .ok (.dup, 1) by decide +kernel) rfl ?_
  refine Ev_bipush (v := 19) hq_128 (show decode prog_7_method_1_code 539 = .ok (.bipush 19, 2) by decide +kernel) (by decide) ?_
  refine Ev_bipush (v := 108) hq_128 (show decode prog_7_method_1_code 541 = .ok (.bipush 108, 2) by decide +kernel) (by decide) ?_
  refine Ev_lit (k := 19) (l := wdL) hq_128 (show decode prog_7_method_1_code 543 = .ok (.iastore, 1) by decide +kernel) (by decide +kernel) (by decide +kernel) (by decide +kernel) (by decide) rfl ?_
  refine Ev_dup hq_128 (show decode prog_7_method_1_code 544 = .ok (.dup, 1) by decide +kernel) rfl ?_
  refine Ev_bipush (v := 20) hq_128 (show decode prog_7_method_1_code 545 = .ok (.bipush 20, 2) by decide +kernel) (by decide) ?_
  refine Ev_bipush (v := 115) hq_128 (show decode prog_7_method_1_code 547 = .ok (.bipush 115, 2) by decide +kernel) (by decide) ?_
  refine Ev_lit (k := 20) (l := wdL) hq_128 (show decode prog_7_method_1_code 549 = .ok (.iastore, 1) by decide +kernel) (by decide +kernel) (by decide +kernel) (by decide +kernel) (by decide) rfl ?_
  refine Ev_dup hq_128 (show decode prog_7_method_1_code 550 = .ok (.dup, 1) by decide +kernel) rfl ?_
  refine Ev_bipush (v := 21) hq_128 (show decode prog_7_method_1_code 551 = .ok (.bipush 21, 2) by decide +kernel) (by decide) ?_
  refine Ev_bipush (v := 32) hq_128 (show decode prog_7_method_1_code 553 = .ok (.bipush 32, 2) by decide +kernel) (by decide) ?_
  refine Ev_lit (k := 21) (l := wdL) hq_128 (show decode prog_7_method_1_code 555 = .ok (.iastore, 1) by decide +kernel) (by decide +kernel) (by decide +kernel) (by decide +kernel) (by decide) rfl ?_
  refine Ev_dup hq_128 (show decode prog_7_method_1_code 556 = .ok (.dup, 1) by decide +kernel) rfl ?_
  refine Ev_bipush (v := 22) hq_128 (show decode prog_7_method_1_code 557 = .ok (.bipush 22, 2) by decide +kernel) (by decide) ?_
  refine Ev_bipush (v := 32) hq_128 (show decode prog_7_method_1_code 559 = .ok (.bipush 32, 2) by decide +kernel) (by decide) ?_
  refine Ev_lit (k := 22) (l := wdL) hq_128 (show decode prog_7_method_1_code 561 = .ok (.iastore, 1) by decide +kernel) (by decide +kernel) (by decide +kernel) (by decide +kernel) (by decide) rfl ?_
  refine Ev_dup hq_128 (show decode prog_7_method_1_code 562 = .ok (.dup, 1) by decide +kernel) rfl ?_
  refine Ev_bipush (v := 23) hq_128 (show decode prog_7_method_1_code 563 = .ok (.bipush 23, 2) by decide +kernel) (by decide) ?_
  refine Ev_bipush (v := 32) hq_128 (show decode prog_7_method_1_code 565 = .ok (.bipush 32, 2) by decide +kernel) (by decide) ?_
  refine Ev_lit (k := 23) (l := wdL) hq_128 (show decode prog_7_method_1_code 567 = .ok (.iastore, 1) by decide +kernel) (by decide +kernel) (by decide +kernel) (by decide +kernel) (by decide) rfl ?_
  refine Ev_dup hq_128 (show decode prog_7_method_1_code 568 = .ok (.dup, 1) by decide +kernel) rfl ?_
  refine Ev_bipush (v := 24) hq_128 (show decode prog_7_method_1_code 569 = .ok (.bipush 24, 2) by decide +kernel) (by decide) ?_
  refine Ev_bipush (v := 99) hq_128 (show decode prog_7_method_1_code 571 = .ok (.bipush 99, 2) by decide +kernel) (by decide) ?_
  refine Ev_lit (k := 24) (l := wdL) hq_128 (show decode prog_7_method_1_code 573 = .ok (.iastore, 1) by decide +kernel) (by decide +kernel) (by decide +kernel) (by decide +kernel) (by decide) rfl ?_
  refine Ev_dup hq_128 (show decode prog_7_method_1_code 574 = .ok (.dup, 1) by decide +kernel) rfl ?_
  refine Ev_bipush (v := 25) hq_128 (show decode prog_7_method_1_code 575 = .ok (.bipush 25, 2) by decide +kernel) (by decide) ?_
  refine Ev_bipush (v := 111) hq_128 (show decode prog_7_method_1_code 577 = .ok (.bipush 111, 2) by decide +kernel) (by decide) ?_
  refine Ev_lit (k := 25) (l := wdL) hq_128 (show decode prog_7_method_1_code 579 = .ok (.iastore, 1) by decide +kernel) (by decide +kernel) (by decide +kernel) (by decide +kernel) (by decide) rfl ?_
  refine Ev_dup hq_128 (show decode prog_7_method_1_code 580 = .ok (.dup, 1) by decide +kernel) rfl ?_
  refine Ev_bipush (v := 26) hq_128 (show decode prog_7_method_1_code 581 = .ok (.bipush 26, 2) by decide +kernel) (by decide) ?_
  refine Ev_bipush (v := 108) hq_128 (show decode prog_7_method_1_code 583 = .ok (.bipush 108, 2) by decide +kernel) (by decide) ?_
  refine Ev_lit (k := 26) (l := wdL) hq_128 (show decode prog_7_method_1_code 585 = .ok (.iastore, 1) by decide +kernel) (by decide +kernel) (by decide +kernel) (by decide +kernel) (by decide) rfl ?_
  refine Ev_dup hq_128 (show decode prog_7_method_1_code 586 = .ok (.dup, 1) by decide +kernel) rfl ?_
  refine Ev_bipush (v := 27) hq_128 (show decode prog_7_method_1_code 587 = .ok (.bipush 27, 2) by decide +kernel) (by decide) ?_
  refine Ev_bipush (v := 100) hq_128 (show decode prog_7_method_1_code 589 = .ok (.bipush 100, 2) by decide +kernel) (by decide) ?_
  refine Ev_lit (k := 27) (l := wdL) hq_128 (show decode prog_7_method_1_code 591 = .ok (.iastore, 1) by decide +kernel) (by decide +kernel) (by decide +kernel) (by decide +kernel) (by decide) rfl ?_
  refine Ev_dup hq_128 (show decode prog_7_method_1_code 592 = .ok (.dup, 1) by decide +kernel) rfl ?_
  refine Ev_bipush (v := 28) hq_128 (show decode prog_7_method_1_code 593 = .ok (.bipush 28, 2) by decide +kernel) (by decide) ?_
  refine Ev_bipush (v := 32) hq_128 (show decode prog_7_method_1_code 595 = .ok (.bipush 32, 2) by decide +kernel) (by decide) ?_
  refine Ev_lit (k := 28) (l := wdL) hq_128 (show decode prog_7_method_1_code 597 = .ok (.iastore, 1) by decide +kernel) (by decide +kernel) (by decide +kernel) (by decide +kernel) (by decide) rfl ?_
  refine Ev_dup hq_128 (show decode prog_7_method_1_code 598 = .ok (.dup, 1) by decide +kernel) rfl ?_
  refine Ev_bipush (v := 29) hq_128 (show decode prog_7_method_1_code 599 = .ok (.bipush 29, 2) by decide +kernel) (by decide) ?_
  refine Ev_bipush (v := 32) hq_128 (show decode prog_7_method_1_code 601 = .ok (.bipush 32, 2) by decide +kernel) (by decide) ?_
  refine Ev_lit (k := 29) (l := wdL) hq_128 (show decode prog_7_method_1_code 603 = .ok (.iastore, 1) by decide +kernel) (by decide +kernel) (by decide +kernel) (by decide +kernel) (by decide) rfl ?_
  refine Ev_dup hq_128 (show decode prog_7_method_1_code 604 = .ok (.dup, 1) by decide +kernel) rfl ?_
  refine Ev_bipush (v := 30) hq_128 (show decode prog_7_method_1_code 605 = .ok (.bipush 30, 2) by decide +kernel) (by decide) ?_
  refine Ev_bipush (v := 32) hq_128 (show decode prog_7_method_1_code 607 = .ok (.bipush 32, 2) by decide +kernel) (by decide) ?_
  refine Ev_lit (k := 30) (l := wdL) hq_128 (show decode prog_7_method_1_code 609 = .ok (.iastore, 1) by decide +kernel) (by decide +kernel) (by decide +kernel) (by decide +kernel) (by decide) rfl ?_
  refine Ev_dup hq_128 (show decode prog_7_method_1_code 610 = .ok (.dup, 1) by decide +kernel) rfl ?_
  refine Ev_bipush (v := 31) hq_128 (show decode prog_7_method_1_code 611 = .ok (.bipush 31, 2) by decide +kernel) (by decide) ?_
  refine Ev_bipush (v := 32) hq_128 (show decode prog_7_method_1_code 613 = .ok (.bipush 32, 2) by decide +kernel) (by decide) ?_
  refine Ev_lit (k := 31) (l := wdL) hq_128 (show decode prog_7_method_1_code 615 = .ok (.iastore, 1) by decide +kernel) (by decide +kernel) (by decide +kernel) (by decide +kernel) (by decide) rfl ?_
  refine Ev_dup hq_128 (show decode prog_7_method_1_code 616 = .ok (.dup, 1) by decide +kernel) rfl ?_
  refine Ev_bipush (v := 32) hq_128 (show decode prog_7_method_1_code 617 = .ok (.bipush 32, 2) by decide +kernel) (by decide) ?_
  refine Ev_bipush (v := 119) hq_128 (show decode prog_7_method_1_code 619 = .ok (.bipush 119, 2) by decide +kernel) (by decide) ?_
  refine Ev_lit (k := 32) (l := wdL) hq_128 (show decode prog_7_method_1_code 621 = .ok (.iastore, 1) by decide +kernel) (by decide +kernel) (by decide +kernel) (by decide +kernel) (by decide) rfl ?_
  refine Ev_dup hq_128 (show decode prog_7_method_1_code 622 = .ok (.dup, 1) by decide +kernel) rfl ?_
  refine Ev_bipush (v := 33) hq_128 (show decode prog_7_method_1_code 623 = .ok (.bipush 33, 2) by decide +kernel) (by decide) ?_
  refine Ev_bipush (v := 97) hq_128 (show decode prog_7_method_1_code 625 = .ok (.bipush 97, 2) by decide +kernel) (by decide) ?_
  refine Ev_lit (k := 33) (l := wdL) hq_128 (show decode prog_7_method_1_code 627 = .ok (.iastore, 1) by decide +kernel) (by decide +kernel) (by decide +kernel) (by decide +kernel) (by decide) rfl ?_
  refine Ev_dup hq_128 (show decode prog_7_method_1_code 628 = .ok (.dup, 1) by decide +kernel) rfl ?_
  refine Ev_bipush (v := 34) hq_128 (show decode prog_7_method_1_code 629 = .ok (.bipush 34, 2) by decide +kernel) (by decide) ?_
  refine Ev_bipush (v := 115) hq_128 (show decode prog_7_method_1_code 631 = .ok (.bipush 115, 2) by decide +kernel) (by decide) ?_
  refine Ev_lit (k := 34) (l := wdL) hq_128 (show decode prog_7_method_1_code 633 = .ok (.iastore, 1) by decide +kernel) (by decide +kernel) (by decide +kernel) (by decide +kernel) (by decide) rfl ?_
  refine Ev_dup hq_128 (show decode prog_7_method_1_code 634 = .ok (.dup, 1) by decide +kernel) rfl ?_
  refine Ev_bipush (v := 35) hq_128 (show decode prog_7_method_1_code 635 = .ok (.bipush 35, 2) by decide +kernel) (by decide) ?_
  refine Ev_bipush (v := 32) hq_128 (show decode prog_7_method_1_code 637 = .ok (.bipush 32, 2) by decide +kernel) (by decide) ?_
  refine Ev_lit (k := 35) (l := wdL) hq_128 (show decode prog_7_method_1_code 639 = .ok (.iastore, 1) by decide +kernel) (by decide +kernel) (by decide +kernel) (by decide +kernel) (by decide) rfl ?_
  refine Ev_dup hq_128 (show decode prog_7_method_1_code 640 = .ok (.dup, 1) by decide +kernel) rfl ?_
  refine Ev_bipush (v := 36) hq_128 (show decode prog_7_method_1_code 641 = .ok (.bipush 36, 2) by decide +kernel) (by decide) ?_
  refine Ev_bipush (v := 32) hq_128 (show decode prog_7_method_1_code 643 = .ok (.bipush 32, 2) by decide +kernel) (by decide) ?_
  refine Ev_lit (k := 36) (l := wdL) hq_128 (show decode prog_7_method_1_code 645 = .ok (.iastore, 1) by decide +kernel) (by decide +kernel) (by decide +kernel) (by decide +kernel) (by decide) rfl ?_
  refine Ev_dup hq_128 (show decode prog_7_method_1_code 646 = .ok (.dup, 1) by decide +kernel) rfl ?_
  refine Ev_bipush (v := 37) hq_128 (show decode prog_7_method_1_code 647 = .ok (.bipush 37, 2) by decide +kernel) (by decide) ?_
  refine Ev_bipush (v := 32) hq_128 (show decode prog_7_method_1_code 649 = .ok (.bipush 32, 2) by decide +kernel) (by decide) ?_
  refine Ev_lit (k := 37) (l := wdL) hq_128 (show decode prog_7_method_1_code 651 = .ok (.iastore, 1) by decide +kernel) (by decide +kernel) (by decide +kernel) (by decide +kernel) (by decide) rfl ?_
  refine Ev_dup hq_128 (show decode prog_7_method_1_code 652 = .ok (.dup, 1) by decide +kernel) rfl ?_
  refine Ev_bipush (v := 38) hq_128 (show decode prog_7_method_1_code 653 = .ok (.bipush 38, 2) by decide +kernel) (by decide) ?_
  refine Ev_bipush (v := 32) hq_128 (show decode prog_7_method_1_code 655 = .ok (.bipush 32, 2) by decide +kernel) (by decide) ?_
  refine Ev_lit (k := 38) (l := wdL) hq_128 (show decode prog_7_method_1_code 657 = .ok (.iastore, 1) by decide +kernel) (by decide +kernel) (by decide +kernel) (by decide +kernel) (by decide) rfl ?_
  refine Ev_dup hq_128 (show decode prog_7_method_1_code 658 = .ok (.dup, 1) by decide +kernel) rfl ?_
  refine Ev_bipush (v := 39) hq_128 (show decode prog_7_method_1_code 659 = .ok (.bipush 39, 2) by decide +kernel) (by decide) ?_
  refine Ev_bipush (v := 32) hq_128 (show decode prog_7_method_1_code 661 = .ok (.bipush 32, 2) by decide +kernel) (by decide) ?_
  refine Ev_lit (k := 39) (l := wdL) hq_128 (show decode prog_7_method_1_code 663 = .ok (.iastore, 1) by decide +kernel) (by decide +kernel) (by decide +kernel) (by decide +kernel) (by decide) rfl ?_
  refine Ev_dup hq_128 (show decode prog_7_method_1_code 664 = .ok (.dup, 1) by decide +kernel) rfl ?_
  refine Ev_bipush (v := 40) hq_128 (show decode prog_7_method_1_code 665 = .ok (.bipush 40, 2) by decide +kernel) (by decide) ?_
  refine Ev_bipush (v := 115) hq_128 (show decode prog_7_method_1_code 667 = .ok (.bipush 115, 2) by decide +kernel) (by decide) ?_
  refine Ev_lit (k := 40) (l := wdL) hq_128 (show decode prog_7_method_1_code 669 = .ok (.iastore, 1) by decide +kernel) (by decide +kernel) (by decide +kernel) (by decide +kernel) (by decide) rfl ?_
  refine Ev_dup hq_128 (show decode prog_7_method_1_code 670 = .ok (.dup, 1) by decide +kernel) rfl ?_
  refine Ev_bipush (v := 41) hq_128 (show decode prog_7_method_1_code 671 = .ok (.bipush 41, 2) by decide +kernel) (by decide) ?_
  refine Ev_bipush (v := 101) hq_128 (show decode prog_7_method_1_code 673 = .ok (.bipush 101, 2) by decide +kernel) (by decide) ?_
  refine Ev_lit (k := 41) (l := wdL) hq_128 (show decode prog_7_method_1_code 675 = .ok (.iastore, 1) by decide +kernel) (by decide +kernel) (by decide +kernel) (by decide +kernel) (by decide) rfl ?_
  refine Ev_dup hq_128 (show decode prog_7_method_1_code 676 = .ok (.dup, 1) by decide +kernel) rfl ?_
  refine Ev_bipush (v := 42) hq_128 (show decode prog_7_method_1_code 677 = .ok (.bipush 42, 2) by decide +kernel) (by decide) ?_
  refine Ev_bipush (v := 116) hq_128 (show decode prog_7_method_1_code 679 = .ok (.bipush 116, 2) by decide +kernel) (by decide) ?_
  refine Ev_lit (k := 42) (l := wdL) hq_128 (show decode prog_7_method_1_code 681 = .ok (.iastore, 1) by decide +kernel) (by decide +kernel) (by decide +kernel) (by decide +kernel) (by decide) rfl ?_
  refine Ev_dup hq_128 (show decode prog_7_method_1_code 682 = .ok (.dup, 1) by decide +kernel) rfl ?_
  refine Ev_bipush (v := 43) hq_128 (show decode prog_7_method_1_code 683 = .ok (.bipush 43, 2) by decide +kernel) (by decide) ?_
  refine Ev_bipush (v := 32) hq_128 (show decode prog_7_method_1_code 685 = .ok (.bipush 32, 2) by decide +kernel) (by decide) ?_
  refine Ev_lit (k := 43) (l := wdL) hq_128 (show decode prog_7_method_1_code 687 = .ok (.iastore, 1) by decide +kernel) (by decide +kernel) (by decide +kernel) (by decide +kernel) (by decide) rfl ?_
  refine Ev_dup hq_128 (show decode prog_7_method_1_code 688 = .ok (.dup, 1) by decide +kernel) rfl ?_
  refine Ev_bipush (v := 44) hq_128 (show decode prog_7_method_1_code 689 = .ok (.bipush 44, 2) by decide +kernel) (by decide) ?_
  refine Ev_bipush (v := 32) hq_128 (show decode prog_7_method_1_code 691 = .ok (.bipush 32, 2) by decide +kernel) (by decide) ?_
  refine Ev_lit (k := 44) (l := wdL) hq_128 (show decode prog_7_method_1_code 693 = .ok (.iastore, 1) by decide +kernel) (by decide +kernel) (by decide +kernel) (by decide +kernel) (by decide) rfl ?_
  refine Ev_dup hq_128 (show decode prog_7_method_1_code 694 = .ok (.dup, 1) by decide +kernel) rfl ?_
  refine Ev_bipush (v := 45) hq_128 (show decode prog_7_method_1_code 695 = .ok (.bipush 45, 2) by decide +kernel) (by decide) ?_
  refine Ev_bipush (v := 32) hq_128 (show decode prog_7_method_1_code 697 = .ok (.bipush 32, 2) by decide +kernel) (by decide) ?_
  refine Ev_lit (k := 45) (l := wdL) hq_128 (show decode prog_7_method_1_code 699 = .ok (.iastore, 1) by decide +kernel) (by decide +kernel) (by decide +kernel) (by decide +kernel) (by decide) rfl ?_
  refine Ev_dup hq_128 (show decode prog_7_method_1_code 700 = .ok (.dup, 1) by decide +kernel) rfl ?_
  refine Ev_bipush (v := 46) hq_128 (show decode prog_7_method_1_code 701 = .ok (.bipush 46, 2) by decide +kernel) (by decide) ?_
  refine Ev_bipush (v := 32) hq_128 (show decode prog_7_method_1_code 703 = .ok (.bipush 32, 2) by decide +kernel) (by decide) ?_
  refine Ev_lit (k := 46) (l := wdL) hq_128 (show decode prog_7_method_1_code 705 = .ok (.iastore, 1) by decide +kernel) (by decide +kernel) (by decide +kernel) (by decide +kernel) (by decide) rfl ?_
  refine Ev_dup hq_128 (show decode prog_7_method_1_code 706 = .ok (.dup, 1) by decide +kernel) rfl ?_
  refine Ev_bipush (v := 47) hq_128 (show decode prog_7_method_1_code 707 = .ok (.bipush 47, 2) by decide +kernel) (by decide) ?_
  refine Ev_bipush (v := 32) hq_128 (show decode prog_7_method_1_code 709 = .ok (.bipush 32, 2) by decide +kernel) (by decide) ?_
  refine Ev_lit (k := 47) (l := wdL) hq_128 (show decode prog_7_method_1_code 711 = .ok (.iastore, 1) by decide +kernel) (by decide +kernel) (by decide +kernel) (by decide +kernel) (by decide) rfl ?_
  refine Ev_dup hq_128 (show decode prog_7_method_1_code 712 = .ok (.dup, 1) by decide +kernel) rfl ?_
  refine Ev_bipush (v := 48) hq_128 (show decode prog_7_method_1_code 713 = .ok (.bipush 48, 2) by decide +kernel) (by decide) ?_
  refine Ev_bipush (v := 98) hq_128 (show decode prog_7_method_1_code 715 = .ok (.bipush 98, 2) by decide +kernel) (by decide) ?_
  refine Ev_lit (k := 48) (l := wdL) hq_128 (show decode prog_7_method_1_code 717 = .ok (.iastore, 1) by decide +kernel) (by decide +kernel) (by decide +kernel) (by decide +kernel) (by decide) rfl ?_
  refine Ev_dup hq_128 (show decode prog_7_method_1_code 718 = .ok (.dup, 1) by decide +kernel) rfl ?_
  refine Ev_bipush (v := 49) hq_128 (show decode prog_7_method_1_code 719 = .ok (.bipush 49, 2) by decide +kernel) (by decide) ?_
  refine Ev_bipush (v := 101) hq_128 (show decode prog_7_method_1_code 721 = .ok (.bipush 101, 2) by decide +kernel) (by decide) ?_
  refine Ev_lit (k := 49) (l := wdL) hq_128 (show decode prog_7_method_1_code 723 = .ok (.iastore, 1) by decide +kernel) (by decide +kernel) (by decide +kernel) (by decide +kernel) (by decide) rfl ?_
  refine Ev_dup hq_128 (show decode prog_7_method_1_code 724 = .ok (.dup, 1) by decide +kernel) rfl ?_
  refine Ev_bipush (v := 50) hq_128 (show decode prog_7_method_1_code 725 = .ok (.bipush 50, 2) by decide +kernel) (by decide) ?_
  refine Ev_bipush (v := 97) hq_128 (show decode prog_7_method_1_code 727 = .ok (.bipush 97, 2) by decide +kernel) (by decide) ?_
  refine Ev_lit (k := 50) (l := wdL) hq_128 (show decode prog_7_method_1_code 729 = .ok (.iastore, 1) by decide +kernel) (by decide +kernel) (by decide +kernel) (by decide +kernel) (by decide) rfl ?_
  refine Ev_dup hq_128 (show decode prog_7_method_1_code 730 = .ok (.dup, 1) by decide +kernel) rfl ?_
  refine Ev_bipush (v := 51) hq_128 (show decode prog_7_method_1_code 731 = .ok (.bipush 51, 2) by decide +kernel) (by decide) ?_
  refine Ev_bipush (v := 116) hq_128 (show decode prog_7_method_1_code 733 = .ok (.bipush 116, 2) by decide +kernel) (by decide) ?_
  refine Ev_lit (k := 51) (l := wdL) hq_128 (show decode prog_7_method_1_code 735 = .ok (.iastore, 1) by decide +kernel) (by decide +kernel) (by decide +kernel) (by decide +kernel) (by decide) rfl ?_
  refine Ev_dup hq_128 (show decode prog_7_method_1_code 736 = .ok (.dup, 1) by decide +kernel) rfl ?_
  refine Ev_bipush (v := 52) hq_128 (show decode prog_7_method_1_code 737 = .ok (.bipush 52, 2) by decide +kernel) (by decide) ?_
  refine Ev_bipush (v := 32) hq_128 (show decode prog_7_method_1_code 739 = .ok (.bipush 32, 2) by decide +kernel) (by decide) ?_
  refine Ev_lit (k := 52) (l := wdL) hq_128 (show decode prog_7_method_1_code 741 = .ok (.iastore, 1) by decide +kernel) (by decide +kernel) (by decide +kernel) (by decide +kernel) (by decide) rfl ?_
  refine Ev_dup hq_128 (show decode prog_7_method_1_code 742 = .ok (.dup, 1) by decide +kernel) rfl ?_
  refine Ev_bipush (v := 53) hq_128 (show decode prog_7_method_1_code 743 = .ok (.bipush 53, 2) by decide +kernel) (by decide) ?_
  refine Ev_bipush (v := 32) hq_128 (show decode prog_7_method_1_code 745 = .ok (.bipush 32, 2) by decide +kernel) (by decide) ?_
  refine Ev_lit (k := 53) (l := wdL) hq_128 (show decode prog_7_method_1_code 747 = .ok (.iastore, 1) by decide +kernel) (by decide +kernel) (by decide +kernel) (by decide +kernel) (by decide) rfl ?_
  refine Ev_dup hq_128 (show decode prog_7_method_1_code 748 = .ok (.dup, 1) by decide +kernel) rfl ?_
  refine Ev_bipush (v := 54) hq_128 (show decode prog_7_method_1_code 749 = .ok (.bipush 54, 2) by decide +kernel) (by decide) ?_
  refine Ev_bipush (v := 32) hq_128 (show decode prog_7_method_1_code 751 = .ok (.bipush 32, 2) by decide +kernel) (by decide) ?_
  refine Ev_lit (k := 54) (l := wdL) hq_128 (show decode prog_7_method_1_code 753 = .ok (.iastore, 1) by decide +kernel) (by decide +kernel) (by decide +kernel) (by decide +kernel) (by decide) rfl ?_
  refine Ev_dup hq_128 (show decode prog_7_method_1_code 754 = .ok (.dup, 1) by decide +kernel) rfl ?_
  refine Ev_bipush (v := 55) hq_128 (show decode prog_7_method_1_code 755 = .ok (.bipush 55, 2) by decide +kernel) (by decide) ?_
  refine Ev_bipush (v := 32) hq_128 (show decode prog_7_method_1_code 757 = .ok (.bipush 32, 2) by decide +kernel) (by decide) ?_
  refine Ev_lit (k := 55) (l := wdL) hq_128 (show decode prog_7_method_1_code 759 = .ok (.iastore, 1) by decide +kernel) (by decide +kernel) (by decide +kernel) (by decide +kernel) (by decide) rfl ?_
  refine Ev_dup hq_128 (show decode prog_7_method_1_code 760 = .ok (.dup, 1) by decide +kernel) rfl ?_
  refine Ev_bipush (v := 56) hq_128 (show decode prog_7_method_1_code 761 = .ok (.bipush 56, 2) by decide +kernel) (by decide) ?_
  refine Ev_bipush (v := 108) hq_128 (show decode prog_7_method_1_code 763 = .ok (.bipush 108, 2) by decide +kernel) (by decide) ?_
  refine Ev_lit (k := 56) (l := wdL) hq_128 (show decode prog_7_method_1_code 765 = .ok (.iastore, 1) by decide +kernel) (by decide +kernel) (by decide +kernel) (by decide +kernel) (by decide) rfl ?_
  refine Ev_dup hq_128 (show decode prog_7_method_1_code 766 = .ok (.dup, 1) by decide +kernel) rfl ?_
  refine Ev_bipush (v := 57) hq_128 (show decode prog_7_method_1_code 767 = .ok (.bipush 57, 2) by decide +kernel) (by decide) ?_
  refine Ev_bipush (v := 97) hq_128 (show decode prog_7_method_1_code 769 = .ok (.bipush 97, 2) by decide +kernel) (by decide) ?_
  refine Ev_lit (k := 57) (l := wdL) hq_128 (show decode prog_7_method_1_code 771 = .ok (.iastore, 1) by decide +kernel) (by decide +kernel) (by decide +kernel) (by decide +kernel) (by decide) rfl ?_
  refine Ev_dup hq_128 (show decode prog_7_method_1_code 772 = .ok (.dup, 1) by decide +kernel) rfl ?_
  refine Ev_bipush (v := 58) hq_128 (show decode prog_7_method_1_code 773 = .ok (.bipush 58, 2) by decide +kernel) (by decide) ?_
  refine Ev_bipush (v := 116) hq_128 (show decode prog_7_method_1_code 775 = .ok (.bipush 116, 2) by decide +kernel) (by decide) ?_
  refine Ev_lit (k := 58) (l := wdL) hq_128 (show decode prog_7_method_1_code 777 = .ok (.iastore, 1) by decide +kernel) (by decide +kernel) (by decide +kernel) (by decide +kernel) (by decide) rfl ?_
  refine Ev_dup hq_128 (show decode prog_7_method_1_code 778 = .ok (.dup, 1) by decide +kernel) rfl ?_
  refine Ev_bipush (v := 59) hq_128 (show decode prog_7_method_1_code 779 = .ok (.bipush 59, 2) by decide +kernel) (by decide) ?_
  refine Ev_bipush (v := 101) hq_128 (show decode prog_7_method_1_code 781 = .ok (.bipush 101, 2) by decide +kernel) (by decide) ?_
  refine Ev_lit (k := 59) (l := wdL) hq_128 (show decode prog_7_method_1_code 783 = .ok (.iastore, 1) by decide +kernel) (by decide +kernel) (by decide +kernel) (by decide +kernel) (by decide) rfl ?_
  refine Ev_dup hq_128 (show decode prog_7_method_1_code 784 = .ok (.dup, 1) by decide +kernel) rfl ?_
  refine Ev_bipush (v := 60) hq_128 (show decode prog_7_method_1_code 785 = .ok (.bipush 60, 2) by decide +kernel) (by decide) ?_
  refine Ev_bipush (v := 32) hq_128 (show decode prog_7_method_1_code 787 = .ok (.bipush 32, 2) by decide +kernel) (by decide) ?_
  refine Ev_lit (k := 60) (l := wdL) hq_128 (show decode prog_7_method_1_code 789 = .ok (.iastore, 1) by decide +kernel) (by decide +kernel) (by decide +kernel) (by decide +kernel) (by decide) rfl ?_
  refine Ev_dup hq_128 (show decode prog_7_method_1_code 790 = .ok (.dup, 1) by decide +kernel) rfl ?_
  refine Ev_bipush (v := 61) hq_128 (show decode prog_7_method_1_code 791 = .ok (.bipush 61, 2) by decide +kernel) (by decide) ?_
  refine Ev_bipush (v := 32) hq_128 (show decode prog_7_method_1_code 793 = .ok (.bipush 32, 2) by decide +kernel) (by decide) ?_
  refine Ev_lit (k := 61) (l := wdL) hq_128 (show decode prog_7_method_1_code 795 = .ok (.iastore, 1) by decide +kernel) (by decide +kernel) (by decide +kernel) (by decide +kernel) (by decide) rfl ?_
  refine Ev_dup hq_128 (show decode prog_7_method_1_code 796 = .ok (.dup, 1) by decide +kernel) rfl ?_
  refine Ev_bipush (v := 62) hq_128 (show decode prog_7_method_1_code 797 = .ok (.bipush 62, 2) by decide +kernel) (by decide) ?_
  refine Ev_bipush (v := 32) hq_128 (show decode prog_7_method_1_code 799 = .ok (.bipush 32, 2) by decide +kernel) (by decide) ?_
  refine Ev_lit (k := 62) (l := wdL) hq_128 (show decode prog_7_method_1_code 801 = .ok (.iastore, 1) by decide +kernel) (by decide +kernel) (by decide +kernel) (by decide +kernel) (by decide) rfl ?_
  refine Ev_dup hq_128 (show decode prog_7_method_1_code 802 = .ok (.dup, 1) by decide +kernel) rfl ?_
  refine Ev_bipush (v := 63) hq_128 (show decode prog_7_method_1_code 803 = .ok (.bipush 63, 2) by decide +kernel) (by decide) ?_
  refine Ev_bipush (v := 32) hq_128 (show decode prog_7_method_1_code 805 = .ok (.bipush 32, 2) by decide +kernel) (by decide) ?_
  refine Ev_lit (k := 63) (l := wdL) hq_128 (show decode prog_7_method_1_code 807 = .ok (.iastore, 1) by decide +kernel) (by decide +kernel) (by decide +kernel) (by decide +kernel) (by decide) rfl ?_
  refine Ev_dup hq_128 (show decode prog_7_method_1_code 808 = .ok (.dup, 1) by decide +kernel) rfl ?_
  refine Ev_bipush (v := 64) hq_128 (show decode prog_7_method_1_code 809 = .ok (.bipush 64, 2) by decide +kernel) (by decide) ?_
  refine Ev_bipush (v := 109) hq_128 (show decode prog_7_method_1_code 811 = .ok (.bipush 109, 2) by decide +kernel) (by decide) ?_
  refine Ev_lit (k := 64) (l := wdL) hq_128 (show decode prog_7_method_1_code 813 = .ok (.iastore, 1) by decide +kernel) (by decide +kernel) (by decide +kernel) (by decide +kernel) (by decide) rfl ?_
  refine Ev_dup hq_128 (show decode prog_7_method_1_code 814 = .ok (.dup, 1) by decide +kernel) rfl ?_
  refine Ev_bipush (v := 65) hq_128 (show decode prog_7_method_1_code 815 = .ok (.bipush 65, 2) by decide +kernel) (by decide) ?_
  refine Ev_bipush (v := 111) hq_128 (show decode prog_7_method_1_code 817 = .ok (.bipush 111, 2) by decide +kernel) (by decide) ?_
  refine Ev_lit (k := 65) (l := wdL) hq_128 (show decode prog_7_method_1_code 819 = .ok (.iastore, 1) by decide +kernel) (by decide +kernel) (by decide +kernel) (by decide +kernel) (by decide) rfl ?_
  refine Ev_dup hq_128 (show decode prog_7_method_1_code 820 = .ok (.dup, 1) by decide +kernel) rfl ?_
  refine Ev_bipush (v := 66) hq_128 (show decode prog_7_method_1_code 821 = .ok (.bipush 66, 2) by decide +kernel) (by decide) ?_
  refine Ev_bipush (v := 114) hq_128 (show decode prog_7_method_1_code 823 = .ok (.bipush 114, 2) by decide +kernel) (by decide) ?_
  refine Ev_lit (k := 66) (l := wdL) hq_128 (show decode prog_7_method_1_code 825 = .ok (.iastore, 1) by decide +kernel) (by decide +kernel) (by decide +kernel) (by decide +kernel) (by decide) rfl ?_
  refine Ev_dup hq_128 (show decode prog_7_method_1_code 826 = .ok (.dup, 1) by decide +kernel) rfl ?_
  refine Ev_bipush (v := 67) hq_128 (show decode prog_7_method_1_code 827 = .ok (.bipush 67, 2) by decide +kernel) (by decide) ?_
  refine Ev_bipush (v := 101) hq_128 (show decode prog_7_method_1_code 829 = .ok (.bipush 101, 2) by decide +kernel) (by decide) ?_
  refine Ev_lit (k := 67) (l := wdL) hq_128 (show decode prog_7_method_1_code 831 = .ok (.iastore, 1) by decide +kernel) (by decide +kernel) (by decide +kernel) (by decide +kernel) (by decide) rfl ?_
  refine Ev_dup hq_128 (show decode prog_7_method_1_code 832 = .ok (.dup, 1) by decide +kernel) rfl ?_
  refine Ev_bipush (v := 68) hq_128 (show decode prog_7_method_1_code 833 = .ok (.bipush 68, 2) by decide +kernel) (by decide) ?_
  refine Ev_bipush (v := 32) hq_128 (show decode prog_7_method_1_code 835 = .ok (.bipush 32, 2) by decide +kernel) (by decide) ?_
  refine Ev_lit (k := 68) (l := wdL) hq_128 (show decode prog_7_method_1_code 837 = .ok (.iastore, 1) by decide +kernel) (by decide +kernel) (by decide +kernel) (by decide +kernel) (by decide) rfl ?_
  refine Ev_dup hq_128 (show decode prog_7_method_1_code 838 = .ok (.dup, 1) by decide +kernel) rfl ?_
  refine Ev_bipush (v := 69) hq_128 (show decode prog_7_method_1_code 839 = .ok (.bipush 69, 2) by decide +kernel) (by decide) ?_
  refine Ev_bipush (v := 32) hq_128 (show decode prog_7_method_1_code 841 = .ok (.bipush 32, 2) by decide +kernel) (by decide) ?_
  refine Ev_lit (k := 69) (l := wdL) hq_128 (show decode prog_7_method_1_code 843 = .ok (.iastore, 1) by decide +kernel) (by decide +kernel) (by decide +kernel) (by decide +kernel) (by decide) rfl ?_
  refine Ev_dup hq_128 (show decode prog_7_method_1_code 844 = .ok (.dup, 1) by decide +kernel) rfl ?_
  refine Ev_bipush (v := 70) hq_128 (show decode prog_7_method_1_code 845 = .ok (.bipush 70, 2) by decide +kernel) (by decide) ?_
  refine Ev_bipush (v := 32) hq_128 (show decode prog_7_method_1_code 847 = .ok (.bipush 32, 2) by decide +kernel) (by decide) ?_
  refine Ev_lit (k := 70) (l := wdL) hq_128 (show decode prog_7_method_1_code 849 = .ok (.iastore, 1) by decide +kernel) (by decide +kernel) (by decide +kernel) (by decide +kernel) (by decide) rfl ?_
  refine Ev_dup hq_128 (show decode prog_7_method_1_code 850 = .ok (.dup, 1) by decide +kernel) rfl ?_
  refine Ev_bipush (v := 71) hq_128 (show decode prog_7_method_1_code 851 = .ok (.bipush 71, 2) by decide +kernel) (by decide) ?_
  refine Ev_bipush (v := 32) hq_128 (show decode prog_7_method_1_code 853 = .ok (.bipush 32, 2) by decide +kernel) (by decide) ?_
  refine Ev_lit (k := 71) (l := wdL) hq_128 (show decode prog_7_method_1_code 855 = .ok (.iastore, 1) by decide +kernel) (by decide +kernel) (by decide +kernel) (by decide +kernel) (by decide) rfl ?_
  refine Ev_dup hq_128 (show decode prog_7_method_1_code 856 = .ok (.dup, 1) by decide +kernel) rfl ?_
  refine Ev_bipush (v := 72) hq_128 (show decode prog_7_method_1_code 857 = .ok (.bipush 72, 2) by decide +kernel) (by decide) ?_
  refine Ev_bipush (v := 111) hq_128 (show decode prog_7_method_1_code 859 = .ok (.bipush 111, 2) by decide +kernel) (by decide) ?_
  refine Ev_lit (k := 72) (l := wdL) hq_128 (show decode prog_7_method_1_code 861 = .ok (.iastore, 1) by decide +kernel) (by decide +kernel) (by decide +kernel) (by decide +kernel) (by decide) rfl ?_
  refine Ev_dup hq_128 (show decode prog_7_method_1_code 862 = .ok (.dup, 1) by decide +kernel) rfl ?_
  refine Ev_bipush (v := 73) hq_128 (show decode prog_7_method_1_code 863 = .ok (.bipush 73, 2) by decide +kernel) (by decide) ?_
  refine Ev_bipush (v := 114) hq_128 (show decode prog_7_method_1_code 865 = .ok (.bipush 114, 2) by decide +kernel) (by decide) ?_
  refine Ev_lit (k := 73) (l := wdL) hq_128 (show decode prog_7_method_1_code 867 = .ok (.iastore, 1) by decide +kernel) (by decide +kernel) (by decide +kernel) (by decide +kernel) (by decide) rfl ?_
  refine Ev_dup hq_128 (show decode prog_7_method_1_code 868 = .ok (.dup, 1) by decide +kernel) rfl ?_
  refine Ev_bipush (v := 74) hq_128 (show decode prog_7_method_1_code 869 = .ok (.bipush 74, 2) by decide +kernel) (by decide) ?_
  refine Ev_bipush (v := 32) hq_128 (show decode prog_7_method_1_code 871 = .ok (.bipush 32, 2) by decide +kernel) (by decide) ?_
  refine Ev_lit (k := 74) (l := wdL) hq_128 (show decode prog_7_method_1_code 873 = .ok (.iastore, 1) by decide +kernel) (by decide +kernel) (by decide +kernel) (by decide +kernel) (by decide) rfl ?_
  refine Ev_dup hq_128 (show decode prog_7_method_1_code 874 = .ok (.dup, 1) by decide +kernel) rfl ?_
  refine Ev_bipush (v := 75) hq_128 (show decode prog_7_method_1_code 875 = .ok (.bipush 75, 2) by decide +kernel) (by decide) ?_
  refine Ev_bipush (v := 32) hq_128 (show decode prog_7_method_1_code 877 = .ok (.bipush 32, 2) by decide +kernel) (by decide) ?_
  refine Ev_lit (k := 75) (l := wdL) hq_128 (show decode prog_7_method_1_code 879 = .ok (.iastore, 1) by decide +kernel) (by decide +kernel) (by decide +kernel) (by decide +kernel) (by decide) rfl ?_
  refine Ev_dup hq_128 (show decode prog_7_method_1_code 880 = .ok (.dup, 1) by decide +kernel) rfl ?_
  refine Ev_bipush (v := 76) hq_128 (show decode prog_7_method_1_code 881 = .ok (.bipush 76, 2) by decide +kernel) (by decide) ?_
  refine Ev_bipush (v := 32) hq_128 (show decode prog_7_method_1_code 883 = .ok (.bipush 32, 2) by decide +kernel) (by decide) ?_
  refine Ev_lit (k := 76) (l := wdL) hq_128 (show decode prog_7_method_1_code 885 = .ok (.iastore, 1) by decide +kernel) (by decide +kernel) (by decide +kernel) (by decide +kernel) (by decide) rfl ?_
  refine Ev_dup hq_128 (show decode prog_7_method_1_code 886 = .ok (.dup, 1) by decide +kernel) rfl ?_
  refine Ev_bipush (v := 77) hq_128 (show decode prog_7_method_1_code 887 = .ok (.bipush 77, 2) by decide +kernel) (by decide) ?_
  refine Ev_bipush (v := 32) hq_128 (show decode prog_7_method_1_code 889 = .ok (.bipush 32, 2) by decide +kernel) (by decide) ?_
  refine Ev_lit (k := 77) (l := wdL) hq_128 (show decode prog_7_method_1_code 891 = .ok (.iastore, 1) by decide +kernel) (by decide +kernel) (by decide +kernel) (by decide +kernel) (by decide) rfl ?_
  refine Ev_dup hq_128 (show decode prog_7_method_1_code 892 = .ok (.dup, 1) by decide +kernel) rfl ?_
  refine Ev_bipush (v := 78) hq_128 (show decode prog_7_method_1_code 893 = .ok (.bipush 78, 2) by decide +kernel) (by decide) ?_
  refine Ev_bipush (v := 32) hq_128 (show decode prog_7_method_1_code 895 = .ok (.bipush 32, 2) by decide +kernel) (by decide) ?_
  refine Ev_lit (k := 78) (l := wdL) hq_128 (show decode prog_7_method_1_code 897 = .ok (.iastore, 1) by decide +kernel) (by decide +kernel) (by decide +kernel) (by decide +kernel) (by decide) rfl ?_
  refine Ev_dup hq_128 (show decode prog_7_method_1_code 898 = .ok (.dup, 1) by decide +kernel) rfl ?_
  refine Ev_bipush (v := 79) hq_128 (show decode prog_7_method_1_code 899 = .ok (.bipush 79, 2) by decide +kernel) (by decide) ?_
  refine Ev_bipush (v := 32) hq_128 (show decode prog_7_method_1_code 901 = .ok (.bipush 32, 2) by decide +kernel) (by decide) ?_
  refine Ev_lit (k := 79) (l := wdL) hq_128 (show decode prog_7_method_1_code 903 = .ok (.iastore, 1) by decide +kernel) (by decide +kernel) (by decide +kernel) (by decide +kernel) (by decide) rfl ?_
  refine Ev_dup hq_128 (show decode prog_7_method_1_code 904 = .ok (.dup, 1) by decide +kernel) rfl ?_
  refine Ev_bipush (v := 80) hq_128 (show decode prog_7_method_1_code 905 = .ok (.bipush 80, 2) by decide +kernel) (by decide) ?_
  refine Ev_bipush (v := 97) hq_128 (show decode prog_7_method_1_code 907 = .ok (.bipush 97, 2) by decide +kernel) (by decide) ?_
  refine Ev_lit (k := 80) (l := wdL) hq_128 (show decode prog_7_method_1_code 909 = .ok (.iastore, 1) by decide +kernel) (by decide +kernel) (by decide +kernel) (by decide +kernel) (by decide) rfl ?_
  refine Ev_dup hq_128 (show decode prog_7_method_1_code 910 = .ok (.dup, 1) by decide +kernel) rfl ?_
  refine Ev_bipush (v := 81) hq_128 (show decode prog_7_method_1_code 911 = .ok (.bipush 81, 2) by decide +kernel) (by decide) ?_
  refine Ev_bipush (v := 110) hq_128 (show decode prog_7_method_1_code 913 = .ok (.bipush 110, 2) by decide +kernel) (by decide) ?_
  refine Ev_lit (k := 81) (l := wdL) hq_128 (show decode prog_7_method_1_code 915 = .ok (.iastore, 1) by decide +kernel) (by decide +kernel) (by decide +kernel) (by decide +kernel) (by decide) rfl ?_
  refine Ev_dup hq_128 (show decode prog_7_method_1_code 916 = .ok (.dup, 1) by decide +kernel) rfl ?_
  refine Ev_bipush (v := 82) hq_128 (show decode prog_7_method_1_code 917 = .ok (.bipush 82, 2) by decide +kernel) (by decide) ?_
  refine Ev_bipush (v := 100) hq_128 (show decode prog_7_method_1_code 919 = .ok (.bipush 100, 2) by decide +kernel) (by decide) ?_
  refine Ev_lit (k := 82) (l := wdL) hq_128 (show decode prog_7_method_1_code 921 = .ok (.iastore, 1) by decide +kernel) (by decide +kernel) (by decide +kernel) (by decide +kernel) (by decide) rfl ?_
  refine Ev_dup hq_128 (show decode prog_7_method_1_code 922 = .ok (.dup, 1) by decide +kernel) rfl ?_
  refine Ev_bipush (v := 83) hq_128 (show decode prog_7_method_1_code 923 = .ok (.bipush 83, 2) by decide +kernel) (by decide) ?_
  refine Ev_bipush (v := 32) hq_128 (show decode prog_7_method_1_code 925 = .ok (.bipush 32, 2) by decide +kernel) (by decide) ?_
  refine Ev_lit (k := 83) (l := wdL) hq_128 (show decode prog_7_method_1_code 927 = .ok (.iastore, 1) by decide +kernel) (by decide +kernel) (by decide +kernel) (by decide +kernel) (by decide) rfl ?_
  refine Ev_dup hq_128 (show decode prog_7_method_1_code 928 = .ok (.dup, 1) by decide +kernel) rfl ?_
  refine Ev_bipush (v := 84) hq_128 (show decode prog_7_method_1_code 929 = .ok (.bipush 84, 2) by decide +kernel) (by decide) ?_
  refine Ev_bipush (v := 32) hq_128 (show decode prog_7_method_1_code 931 = .ok (.bipush 32, 2) by decide +kernel) (by decide) ?_
  refine Ev_lit (k := 84) (l := wdL) hq_128 (show decode prog_7_method_1_code 933 = .ok (.iastore, 1) by decide +kernel) (by decide +kernel) (by decide +kernel) (by decide +kernel) (by decide) rfl ?_
  refine Ev_dup hq_128 (show decode prog_7_method_1_code 934 = .ok (.dup, 1) by decide +kernel) rfl ?_
  refine Ev_bipush (v := 85) hq_128 (show decode prog_7_method_1_code 935 = .ok (.bipush 85, 2) by decide +kernel) (by decide) ?_
  refine Ev_bipush (v := 32) hq_128 (show decode prog_7_method_1_code 937 = .ok (.bipush 32, 2) by decide +kernel) (by decide) ?_
  refine Ev_lit (k := 85) (l := wdL) hq_128 (show decode prog_7_method_1_code 939 = .ok (.iastore, 1) by decide +kernel) (by decide +kernel) (by decide +kernel) (by decide +kernel) (by decide) rfl ?_
  refine Ev_dup hq_128 (show decode prog_7_method_1_code 940 = .ok (.dup, 1) by decide +kernel) rfl ?_
  refine Ev_bipush (v := 86) hq_128 (show decode prog_7_method_1_code 941 = .ok (.bipush 86, 2) by decide +kernel) (by decide) ?_
  refine Ev_bipush (v := 32) hq_128 (show decode prog_7_method_1_code 943 = .ok (.bipush 32, 2) by decide +kernel) (by decide) ?_
  refine Ev_lit (k := 86) (l := wdL) hq_128 (show decode prog_7_method_1_code 945 = .ok (.iastore, 1) by decide +kernel) (by decide +kernel) (by decide +kernel) (by decide +kernel) (by decide) rfl ?_
  refine Ev_dup hq_128 (show decode prog_7_method_1_code 946 = .ok (.dup, 1) by decide +kernel) rfl ?_
  refine Ev_bipush (v := 87) hq_128 (show decode prog_7_method_1_code 947 = .ok (.bipush 87, 2) by decide +kernel) (by decide) ?_
  refine Ev_bipush (v := 32) hq_128 (show decode prog_7_method_1_code 949 = .ok (.bipush 32, 2) by decide +kernel) (by decide) ?_
  refine Ev_lit (k := 87) (l := wdL) hq_128 (show decode prog_7_method_1_code 951 = .ok (.iastore, 1) by decide +kernel) (by decide +kernel) (by decide +kernel) (by decide +kernel) (by decide) rfl ?_
  refine Ev_dup hq_128 (show decode prog_7_method_1_code 952 = .ok (.dup, 1) by decide +kernel) rfl ?_
  refine Ev_bipush (v := 88) hq_128 (show decode prog_7_method_1_code 953 = .ok (.bipush 88, 2) by decide +kernel) (by decide) ?_
  refine Ev_bipush (v := 110) hq_128 (show decode prog_7_method_1_code 955 = .ok (.bipush 110, 2) by decide +kernel) (by decide) ?_
  refine Ev_lit (k := 88) (l := wdL) hq_128 (show decode prog_7_method_1_code 957 = .ok (.iastore, 1) by decide +kernel) (by decide +kernel) (by decide +kernel) (by decide +kernel) (by decide) rfl ?_
  refine Ev_dup hq_128 (show decode prog_7_method_1_code 958 = .ok (.dup, 1) by decide +kernel) rfl ?_
  refine Ev_bipush (v := 89) hq_128 (show decode prog_7_method_1_code 959 = .ok (.bipush 89, 2) by decide +kernel) (by decide) ?_
  refine Ev_bipush (v := 111) hq_128 (show decode prog_7_method_1_code 961 = .ok (.bipush 111, 2) by decide +kernel) (by decide) ?_
  refine Ev_lit (k := 89) (l := wdL) hq_128 (show decode prog_7_method_1_code 963 = .ok (.iastore, 1) by decide +kernel) (by decide +kernel) (by decide +kernel) (by decide +kernel) (by decide) rfl ?_
  refine Ev_dup hq_128 (show decode prog_7_method_1_code 964 = .ok (.dup, 1) by decide +kernel) rfl ?_
  refine Ev_bipush (v := 90) hq_128 (show decode prog_7_method_1_code 965 = .ok (.bipush 90, 2) by decide +kernel) (by decide) ?_
  refine Ev_bipush (v := 116) hq_128 (show decode prog_7_method_1_code 967 = .ok (.bipush 116, 2) by decide +kernel) (by decide) ?_
  refine Ev_lit (k := 90) (l := wdL) hq_128 (show decode prog_7_method_1_code 969 = .ok (.iastore, 1) by decide +kernel) (by decide +kernel) (by decide +kernel) (by decide +kernel) (by decide) rfl ?_
  refine Ev_dup hq_128 (show decode prog_7_method_1_code 970 = .ok (.dup, 1) by decide +kernel) rfl ?_
  refine Ev_bipush (v := 91) hq_128 (show decode prog_7_method_1_code 971 = .ok (.bipush 91, 2) by decide +kernel) (by decide) ?_
  refine Ev_bipush (v := 32) hq_128 (show decode prog_7_method_1_code 973 = .ok (.bipush 32, 2) by decide +kernel) (by decide) ?_
  refine Ev_lit (k := 91) (l := wdL) hq_128 (show decode prog_7_method_1_code 975 = .ok (.iastore, 1) by decide +kernel) (by decide +kernel) (by decide +kernel) (by decide +kernel) (by decide) rfl ?_
  refine Ev_dup hq_128 (show decode prog_7_method_1_code 976 = .ok (.dup, 1) by decide +kernel) rfl ?_
  refine Ev_bipush (v := 92) hq_128 (show decode prog_7_method_1_code 977 = .ok (.bipush 92, 2) by decide +kernel) (by decide) ?_
  refine Ev_bipush (v := 32) hq_128 (show decode prog_7_method_1_code 979 = .ok (.bipush 32, 2) by decide +kernel) (by decide) ?_
  refine Ev_lit (k := 92) (l := wdL) hq_128 (show decode prog_7_method_1_code 981 = .ok (.iastore, 1) by decide +kernel) (by decide +kernel) (by decide +kernel) (by decide +kernel) (by decide) rfl ?_
  refine Ev_dup hq_128 (show decode prog_7_method_1_code 982 = .ok (.dup, 1) by decide +kernel) rfl ?_
  refine Ev_bipush (v := 93) hq_128 (show decode prog_7_method_1_code 983 = .ok (.bipush 93, 2) by decide +kernel) (by decide) ?_
  refine Ev_bipush (v := 32) hq_128 (show decode prog_7_method_1_code 985 = .ok (.bipush 32, 2) by decide +kernel) (by decide) ?_
  refine Ev_lit (k := 93) (l := wdL) hq_128 (show decode prog_7_method_1_code 987 = .ok (.iastore, 1) by decide +kernel) (by decide +kernel) (by decide +kernel) (by decide +kernel) (by decide) rfl ?_
  refine Ev_dup hq_128 (show decode prog_7_method_1_code 988 = .ok (.dup, 1) by decide +kernel) rfl ?_
  refine Ev_bipush (v := 94) hq_128 (show decode prog_7_method_1_code 989 = .ok (.bipush 94, 2) by decide +kernel) (by decide) ?_
  refine Ev_bipush (v := 32) hq_128 (show decode prog_7_method_1_code 991 = .ok (.bipush 32, 2) by decide +kernel) (by decide) ?_
  refine Ev_lit (k := 94) (l := wdL) hq_128 (show decode prog_7_method_1_code 993 = .ok (.iastore, 1) by decide +kernel) (by decide +kernel) (by decide +kernel) (by decide +kernel) (by decide) rfl ?_
  refine Ev_dup hq_128 (show decode prog_7_method_1_code 994 = .ok (.dup, 1) by decide +kernel) rfl ?_
  refine Ev_bipush (v := 95) hq_128 (show decode prog_7_method_1_code 995 = .ok (.bipush 95, 2) by decide +kernel) (by decide) ?_
  refine Ev_bipush (v := 32) hq_128 (show decode prog_7_method_1_code 997 = .ok (.bipush 32, 2) by decide +kernel) (by decide) ?_
  refine Ev_lit (k := 95) (l := wdL) hq_128 (show decode prog_7_method_1_code 999 = .ok (.iastore, 1) by decide +kernel) (by decide +kernel) (by decide +kernel) (by decide +kernel) (by decide) rfl ?_
  refine Ev_pR (G2 := mG25) hq_128 (show decode prog_7_method_1_code 1000 = .ok (.putfield 43, 3) by decide +kernel) rfl (by decide +kernel) (by decide +kernel) (by decide) (by decide) rfl rfl ?_
  refine Ev_aload_n hq_128 (show decode prog_7_method_1_code 1003 = .ok (.aload_n 0, 1) by decide +kernel) rfl ?_
  refine Ev_sipush (v := 200) hq_128 (show decode prog_7_method_1_code 1004 = .ok (.sipush 200, 3) by decide +kernel) (by decide) ?_
  refine Ev_nI (l := 200) (G2 := mG26) (I2 := (mI17 I)) hq_128 (show decode prog_7_method_1_code 1007 = .ok (.newarray .int, 2) by decide +kernel) rfl (by decide) (by decide) (by decide) mG25_n rfl rfl ?_
  refine Ev_pR (G2 := mG27) hq_128 (show decode prog_7_method_1_code 1009 = .ok (.putfield 46, 3) by decide +kernel) rfl (by decide +kernel) (by decide +kernel) (by decide) (by decide) rfl rfl ?_
  refine Ev_aload_n hq_128 (show decode prog_7_method_1_code 1012 = .ok (.aload_n 0, 1) by decide +kernel) rfl ?_
  refine Ev_sipush (v := 200) hq_128 (show decode prog_7_method_1_code 1013 = .ok (.sipush 200, 3) by decide +kernel) (by decide) ?_
  refine Ev_nI (l := 200) (G2 := mG28) (I2 := (mI18 I)) hq_128 (show decode prog_7_method_1_code 1016 = .ok (.newarray .int, 2) by decide +kernel) rfl (by decide) (by decide) (by decide) mG27_n rfl rfl ?_
  refine Ev_pR (G2 := mG29) hq_128 (show decode prog_7_method_1_code 1018 = .ok (.putfield 49, 3) by decide +kernel) rfl (by decide +kernel) (by decide +kernel) (by decide) (by decide) rfl rfl ?_
  refine Ev_aload_n hq_128 (show decode prog_7_method_1_code 1021 = .ok (.aload_n 0, 1) by decide +kernel) rfl ?_
  refine Ev_bipush (v := 6) hq_128 (show decode prog_7_method_1_code 1022 = .ok (.bipush 6, 2) by decide +kernel) (by decide) ?_
  refine Ev_nI (l := 6) (G2 := mG30) (I2 := (mI19 I)) hq_128 (show decode prog_7_method_1_code 1024 = .ok (.newarray .int, 2) by decide +kernel) rfl (by decide) (by decide) (by decide) mG29_n rfl rfl ?_
  refine Ev_pR (G2 := mG31) hq_128 (show decode prog_7_method_1_code 1026 = .ok (.putfield 52, 3) by decide +kernel) rfl (by decide +kernel) (by decide +kernel) (by decide) (by decide) rfl rfl ?_
  refine Ev_aload_n hq_128 (show decode prog_7_method_1_code 1029 = .ok (.aload_n 0, 1) by decide +kernel) rfl ?_
  refine Ev_bipush (v := 124) hq_128 (show decode prog_7_method_1_code 1030 = .ok (.bipush 124, 2) by decide +kernel) (by decide) ?_
  refine Ev_nI (l := 124) (G2 := mG32) (I2 := (mI20 I)) hq_128 (show decode prog_7_method_1_code 1032 = .ok (.newarray .int, 2) by decide +kernel) rfl (by decide) (by decide) (by decide) mG31_n rfl rfl ?_
  refine Ev_pR (G2 := mG33) hq_128 (show decode prog_7_method_1_code 1034 = .ok (.putfield 55, 3) by decide +kernel) rfl (by decide +kernel) (by decide +kernel) (by decide) (by decide) rfl rfl ?_
  refine Ev_aload_n hq_128 (show decode prog_7_method_1_code 1037 = .ok (.aload_n 0, 1) by decide +kernel) rfl ?_
  refine Ev_bipush (v := 120) hq_128 (show decode prog_7_method_1_code 1038 = .ok (.bipush 120, 2) by decide +kernel) (by decide) ?_
  refine Ev_nI (l := 120) (G2 := mG34) (I2 := (mI21 I)) hq_128 (show decode prog_7_method_1_code 1040 = .ok (.newarray .int, 2) by decide +kernel) rfl (by decide) (by decide) (by decide) mG33_n rfl rfl ?_
  refine Ev_pR (G2 := mG35) hq_128 (show decode prog_7_method_1_code 1042 = .ok (.putfield 58, 3) by decide +kernel) rfl (by decide +kernel) (by decide +kernel) (by decide) (by decide) rfl rfl ?_
  refine Ev_aload_n hq_128 (show decode prog_7_method_1_code 1045 = .ok (.aload_n 0, 1) by decide +kernel) rfl ?_
  refine Ev_iconst (v := 4) hq_128 (show decode prog_7_method_1_code 1046 = .ok (.iconst 4, 1) by decide +kernel) (by decide) ?_
  refine Ev_nI (l := 4) (G2 := mG36) (I2 := (mI22 I)) hq_128 (show decode prog_7_method_1_code 1047 = .ok (.newarray .int, 2) by decide +kernel) rfl (by decide) (by decide) (by decide) mG35_n rfl rfl ?_
  refine Ev_pR (G2 := mG37) hq_128 (show decode prog_7_method_1_code 1049 = .ok (.putfield 61, 3) by decide +kernel) rfl (by decide +kernel) (by decide +kernel) (by decide) (by decide) rfl rfl ?_
  refine Ev_aload_n hq_128 (show decode prog_7_method_1_code 1052 = .ok (.aload_n 0, 1) by decide +kernel) rfl ?_
  refine Ev_iconst (v := 4) hq_128 (show decode prog_7_method_1_code 1053 = .ok (.iconst 4, 1) by decide +kernel) (by decide) ?_
  refine Ev_nI (l := 4) (G2 := mG38) (I2 := (mI23 I)) hq_128 (show decode prog_7_method_1_code 1054 = .ok (.newarray .int, 2) by decide +kernel) rfl (by decide) (by decide) (by decide) mG37_n rfl rfl ?_
  refine Ev_pR (G2 := mG39) hq_128 (show decode prog_7_method_1_code 1056 = .ok (.putfield 64, 3) by decide +kernel) rfl (by decide +kernel) (by decide +kernel) (by decide) (by decide) rfl rfl ?_
  refine Ev_aload_n hq_128 (show decode prog_7_method_1_code 1059 = .ok (.aload_n 0, 1) by decide +kernel) rfl ?_
  refine Ev_iconst (v := 4) hq_128 (show decode prog_7_method_1_code 1060 = .ok (.iconst 4, 1) by decide +kernel) (by decide) ?_
  refine Ev_nI (l := 4) (G2 := mG40) (I2 := (mI24 I)) hq_128 (show decode prog_7_method_1_code 1061 = .ok (.newarray .int, 2) by decide +kernel) rfl (by decide) (by decide) (by decide) mG39_n rfl rfl ?_
  refine Ev_pR (G2 := mG41) hq_128 (show decode prog_7_method_1_code 1063 = .ok (.putfield 67, 3) by decide +kernel) rfl (by decide +kernel) (by decide +kernel) (by decide) (by decide) rfl rfl ?_
  refine Ev_aload_n hq_128 (show decode prog_7_method_1_code 1066 = .ok (.aload_n 0, 1) by decide +kernel) rfl ?_
  refine Ev_iconst (v := (-1)) hq_128 (show decode prog_7_method_1_code 1067 = .ok (.iconst (-1), 1) by decide +kernel) (by decide) ?_
  refine Ev_pI (I2 := (mI25 I)) hq_128 (show decode prog_7_method_1_code 1068 = .ok (.putfield 70, 3) by decide +kernel) rfl (by decide +kernel) (by decide +kernel) (by decide) (by decide) rfl (by decide) rfl ?_
  refine Ev_aload_n hq_128 (show decode prog_7_method_1_code 1071 = .ok (.aload_n 0, 1) by decide +kernel) rfl ?_
  refine Ev_iconst (v := 4) hq_128 (show decode prog_7_method_1_code 1072 = .ok (.iconst 4, 1) by decide +kernel) (by decide) ?_
  refine Ev_nI (l := 4) (G2 := mG42) (I2 := (mI26 I)) hq_128 (show decode prog_7_method_1_code 1073 = .ok (.newarray .int, 2) by decide +kernel) rfl (by decide) (by decide) (by decide) mG41_n rfl rfl ?_
  refine Ev_pR (G2 := mG43) hq_128 (show decode prog_7_method_1_code 1075 = .ok (.putfield 74, 3) by decide +kernel) rfl (by decide +kernel) (by decide +kernel) (by decide) (by decide) rfl rfl ?_
  refine Ev_aload_n hq_128 (show decode prog_7_method_1_code 1078 = .ok (.aload_n 0, 1) by decide +kernel) rfl ?_
  refine Ev_iconst (v := 4) hq_128 (show decode prog_7_method_1_code 1079 = .ok (.iconst 4, 1) by decide +kernel) (by decide) ?_
  refine Ev_nI (l := 4) (G2 := mG44) (I2 := (mI27 I)) hq_128 (show decode prog_7_method_1_code 1080 = .ok (.newarray .int, 2) by decide +kernel) rfl (by decide) (by decide) (by decide) mG43_n rfl rfl ?_
  refine Ev_pR (G2 := mG45) hq_128 (show decode prog_7_method_1_code 1082 = .ok (.putfield 77, 3) by decide +kernel) rfl (by decide +kernel) (by decide +kernel) (by decide) (by decide) rfl rfl ?_
  exact k
theorem lawL_b0 : ∀ k, k < 54 → lawL.getD k 0 = b0 k := by decide +kernel
section
variable {I : zI}
theorem m_8 : (mI27 I) 57 8 = zi 0 := by
  unfold mI27 mI26 mI25 mI24 mI23 mI22 mI21 mI20 mI19 mI18 mI17 mI16 mI14 mI12 mI11 mI10 mI8 mI7 mI6 mI5 mI4 mI3 mI2 mI1 mI0
  rw [va_up_ne _ _ (by decide), va_up_ne _ _ (by decide), up_place (by decide), va_up_ne _ _ (by decide), va_up_ne _ _ (by decide), va_up_ne _ _ (by decide), va_up_ne _ _ (by decide), va_up_ne _ _ (by decide), va_up_ne _ _ (by decide), va_up_ne _ _ (by decide), va_up_ne _ _ (by decide), wU_cell (by decide), va_up_ne _ _ (by decide), wU_cell (by decide), va_up_ne _ _ (by decide), va_up_ne _ _ (by decide), va_up_ne _ _ (by decide), wU_cell (by decide), va_up_ne _ _ (by decide), va_up_ne _ _ (by decide), va_up_ne _ _ (by decide), va_up_ne _ _ (by decide), va_up_ne _ _ (by decide), va_up_ne _ _ (by decide), va_up_ne _ _ (by decide), va_up_ne _ _ (by decide), va_up_eq]
  <;> rfl
theorem m_9 : (mI27 I) 57 9 = zi 0 := by
  unfold mI27 mI26 mI25 mI24 mI23 mI22 mI21 mI20 mI19 mI18 mI17 mI16 mI14 mI12 mI11 mI10 mI8 mI7 mI6 mI5 mI4 mI3 mI2 mI1 mI0
  rw [va_up_ne _ _ (by decide), va_up_ne _ _ (by decide), up_place (by decide), va_up_ne _ _ (by decide), va_up_ne _ _ (by decide), va_up_ne _ _ (by decide), va_up_ne _ _ (by decide), va_up_ne _ _ (by decide), va_up_ne _ _ (by decide), va_up_ne _ _ (by decide), va_up_ne _ _ (by decide), wU_cell (by decide), va_up_ne _ _ (by decide), wU_cell (by decide), va_up_ne _ _ (by decide), va_up_ne _ _ (by decide), va_up_ne _ _ (by decide), wU_cell (by decide), va_up_ne _ _ (by decide), va_up_ne _ _ (by decide), va_up_ne _ _ (by decide), va_up_ne _ _ (by decide), va_up_ne _ _ (by decide), va_up_ne _ _ (by decide), va_up_ne _ _ (by decide), va_up_ne _ _ (by decide), va_up_eq]
  <;> rfl
theorem m_10 : (mI27 I) 57 10 = 0 := by
  unfold mI27 mI26 mI25 mI24 mI23 mI22 mI21 mI20 mI19 mI18 mI17 mI16 mI14 mI12 mI11 mI10 mI8 mI7 mI6 mI5 mI4 mI3 mI2 mI1 mI0
  rw [va_up_ne _ _ (by decide), va_up_ne _ _ (by decide), up_place (by decide), va_up_ne _ _ (by decide), va_up_ne _ _ (by decide), va_up_ne _ _ (by decide), va_up_ne _ _ (by decide), va_up_ne _ _ (by decide), va_up_ne _ _ (by decide), va_up_ne _ _ (by decide), va_up_ne _ _ (by decide), wU_cell (by decide), va_up_ne _ _ (by decide), wU_cell (by decide), va_up_ne _ _ (by decide), va_up_ne _ _ (by decide), va_up_ne _ _ (by decide), wU_cell (by decide), va_up_ne _ _ (by decide), va_up_ne _ _ (by decide), va_up_ne _ _ (by decide), va_up_ne _ _ (by decide), va_up_ne _ _ (by decide), va_up_ne _ _ (by decide), va_up_ne _ _ (by decide), va_up_ne _ _ (by decide), va_up_eq]
  <;> rfl
theorem m_0 : (mI27 I) 57 0 = zi 0 := by
  unfold mI27 mI26 mI25 mI24 mI23 mI22 mI21 mI20 mI19 mI18 mI17 mI16 mI14 mI12 mI11 mI10 mI8 mI7 mI6 mI5 mI4 mI3 mI2 mI1 mI0
  rw [va_up_ne _ _ (by decide), va_up_ne _ _ (by decide), up_place (by decide), va_up_ne _ _ (by decide), va_up_ne _ _ (by decide), va_up_ne _ _ (by decide), va_up_ne _ _ (by decide), va_up_ne _ _ (by decide), va_up_ne _ _ (by decide), va_up_ne _ _ (by decide), va_up_ne _ _ (by decide), wU_cell (by decide), va_up_ne _ _ (by decide), wU_cell (by decide), va_up_ne _ _ (by decide), va_up_ne _ _ (by decide), va_up_ne _ _ (by decide), wU_cell (by decide), va_up_ne _ _ (by decide), va_up_ne _ _ (by decide), va_up_ne _ _ (by decide), va_up_ne _ _ (by decide), va_up_ne _ _ (by decide), va_up_ne _ _ (by decide), va_up_ne _ _ (by decide), va_up_ne _ _ (by decide), va_up_eq]
  <;> rfl
theorem m_34 : (mI27 I) 57 34 = -1 := by
  unfold mI27 mI26 mI25 mI24 mI23 mI22 mI21 mI20 mI19 mI18 mI17 mI16 mI14 mI12 mI11 mI10 mI8 mI7 mI6 mI5 mI4 mI3 mI2 mI1 mI0
  rw [va_up_ne _ _ (by decide), va_up_ne _ _ (by decide), up_same]
theorem m_65 {k : Nat} (h : k < 4) : (mI27 I) 65 k = m1L.getD k 0 := by
  unfold mI27 mI26 mI25 mI24 mI23 mI22 mI21 mI20 mI19 mI18 mI17 mI16 mI14 mI12 mI11 mI10 mI8 mI7 mI6 mI5 mI4 mI3 mI2 mI1 mI0
  rw [va_up_ne _ _ (by decide), va_up_ne _ _ (by decide), up_cell (by decide), va_up_ne _ _ (by decide), va_up_ne _ _ (by decide), va_up_ne _ _ (by decide), va_up_ne _ _ (by decide), va_up_ne _ _ (by decide), va_up_ne _ _ (by decide), va_up_ne _ _ (by decide), va_up_ne _ _ (by decide), wU_cell (by decide), va_up_ne _ _ (by decide), wU_cell (by decide), va_up_ne _ _ (by decide), va_up_ne _ _ (by decide), va_up_ne _ _ (by decide), wU_at (by omega)]
theorem m_68 {k : Nat} (h : k < 54) : (mI27 I) 68 k = lawL.getD k 0 := by
  unfold mI27 mI26 mI25 mI24 mI23 mI22 mI21 mI20 mI19 mI18 mI17 mI16 mI14 mI12 mI11 mI10 mI8 mI7 mI6 mI5 mI4 mI3 mI2 mI1 mI0
  rw [va_up_ne _ _ (by decide), va_up_ne _ _ (by decide), up_cell (by decide), va_up_ne _ _ (by decide), va_up_ne _ _ (by decide), va_up_ne _ _ (by decide), va_up_ne _ _ (by decide), va_up_ne _ _ (by decide), va_up_ne _ _ (by decide), va_up_ne _ _ (by decide), va_up_ne _ _ (by decide), wU_cell (by decide), va_up_ne _ _ (by decide), wU_at (by omega)]
theorem m_69 {k : Nat} (h : k < 96) : (mI27 I) 69 k = wdL.getD k 0 := by
  unfold mI27 mI26 mI25 mI24 mI23 mI22 mI21 mI20 mI19 mI18 mI17 mI16 mI14 mI12 mI11 mI10 mI8 mI7 mI6 mI5 mI4 mI3 mI2 mI1 mI0
  rw [va_up_ne _ _ (by decide), va_up_ne _ _ (by decide), up_cell (by decide), va_up_ne _ _ (by decide), va_up_ne _ _ (by decide), va_up_ne _ _ (by decide), va_up_ne _ _ (by decide), va_up_ne _ _ (by decide), va_up_ne _ _ (by decide), va_up_ne _ _ (by decide), va_up_ne _ _ (by decide), wU_at (by omega)]
theorem m_old {c : Nat} (h : c < 57) : (mI27 I) c = I c := by
  unfold mI27 mI26 mI25 mI24 mI23 mI22 mI21 mI20 mI19 mI18 mI17 mI16 mI14 mI12 mI11 mI10 mI8 mI7 mI6 mI5 mI4 mI3 mI2 mI1 mI0
  rw [va_up_ne _ _ (by omega), va_up_ne _ _ (by omega), up_cell (by omega), va_up_ne _ _ (by omega), va_up_ne _ _ (by omega), va_up_ne _ _ (by omega), va_up_ne _ _ (by omega), va_up_ne _ _ (by omega), va_up_ne _ _ (by omega), va_up_ne _ _ (by omega), va_up_ne _ _ (by omega), wU_cell (by omega), va_up_ne _ _ (by omega), wU_cell (by omega), va_up_ne _ _ (by omega), va_up_ne _ _ (by omega), va_up_ne _ _ (by omega), wU_cell (by omega), va_up_ne _ _ (by omega), va_up_ne _ _ (by omega), va_up_ne _ _ (by omega), va_up_ne _ _ (by omega), va_up_ne _ _ (by omega), va_up_ne _ _ (by omega), va_up_ne _ _ (by omega), va_up_ne _ _ (by omega), va_up_ne _ _ (by omega)]
end
