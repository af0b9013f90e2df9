/-! WHAT A NEW CLASS MAKES -/
def cG0 : zG := zG0
def cI0 (I : zI) : zI := I
theorem cG0_n : zn cG0 = 0 := by decide +kernel
def cG1 : zG := z_new cG0 4 13 (fun _ => none)
def cI1 (I : zI) : zI := va_up (cI0 I) 0 (fun _ => 0)
theorem cG1_n : zn cG1 = 1 := by decide +kernel
def cG2 : zG := z_new cG1 0 9 (fun _ => none)
def cI2 (I : zI) : zI := va_up (cI1 I) 1 (fun _ => 0)
theorem cG2_n : zn cG2 = 2 := by decide +kernel
def cG3 : zG := z_new cG2 6 4 (fun _ => none)
def cI3 (I : zI) : zI := va_up (cI2 I) 2 (fun _ => 0)
theorem cG3_n : zn cG3 = 3 := by decide +kernel
def cG4 : zG := zPR_ cG3 1 0 2
theorem cG4_n : zn cG4 = 3 := by decide +kernel
def cG5 : zG := z_new cG4 6 4 (fun _ => none)
def cI4 (I : zI) : zI := va_up (cI3 I) 3 (fun _ => 0)
theorem cG5_n : zn cG5 = 4 := by decide +kernel
def cG6 : zG := zPR_ cG5 1 1 3
theorem cG6_n : zn cG6 = 4 := by decide +kernel
def cG7 : zG := z_new cG6 6 4 (fun _ => none)
def cI5 (I : zI) : zI := va_up (cI4 I) 4 (fun _ => 0)
theorem cG7_n : zn cG7 = 5 := by decide +kernel
def cG8 : zG := zPR_ cG7 1 2 4
theorem cG8_n : zn cG8 = 5 := by decide +kernel
def cG9 : zG := z_new cG8 6 4 (fun _ => none)
def cI6 (I : zI) : zI := va_up (cI5 I) 5 (fun _ => 0)
theorem cG9_n : zn cG9 = 6 := by decide +kernel
def cG10 : zG := zPR_ cG9 1 3 5
theorem cG10_n : zn cG10 = 6 := by decide +kernel
def cG11 : zG := z_new cG10 6 4 (fun _ => none)
def cI7 (I : zI) : zI := va_up (cI6 I) 6 (fun _ => 0)
theorem cG11_n : zn cG11 = 7 := by decide +kernel
def cG12 : zG := zPR_ cG11 1 4 6
theorem cG12_n : zn cG12 = 7 := by decide +kernel
def cG13 : zG := z_new cG12 6 4 (fun _ => none)
def cI8 (I : zI) : zI := va_up (cI7 I) 7 (fun _ => 0)
theorem cG13_n : zn cG13 = 8 := by decide +kernel
def cG14 : zG := zPR_ cG13 1 5 7
theorem cG14_n : zn cG14 = 8 := by decide +kernel
def cG15 : zG := z_new cG14 6 4 (fun _ => none)
def cI9 (I : zI) : zI := va_up (cI8 I) 8 (fun _ => 0)
theorem cG15_n : zn cG15 = 9 := by decide +kernel
def cG16 : zG := zPR_ cG15 1 6 8
theorem cG16_n : zn cG16 = 9 := by decide +kernel
def cI10 (I : zI) : zI := z_up (cI9 I) 1 7 0
def cI11 (I : zI) : zI := z_up (cI10 I) 1 8 0
def cG17 : zG := zPR_ cG16 0 0 1
theorem cG17_n : zn cG17 = 9 := by decide +kernel
def cG18 : zG := z_new cG17 0 9 (fun _ => none)
def cI12 (I : zI) : zI := va_up (cI11 I) 9 (fun _ => 0)
theorem cG18_n : zn cG18 = 10 := by decide +kernel
def cG19 : zG := z_new cG18 6 4 (fun _ => none)
def cI13 (I : zI) : zI := va_up (cI12 I) 10 (fun _ => 0)
theorem cG19_n : zn cG19 = 11 := by decide +kernel
def cG20 : zG := zPR_ cG19 9 0 10
theorem cG20_n : zn cG20 = 11 := by decide +kernel
def cG21 : zG := z_new cG20 6 4 (fun _ => none)
def cI14 (I : zI) : zI := va_up (cI13 I) 11 (fun _ => 0)
theorem cG21_n : zn cG21 = 12 := by decide +kernel
def cG22 : zG := zPR_ cG21 9 1 11
theorem cG22_n : zn cG22 = 12 := by decide +kernel
def cG23 : zG := z_new cG22 6 4 (fun _ => none)
def cI15 (I : zI) : zI := va_up (cI14 I) 12 (fun _ => 0)
theorem cG23_n : zn cG23 = 13 := by decide +kernel
def cG24 : zG := zPR_ cG23 9 2 12
theorem cG24_n : zn cG24 = 13 := by decide +kernel
def cG25 : zG := z_new cG24 6 4 (fun _ => none)
def cI16 (I : zI) : zI := va_up (cI15 I) 13 (fun _ => 0)
theorem cG25_n : zn cG25 = 14 := by decide +kernel
def cG26 : zG := zPR_ cG25 9 3 13
theorem cG26_n : zn cG26 = 14 := by decide +kernel
def cG27 : zG := z_new cG26 6 4 (fun _ => none)
def cI17 (I : zI) : zI := va_up (cI16 I) 14 (fun _ => 0)
theorem cG27_n : zn cG27 = 15 := by decide +kernel
def cG28 : zG := zPR_ cG27 9 4 14
theorem cG28_n : zn cG28 = 15 := by decide +kernel
def cG29 : zG := z_new cG28 6 4 (fun _ => none)
def cI18 (I : zI) : zI := va_up (cI17 I) 15 (fun _ => 0)
theorem cG29_n : zn cG29 = 16 := by decide +kernel
def cG30 : zG := zPR_ cG29 9 5 15
theorem cG30_n : zn cG30 = 16 := by decide +kernel
def cG31 : zG := z_new cG30 6 4 (fun _ => none)
def cI19 (I : zI) : zI := va_up (cI18 I) 16 (fun _ => 0)
theorem cG31_n : zn cG31 = 17 := by decide +kernel
def cG32 : zG := zPR_ cG31 9 6 16
theorem cG32_n : zn cG32 = 17 := by decide +kernel
def cI20 (I : zI) : zI := z_up (cI19 I) 9 7 0
def cI21 (I : zI) : zI := z_up (cI20 I) 9 8 0
def cG33 : zG := zPR_ cG32 0 1 9
theorem cG33_n : zn cG33 = 17 := by decide +kernel
def cG34 : zG := z_new cG33 0 9 (fun _ => none)
def cI22 (I : zI) : zI := va_up (cI21 I) 17 (fun _ => 0)
theorem cG34_n : zn cG34 = 18 := by decide +kernel
def cG35 : zG := z_new cG34 6 4 (fun _ => none)
def cI23 (I : zI) : zI := va_up (cI22 I) 18 (fun _ => 0)
theorem cG35_n : zn cG35 = 19 := by decide +kernel
def cG36 : zG := zPR_ cG35 17 0 18
theorem cG36_n : zn cG36 = 19 := by decide +kernel
def cG37 : zG := z_new cG36 6 4 (fun _ => none)
def cI24 (I : zI) : zI := va_up (cI23 I) 19 (fun _ => 0)
theorem cG37_n : zn cG37 = 20 := by decide +kernel
def cG38 : zG := zPR_ cG37 17 1 19
theorem cG38_n : zn cG38 = 20 := by decide +kernel
def cG39 : zG := z_new cG38 6 4 (fun _ => none)
def cI25 (I : zI) : zI := va_up (cI24 I) 20 (fun _ => 0)
theorem cG39_n : zn cG39 = 21 := by decide +kernel
def cG40 : zG := zPR_ cG39 17 2 20
theorem cG40_n : zn cG40 = 21 := by decide +kernel
def cG41 : zG := z_new cG40 6 4 (fun _ => none)
def cI26 (I : zI) : zI := va_up (cI25 I) 21 (fun _ => 0)
theorem cG41_n : zn cG41 = 22 := by decide +kernel
def cG42 : zG := zPR_ cG41 17 3 21
theorem cG42_n : zn cG42 = 22 := by decide +kernel
def cG43 : zG := z_new cG42 6 4 (fun _ => none)
def cI27 (I : zI) : zI := va_up (cI26 I) 22 (fun _ => 0)
theorem cG43_n : zn cG43 = 23 := by decide +kernel
def cG44 : zG := zPR_ cG43 17 4 22
theorem cG44_n : zn cG44 = 23 := by decide +kernel
def cG45 : zG := z_new cG44 6 4 (fun _ => none)
def cI28 (I : zI) : zI := va_up (cI27 I) 23 (fun _ => 0)
theorem cG45_n : zn cG45 = 24 := by decide +kernel
def cG46 : zG := zPR_ cG45 17 5 23
theorem cG46_n : zn cG46 = 24 := by decide +kernel
def cG47 : zG := z_new cG46 6 4 (fun _ => none)
def cI29 (I : zI) : zI := va_up (cI28 I) 24 (fun _ => 0)
theorem cG47_n : zn cG47 = 25 := by decide +kernel
def cG48 : zG := zPR_ cG47 17 6 24
theorem cG48_n : zn cG48 = 25 := by decide +kernel
def cI30 (I : zI) : zI := z_up (cI29 I) 17 7 0
def cI31 (I : zI) : zI := z_up (cI30 I) 17 8 0
def cG49 : zG := zPR_ cG48 0 2 17
theorem cG49_n : zn cG49 = 25 := by decide +kernel
def cI32 (I : zI) : zI := z_up (cI31 I) 0 3 0
def cG50 : zG := z_new cG49 2 5 (fun _ => none)
def cI33 (I : zI) : zI := va_up (cI32 I) 25 (fun _ => 0)
theorem cG50_n : zn cG50 = 26 := by decide +kernel
def cG51 : zG := zF4 cG50 30
def cI34 (I : zI) : zI := vF4 (cI33 I) 26
theorem cG51_n : zn cG51 = 31 := by decide +kernel
def cG52 : zG := zPR_ cG51 25 0 26
theorem cG52_n : zn cG52 = 31 := by decide +kernel
def cG53 : zG := zF4 cG52 31
def cI35 (I : zI) : zI := vF4 (cI34 I) 31
theorem cG53_n : zn cG53 = 36 := by decide +kernel
def cG54 : zG := zPR_ cG53 25 1 31
theorem cG54_n : zn cG54 = 36 := by decide +kernel
def cG55 : zG := z_new cG54 6 4 (fun _ => none)
def cI36 (I : zI) : zI := va_up (cI35 I) 36 (fun _ => 0)
theorem cG55_n : zn cG55 = 37 := by decide +kernel
def cG56 : zG := zPR_ cG55 25 2 36
theorem cG56_n : zn cG56 = 37 := by decide +kernel
def cG57 : zG := z_new cG56 6 4 (fun _ => none)
def cI37 (I : zI) : zI := va_up (cI36 I) 37 (fun _ => 0)
theorem cG57_n : zn cG57 = 38 := by decide +kernel
def cG58 : zG := zPR_ cG57 25 3 37
theorem cG58_n : zn cG58 = 38 := by decide +kernel
def cG59 : zG := z_new cG58 6 4 (fun _ => none)
def cI38 (I : zI) : zI := va_up (cI37 I) 38 (fun _ => 0)
theorem cG59_n : zn cG59 = 39 := by decide +kernel
def cG60 : zG := zPR_ cG59 25 4 38
theorem cG60_n : zn cG60 = 39 := by decide +kernel
def cG61 : zG := zPR_ cG60 0 4 25
theorem cG61_n : zn cG61 = 39 := by decide +kernel
def cG62 : zG := z_new cG61 3 10 (fun _ => none)
def cI39 (I : zI) : zI := va_up (cI38 I) 39 (fun _ => 0)
theorem cG62_n : zn cG62 = 40 := by decide +kernel
def cG63 : zG := z_new cG62 6 0 (fun _ => none)
def cI40 (I : zI) : zI := va_up (cI39 I) 40 (fun _ => 0)
theorem cG63_n : zn cG63 = 41 := by decide +kernel
def cG64 : zG := zPR_ cG63 39 0 40
theorem cG64_n : zn cG64 = 41 := by decide +kernel
def cI41 (I : zI) : zI := z_up (cI40 I) 39 1 0
def cI42 (I : zI) : zI := z_up (cI41 I) 39 2 0
def cI43 (I : zI) : zI := z_up (cI42 I) 39 3 0
def cI44 (I : zI) : zI := z_up (cI43 I) 39 4 0
def cI45 (I : zI) : zI := z_up (cI44 I) 39 5 0
def cI46 (I : zI) : zI := z_up (cI45 I) 39 6 0
def cG65 : zG := z_new cG64 6 160 (fun _ => none)
def cI47 (I : zI) : zI := va_up (cI46 I) 41 (fun _ => 0)
theorem cG65_n : zn cG65 = 42 := by decide +kernel
def cG66 : zG := zPR_ cG65 39 7 41
theorem cG66_n : zn cG66 = 42 := by decide +kernel
def cI48 (I : zI) : zI := z_up (cI47 I) 39 8 0
def cG67 : zG := z_new cG66 6 4 (fun _ => none)
def cI49 (I : zI) : zI := va_up (cI48 I) 42 (fun _ => 0)
theorem cG67_n : zn cG67 = 43 := by decide +kernel
def cG68 : zG := zPR_ cG67 39 9 42
theorem cG68_n : zn cG68 = 43 := by decide +kernel
def cG69 : zG := zPR_ cG68 0 5 39
theorem cG69_n : zn cG69 = 43 := by decide +kernel
def cG70 : zG := z_new cG69 7 6 (fun _ => none)
def cI50 (I : zI) : zI := va_up (cI49 I) 43 (fun _ => 0)
theorem cG70_n : zn cG70 = 44 := by decide +kernel
def cG71 : zG := zPR_ cG70 0 6 43
theorem cG71_n : zn cG71 = 44 := by decide +kernel
def cI51 (I : zI) : zI := z_up (cI50 I) 0 7 1
def cG72 : zG := z_new cG71 6 160 (fun _ => none)
def cI52 (I : zI) : zI := va_up (cI51 I) 44 (fun _ => 0)
theorem cG72_n : zn cG72 = 45 := by decide +kernel
def cG73 : zG := zPR_ cG72 0 8 44
theorem cG73_n : zn cG73 = 45 := by decide +kernel
def cI53 (I : zI) : zI := z_up (cI52 I) 0 9 0
def cG74 : zG := zF4 cG73 40
def cI54 (I : zI) : zI := vF4 (cI53 I) 45
theorem cG74_n : zn cG74 = 50 := by decide +kernel
def cG75 : zG := zPR_ cG74 0 10 45
theorem cG75_n : zn cG75 = 50 := by decide +kernel
def cG76 : zG := z_new cG75 6 4 (fun _ => none)
def cI55 (I : zI) : zI := va_up (cI54 I) 50 (fun _ => 0)
theorem cG76_n : zn cG76 = 51 := by decide +kernel
def cG77 : zG := zPR_ cG76 0 11 50
theorem cG77_n : zn cG77 = 51 := by decide +kernel
def cG78 : zG := z_new cG77 6 4 (fun _ => none)
def cI56 (I : zI) : zI := va_up (cI55 I) 51 (fun _ => 0)
theorem cG78_n : zn cG78 = 52 := by decide +kernel
def cG79 : zG := zPR_ cG78 0 12 51
theorem cG79_n : zn cG79 = 52 := by decide +kernel
set_option maxRecDepth 20000 in
theorem c_init_1 {X : Nat × (Nat → Int32)} {d : Nat} {I : zI} : Cv X (d + 1) 2 [.ref 1] cG2 (cI2 I) (none, cG16, (cI11 I)) := by
  refine Cv.of hq_2 (z_le rfl) rfl ?_
  refine Ev_aload_n hq_2 (show decode prog_2_method_1_code 0 = .ok (.aload_n 0, 1) by decide +kernel) rfl ?_
  refine Ev_obj hq_2 (show decode prog_2_method_1_code 1 = .ok (.invokespecial 3, 3) by decide +kernel) rfl (z_le rfl) ?_
  refine Ev_aload_n hq_2 (show decode prog_2_method_1_code 4 = .ok (.aload_n 0, 1) by decide +kernel) rfl ?_
  refine Ev_iconst (v := 4) hq_2 (show decode prog_2_method_1_code 5 = .ok (.iconst 4, 1) by decide +kernel) (by decide) ?_
  refine Ev_nI (l := 4) (G2 := cG3) (I2 := (cI3 I)) hq_2 (show decode prog_2_method_1_code 6 = .ok (.newarray .int, 2) by decide +kernel) rfl (by decide) (by decide) (by decide) cG2_n rfl rfl ?_
  refine Ev_pR (G2 := cG4) hq_2 (show decode prog_2_method_1_code 8 = .ok (.putfield 9, 3) by decide +kernel) rfl (by decide +kernel) (by decide +kernel) (by decide) (by decide) rfl rfl ?_
  refine Ev_aload_n hq_2 (show decode prog_2_method_1_code 11 = .ok (.aload_n 0, 1) by decide +kernel) rfl ?_
  refine Ev_iconst (v := 4) hq_2 (show decode prog_2_method_1_code 12 = .ok (.iconst 4, 1) by decide +kernel) (by decide) ?_
  refine Ev_nI (l := 4) (G2 := cG5) (I2 := (cI4 I)) hq_2 (show decode prog_2_method_1_code 13 = .ok (.newarray .int, 2) by decide +kernel) rfl (by decide) (by decide) (by decide) cG4_n rfl rfl ?_
  refine Ev_pR (G2 := cG6) hq_2 (show decode prog_2_method_1_code 15 = .ok (.putfield 15, 3) by decide +kernel) rfl (by decide +kernel) (by decide +kernel) (by decide) (by decide) rfl rfl ?_
  refine Ev_aload_n hq_2 (show decode prog_2_method_1_code 18 = .ok (.aload_n 0, 1) by decide +kernel) rfl ?_
  refine Ev_iconst (v := 4) hq_2 (show decode prog_2_method_1_code 19 = .ok (.iconst 4, 1) by decide +kernel) (by decide) ?_
  refine Ev_nI (l := 4) (G2 := cG7) (I2 := (cI5 I)) hq_2 (show decode prog_2_method_1_code 20 = .ok (.newarray .int, 2) by decide +kernel) rfl (by decide) (by decide) (by decide) cG6_n rfl rfl ?_
  refine Ev_pR (G2 := cG8) hq_2 (show decode prog_2_method_1_code 22 = .ok (.putfield 18, 3) by decide +kernel) rfl (by decide +kernel) (by decide +kernel) (by decide) (by decide) rfl rfl ?_
  refine Ev_aload_n hq_2 (show decode prog_2_method_1_code 25 = .ok (.aload_n 0, 1) by decide +kernel) rfl ?_
  refine Ev_iconst (v := 4) hq_2 (show decode prog_2_method_1_code 26 = .ok (.iconst 4, 1) by decide +kernel) (by decide) ?_
  refine Ev_nI (l := 4) (G2 := cG9) (I2 := (cI6 I)) hq_2 (show decode prog_2_method_1_code 27 = .ok (.newarray .int, 2) by decide +kernel) rfl (by decide) (by decide) (by decide) cG8_n rfl rfl ?_
  refine Ev_pR (G2 := cG10) hq_2 (show decode prog_2_method_1_code 29 = .ok (.putfield 21, 3) by decide +kernel) rfl (by decide +kernel) (by decide +kernel) (by decide) (by decide) rfl rfl ?_
  refine Ev_aload_n hq_2 (show decode prog_2_method_1_code 32 = .ok (.aload_n 0, 1) by decide +kernel) rfl ?_
  refine Ev_iconst (v := 4) hq_2 (show decode prog_2_method_1_code 33 = .ok (.iconst 4, 1) by decide +kernel) (by decide) ?_
  refine Ev_nI (l := 4) (G2 := cG11) (I2 := (cI7 I)) hq_2 (show decode prog_2_method_1_code 34 = .ok (.newarray .int, 2) by decide +kernel) rfl (by decide) (by decide) (by decide) cG10_n rfl rfl ?_
  refine Ev_pR (G2 := cG12) hq_2 (show decode prog_2_method_1_code 36 = .ok (.putfield 24, 3) by decide +kernel) rfl (by decide +kernel) (by decide +kernel) (by decide) (by decide) rfl rfl ?_
  refine Ev_aload_n hq_2 (show decode prog_2_method_1_code 39 = .ok (.aload_n 0, 1) by decide +kernel) rfl ?_
  refine Ev_iconst (v := 4) hq_2 (show decode prog_2_method_1_code 40 = .ok (.iconst 4, 1) by decide +kernel) (by decide) ?_
  refine Ev_nI (l := 4) (G2 := cG13) (I2 := (cI8 I)) hq_2 (show decode prog_2_method_1_code 41 = .ok (.newarray .int, 2) by decide +kernel) rfl (by decide) (by decide) (by decide) cG12_n rfl rfl ?_
  refine Ev_pR (G2 := cG14) hq_2 (show decode prog_2_method_1_code 43 = .ok (.putfield 27, 3) by decide +kernel) rfl (by decide +kernel) (by decide +kernel) (by decide) (by decide) rfl rfl ?_
  refine Ev_aload_n hq_2 (show decode prog_2_method_1_code 46 = .ok (.aload_n 0, 1) by decide +kernel) rfl ?_
  refine Ev_iconst (v := 4) hq_2 (show decode prog_2_method_1_code 47 = .ok (.iconst 4, 1) by decide +kernel) (by decide) ?_
  refine Ev_nI (l := 4) (G2 := cG15) (I2 := (cI9 I)) hq_2 (show decode prog_2_method_1_code 48 = .ok (.newarray .int, 2) by decide +kernel) rfl (by decide) (by decide) (by decide) cG14_n rfl rfl ?_
  refine Ev_pR (G2 := cG16) hq_2 (show decode prog_2_method_1_code 50 = .ok (.putfield 30, 3) by decide +kernel) rfl (by decide +kernel) (by decide +kernel) (by decide) (by decide) rfl rfl ?_
  refine Ev_aload_n hq_2 (show decode prog_2_method_1_code 53 = .ok (.aload_n 0, 1) by decide +kernel) rfl ?_
  refine Ev_iconst (v := 0) hq_2 (show decode prog_2_method_1_code 54 = .ok (.iconst 0, 1) by decide +kernel) (by decide) ?_
  refine Ev_pI (I2 := (cI10 I)) hq_2 (show decode prog_2_method_1_code 55 = .ok (.putfield 33, 3) by decide +kernel) rfl (by decide +kernel) (by decide +kernel) (by decide) (by decide) rfl (by decide) rfl ?_
  refine Ev_aload_n hq_2 (show decode prog_2_method_1_code 58 = .ok (.aload_n 0, 1) by decide +kernel) rfl ?_
  refine Ev_iconst (v := 0) hq_2 (show decode prog_2_method_1_code 59 = .ok (.iconst 0, 1) by decide +kernel) (by decide) ?_
  refine Ev_pI (I2 := (cI11 I)) hq_2 (show decode prog_2_method_1_code 60 = .ok (.putfield 37, 3) by decide +kernel) rfl (by decide +kernel) (by decide +kernel) (by decide) (by decide) rfl (by decide) rfl ?_
  exact Ev_vret hq_2 (show decode prog_2_method_1_code 63 = .ok (.return_, 1) by decide +kernel) rfl
set_option maxRecDepth 20000 in
theorem c_init_9 {X : Nat × (Nat → Int32)} {d : Nat} {I : zI} : Cv X (d + 1) 2 [.ref 9] cG18 (cI12 I) (none, cG32, (cI21 I)) := by
  refine Cv.of hq_2 (z_le rfl) rfl ?_
  refine Ev_aload_n hq_2 (show decode prog_2_method_1_code 0 = .ok (.aload_n 0, 1) by decide +kernel) rfl ?_
  refine Ev_obj hq_2 (show decode prog_2_method_1_code 1 = .ok (.invokespecial 3, 3) by decide +kernel) rfl (z_le rfl) ?_
  refine Ev_aload_n hq_2 (show decode prog_2_method_1_code 4 = .ok (.aload_n 0, 1) by decide +kernel) rfl ?_
  refine Ev_iconst (v := 4) hq_2 (show decode prog_2_method_1_code 5 = .ok (.iconst 4, 1) by decide +kernel) (by decide) ?_
  refine Ev_nI (l := 4) (G2 := cG19) (I2 := (cI13 I)) hq_2 (show decode prog_2_method_1_code 6 = .ok (.newarray .int, 2) by decide +kernel) rfl (by decide) (by decide) (by decide) cG18_n rfl rfl ?_
  refine Ev_pR (G2 := cG20) hq_2 (show decode prog_2_method_1_code 8 = .ok (.putfield 9, 3) by decide +kernel) rfl (by decide +kernel) (by decide +kernel) (by decide) (by decide) rfl rfl ?_
  refine Ev_aload_n hq_2 (show decode prog_2_method_1_code 11 = .ok (.aload_n 0, 1) by decide +kernel) rfl ?_
  refine Ev_iconst (v := 4) hq_2 (show decode prog_2_method_1_code 12 = .ok (.iconst 4, 1) by decide +kernel) (by decide) ?_
  refine Ev_nI (l := 4) (G2 := cG21) (I2 := (cI14 I)) hq_2 (show decode prog_2_method_1_code 13 = .ok (.newarray .int, 2) by decide +kernel) rfl (by decide) (by decide) (by decide) cG20_n rfl rfl ?_
  refine Ev_pR (G2 := cG22) hq_2 (show decode prog_2_method_1_code 15 = .ok (.putfield 15, 3) by decide +kernel) rfl (by decide +kernel) (by decide +kernel) (by decide) (by decide) rfl rfl ?_
  refine Ev_aload_n hq_2 (show decode prog_2_method_1_code 18 = .ok (.aload_n 0, 1) by decide +kernel) rfl ?_
  refine Ev_iconst (v := 4) hq_2 (show decode prog_2_method_1_code 19 = .ok (.iconst 4, 1) by decide +kernel) (by decide) ?_
  refine Ev_nI (l := 4) (G2 := cG23) (I2 := (cI15 I)) hq_2 (show decode prog_2_method_1_code 20 = .ok (.newarray .int, 2) by decide +kernel) rfl (by decide) (by decide) (by decide) cG22_n rfl rfl ?_
  refine Ev_pR (G2 := cG24) hq_2 (show decode prog_2_method_1_code 22 = .ok (.putfield 18, 3) by decide +kernel) rfl (by decide +kernel) (by decide +kernel) (by decide) (by decide) rfl rfl ?_
  refine Ev_aload_n hq_2 (show decode prog_2_method_1_code 25 = .ok (.aload_n 0, 1) by decide +kernel) rfl ?_
  refine Ev_iconst (v := 4) hq_2 (show decode prog_2_method_1_code 26 = .ok (.iconst 4, 1) by decide +kernel) (by decide) ?_
  refine Ev_nI (l := 4) (G2 := cG25) (I2 := (cI16 I)) hq_2 (show decode prog_2_method_1_code 27 = .ok (.newarray .int, 2) by decide +kernel) rfl (by decide) (by decide) (by decide) cG24_n rfl rfl ?_
  refine Ev_pR (G2 := cG26) hq_2 (show decode prog_2_method_1_code 29 = .ok (.putfield 21, 3) by decide +kernel) rfl (by decide +kernel) (by decide +kernel) (by decide) (by decide) rfl rfl ?_
  refine Ev_aload_n hq_2 (show decode prog_2_method_1_code 32 = .ok (.aload_n 0, 1) by decide +kernel) rfl ?_
  refine Ev_iconst (v := 4) hq_2 (show decode prog_2_method_1_code 33 = .ok (.iconst 4, 1) by decide +kernel) (by decide) ?_
  refine Ev_nI (l := 4) (G2 := cG27) (I2 := (cI17 I)) hq_2 (show decode prog_2_method_1_code 34 = .ok (.newarray .int, 2) by decide +kernel) rfl (by decide) (by decide) (by decide) cG26_n rfl rfl ?_
  refine Ev_pR (G2 := cG28) hq_2 (show decode prog_2_method_1_code 36 = .ok (.putfield 24, 3) by decide +kernel) rfl (by decide +kernel) (by decide +kernel) (by decide) (by decide) rfl rfl ?_
  refine Ev_aload_n hq_2 (show decode prog_2_method_1_code 39 = .ok (.aload_n 0, 1) by decide +kernel) rfl ?_
  refine Ev_iconst (v := 4) hq_2 (show decode prog_2_method_1_code 40 = .ok (.iconst 4, 1) by decide +kernel) (by decide) ?_
  refine Ev_nI (l := 4) (G2 := cG29) (I2 := (cI18 I)) hq_2 (show decode prog_2_method_1_code 41 = .ok (.newarray .int, 2) by decide +kernel) rfl (by decide) (by decide) (by decide) cG28_n rfl rfl ?_
  refine Ev_pR (G2 := cG30) hq_2 (show decode prog_2_method_1_code 43 = .ok (.putfield 27, 3) by decide +kernel) rfl (by decide +kernel) (by decide +kernel) (by decide) (by decide) rfl rfl ?_
  refine Ev_aload_n hq_2 (show decode prog_2_method_1_code 46 = .ok (.aload_n 0, 1) by decide +kernel) rfl ?_
  refine Ev_iconst (v := 4) hq_2 (show decode prog_2_method_1_code 47 = .ok (.iconst 4, 1) by decide +kernel) (by decide) ?_
  refine Ev_nI (l := 4) (G2 := cG31) (I2 := (cI19 I)) hq_2 (show decode prog_2_method_1_code 48 = .ok (.newarray .int, 2) by decide +kernel) rfl (by decide) (by decide) (by decide) cG30_n rfl rfl ?_
  refine Ev_pR (G2 := cG32) hq_2 (show decode prog_2_method_1_code 50 = .ok (.putfield 30, 3) by decide +kernel) rfl (by decide +kernel) (by decide +kernel) (by decide) (by decide) rfl rfl ?_
  refine Ev_aload_n hq_2 (show decode prog_2_method_1_code 53 = .ok (.aload_n 0, 1) by decide +kernel) rfl ?_
  refine Ev_iconst (v := 0) hq_2 (show decode prog_2_method_1_code 54 = .ok (.iconst 0, 1) by decide +kernel) (by decide) ?_
  refine Ev_pI (I2 := (cI20 I)) hq_2 (show decode prog_2_method_1_code 55 = .ok (.putfield 33, 3) by decide +kernel) rfl (by decide +kernel) (by decide +kernel) (by decide) (by decide) rfl (by decide) rfl ?_
  refine Ev_aload_n hq_2 (show decode prog_2_method_1_code 58 = .ok (.aload_n 0, 1) by decide +kernel) rfl ?_
  refine Ev_iconst (v := 0) hq_2 (show decode prog_2_method_1_code 59 = .ok (.iconst 0, 1) by decide +kernel) (by decide) ?_
  refine Ev_pI (I2 := (cI21 I)) hq_2 (show decode prog_2_method_1_code 60 = .ok (.putfield 37, 3) by decide +kernel) rfl (by decide +kernel) (by decide +kernel) (by decide) (by decide) rfl (by decide) rfl ?_
  exact Ev_vret hq_2 (show decode prog_2_method_1_code 63 = .ok (.return_, 1) by decide +kernel) rfl
set_option maxRecDepth 20000 in
theorem c_init_17 {X : Nat × (Nat → Int32)} {d : Nat} {I : zI} : Cv X (d + 1) 2 [.ref 17] cG34 (cI22 I) (none, cG48, (cI31 I)) := by
  refine Cv.of hq_2 (z_le rfl) rfl ?_
  refine Ev_aload_n hq_2 (show decode prog_2_method_1_code 0 = .ok (.aload_n 0, 1) by decide +kernel) rfl ?_
  refine Ev_obj hq_2 (show decode prog_2_method_1_code 1 = .ok (.invokespecial 3, 3) by decide +kernel) rfl (z_le rfl) ?_
  refine Ev_aload_n hq_2 (show decode prog_2_method_1_code 4 = .ok (.aload_n 0, 1) by decide +kernel) rfl ?_
  refine Ev_iconst (v := 4) hq_2 (show decode prog_2_method_1_code 5 = .ok (.iconst 4, 1) by decide +kernel) (by decide) ?_
  refine Ev_nI (l := 4) (G2 := cG35) (I2 := (cI23 I)) hq_2 (show decode prog_2_method_1_code 6 = .ok (.newarray .int, 2) by decide +kernel) rfl (by decide) (by decide) (by decide) cG34_n rfl rfl ?_
  refine Ev_pR (G2 := cG36) hq_2 (show decode prog_2_method_1_code 8 = .ok (.putfield 9, 3) by decide +kernel) rfl (by decide +kernel) (by decide +kernel) (by decide) (by decide) rfl rfl ?_
  refine Ev_aload_n hq_2 (show decode prog_2_method_1_code 11 = .ok (.aload_n 0, 1) by decide +kernel) rfl ?_
  refine Ev_iconst (v := 4) hq_2 (show decode prog_2_method_1_code 12 = .ok (.iconst 4, 1) by decide +kernel) (by decide) ?_
  refine Ev_nI (l := 4) (G2 := cG37) (I2 := (cI24 I)) hq_2 (show decode prog_2_method_1_code 13 = .ok (.newarray .int, 2) by decide +kernel) rfl (by decide) (by decide) (by decide) cG36_n rfl rfl ?_
  refine Ev_pR (G2 := cG38) hq_2 (show decode prog_2_method_1_code 15 = .ok (.putfield 15, 3) by decide +kernel) rfl (by decide +kernel) (by decide +kernel) (by decide) (by decide) rfl rfl ?_
  refine Ev_aload_n hq_2 (show decode prog_2_method_1_code 18 = .ok (.aload_n 0, 1) by decide +kernel) rfl ?_
  refine Ev_iconst (v := 4) hq_2 (show decode prog_2_method_1_code 19 = .ok (.iconst 4, 1) by decide +kernel) (by decide) ?_
  refine Ev_nI (l := 4) (G2 := cG39) (I2 := (cI25 I)) hq_2 (show decode prog_2_method_1_code 20 = .ok (.newarray .int, 2) by decide +kernel) rfl (by decide) (by decide) (by decide) cG38_n rfl rfl ?_
  refine Ev_pR (G2 := cG40) hq_2 (show decode prog_2_method_1_code 22 = .ok (.putfield 18, 3) by decide +kernel) rfl (by decide +kernel) (by decide +kernel) (by decide) (by decide) rfl rfl ?_
  refine Ev_aload_n hq_2 (show decode prog_2_method_1_code 25 = .ok (.aload_n 0, 1) by decide +kernel) rfl ?_
  refine Ev_iconst (v := 4) hq_2 (show decode prog_2_method_1_code 26 = .ok (.iconst 4, 1) by decide +kernel) (by decide) ?_
  refine Ev_nI (l := 4) (G2 := cG41) (I2 := (cI26 I)) hq_2 (show decode prog_2_method_1_code 27 = .ok (.newarray .int, 2) by decide +kernel) rfl (by decide) (by decide) (by decide) cG40_n rfl rfl ?_
  refine Ev_pR (G2 := cG42) hq_2 (show decode prog_2_method_1_code 29 = .ok (.putfield 21, 3) by decide +kernel) rfl (by decide +kernel) (by decide +kernel) (by decide) (by decide) rfl rfl ?_
  refine Ev_aload_n hq_2 (show decode prog_2_method_1_code 32 = .ok (.aload_n 0, 1) by decide +kernel) rfl ?_
  refine Ev_iconst (v := 4) hq_2 (show decode prog_2_method_1_code 33 = .ok (.iconst 4, 1) by decide +kernel) (by decide) ?_
  refine Ev_nI (l := 4) (G2 := cG43) (I2 := (cI27 I)) hq_2 (show decode prog_2_method_1_code 34 = .ok (.newarray .int, 2) by decide +kernel) rfl (by decide) (by decide) (by decide) cG42_n rfl rfl ?_
  refine Ev_pR (G2 := cG44) hq_2 (show decode prog_2_method_1_code 36 = .ok (.putfield 24, 3) by decide +kernel) rfl (by decide +kernel) (by decide +kernel) (by decide) (by decide) rfl rfl ?_
  refine Ev_aload_n hq_2 (show decode prog_2_method_1_code 39 = .ok (.aload_n 0, 1) by decide +kernel) rfl ?_
  refine Ev_iconst (v := 4) hq_2 (show decode prog_2_method_1_code 40 = .ok (.iconst 4, 1) by decide +kernel) (by decide) ?_
  refine Ev_nI (l := 4) (G2 := cG45) (I2 := (cI28 I)) hq_2 (show decode prog_2_method_1_code 41 = .ok (.newarray .int, 2) by decide +kernel) rfl (by decide) (by decide) (by decide) cG44_n rfl rfl ?_
  refine Ev_pR (G2 := cG46) hq_2 (show decode prog_2_method_1_code 43 = .ok (.putfield 27, 3) by decide +kernel) rfl (by decide +kernel) (by decide +kernel) (by decide) (by decide) rfl rfl ?_
  refine Ev_aload_n hq_2 (show decode prog_2_method_1_code 46 = .ok (.aload_n 0, 1) by decide +kernel) rfl ?_
  refine Ev_iconst (v := 4) hq_2 (show decode prog_2_method_1_code 47 = .ok (.iconst 4, 1) by decide +kernel) (by decide) ?_
  refine Ev_nI (l := 4) (G2 := cG47) (I2 := (cI29 I)) hq_2 (show decode prog_2_method_1_code 48 = .ok (.newarray .int, 2) by decide +kernel) rfl (by decide) (by decide) (by decide) cG46_n rfl rfl ?_
  refine Ev_pR (G2 := cG48) hq_2 (show decode prog_2_method_1_code 50 = .ok (.putfield 30, 3) by decide +kernel) rfl (by decide +kernel) (by decide +kernel) (by decide) (by decide) rfl rfl ?_
  refine Ev_aload_n hq_2 (show decode prog_2_method_1_code 53 = .ok (.aload_n 0, 1) by decide +kernel) rfl ?_
  refine Ev_iconst (v := 0) hq_2 (show decode prog_2_method_1_code 54 = .ok (.iconst 0, 1) by decide +kernel) (by decide) ?_
  refine Ev_pI (I2 := (cI30 I)) hq_2 (show decode prog_2_method_1_code 55 = .ok (.putfield 33, 3) by decide +kernel) rfl (by decide +kernel) (by decide +kernel) (by decide) (by decide) rfl (by decide) rfl ?_
  refine Ev_aload_n hq_2 (show decode prog_2_method_1_code 58 = .ok (.aload_n 0, 1) by decide +kernel) rfl ?_
  refine Ev_iconst (v := 0) hq_2 (show decode prog_2_method_1_code 59 = .ok (.iconst 0, 1) by decide +kernel) (by decide) ?_
  refine Ev_pI (I2 := (cI31 I)) hq_2 (show decode prog_2_method_1_code 60 = .ok (.putfield 37, 3) by decide +kernel) rfl (by decide +kernel) (by decide +kernel) (by decide) (by decide) rfl (by decide) rfl ?_
  exact Ev_vret hq_2 (show decode prog_2_method_1_code 63 = .ok (.return_, 1) by decide +kernel) rfl
set_option maxRecDepth 20000 in
theorem c_init_25 {X : Nat × (Nat → Int32)} {d : Nat} {I : zI} : Cv X (d + 1) 3 [.ref 25] cG50 (cI33 I) (none, cG60, (cI38 I)) := by
  refine Cv.of hq_3 (z_le rfl) rfl ?_
  refine Ev_aload_n hq_3 (show decode prog_4_method_1_code 0 = .ok (.aload_n 0, 1) by decide +kernel) rfl ?_
  refine Ev_obj hq_3 (show decode prog_4_method_1_code 1 = .ok (.invokespecial 3, 3) by decide +kernel) rfl (z_le rfl) ?_
  refine Ev_aload_n hq_3 (show decode prog_4_method_1_code 4 = .ok (.aload_n 0, 1) by decide +kernel) rfl ?_
  refine Ev_iconst (v := 4) hq_3 (show decode prog_4_method_1_code 5 = .ok (.iconst 4, 1) by decide +kernel) (by decide) ?_
  refine Ev_bipush (v := 30) hq_3 (show decode prog_4_method_1_code 6 = .ok (.bipush 30, 2) by decide +kernel) (by decide) ?_
  refine Ev_n4 (l := 30) (G2 := cG51) (I2 := (cI34 I)) hq_3 (show decode prog_4_method_1_code 8 = .ok (.multianewarray 9 2, 4) by decide +kernel) rfl (by decide) (by decide) (by decide) cG50_n rfl rfl ?_
  refine Ev_pR (G2 := cG52) hq_3 (show decode prog_4_method_1_code 12 = .ok (.putfield 11, 3) by decide +kernel) rfl (by decide +kernel) (by decide +kernel) (by decide) (by decide) rfl rfl ?_
  refine Ev_aload_n hq_3 (show decode prog_4_method_1_code 15 = .ok (.aload_n 0, 1) by decide +kernel) rfl ?_
  refine Ev_iconst (v := 4) hq_3 (show decode prog_4_method_1_code 16 = .ok (.iconst 4, 1) by decide +kernel) (by decide) ?_
  refine Ev_bipush (v := 31) hq_3 (show decode prog_4_method_1_code 17 = .ok (.bipush 31, 2) by decide +kernel) (by decide) ?_
  refine Ev_n4 (l := 31) (G2 := cG53) (I2 := (cI35 I)) hq_3 (show decode prog_4_method_1_code 19 = .ok (.multianewarray 9 2, 4) by decide +kernel) rfl (by decide) (by decide) (by decide) cG52_n rfl rfl ?_
  refine Ev_pR (G2 := cG54) hq_3 (show decode prog_4_method_1_code 23 = .ok (.putfield 16, 3) by decide +kernel) rfl (by decide +kernel) (by decide +kernel) (by decide) (by decide) rfl rfl ?_
  refine Ev_aload_n hq_3 (show decode prog_4_method_1_code 26 = .ok (.aload_n 0, 1) by decide +kernel) rfl ?_
  refine Ev_iconst (v := 4) hq_3 (show decode prog_4_method_1_code 27 = .ok (.iconst 4, 1) by decide +kernel) (by decide) ?_
  refine Ev_nI (l := 4) (G2 := cG55) (I2 := (cI36 I)) hq_3 (show decode prog_4_method_1_code 28 = .ok (.newarray .int, 2) by decide +kernel) rfl (by decide) (by decide) (by decide) cG54_n rfl rfl ?_
  refine Ev_pR (G2 := cG56) hq_3 (show decode prog_4_method_1_code 30 = .ok (.putfield 19, 3) by decide +kernel) rfl (by decide +kernel) (by decide +kernel) (by decide) (by decide) rfl rfl ?_
  refine Ev_aload_n hq_3 (show decode prog_4_method_1_code 33 = .ok (.aload_n 0, 1) by decide +kernel) rfl ?_
  refine Ev_iconst (v := 4) hq_3 (show decode prog_4_method_1_code 34 = .ok (.iconst 4, 1) by decide +kernel) (by decide) ?_
  refine Ev_nI (l := 4) (G2 := cG57) (I2 := (cI37 I)) hq_3 (show decode prog_4_method_1_code 35 = .ok (.newarray .int, 2) by decide +kernel) rfl (by decide) (by decide) (by decide) cG56_n rfl rfl ?_
  refine Ev_pR (G2 := cG58) hq_3 (show decode prog_4_method_1_code 37 = .ok (.putfield 23, 3) by decide +kernel) rfl (by decide +kernel) (by decide +kernel) (by decide) (by decide) rfl rfl ?_
  refine Ev_aload_n hq_3 (show decode prog_4_method_1_code 40 = .ok (.aload_n 0, 1) by decide +kernel) rfl ?_
  refine Ev_iconst (v := 4) hq_3 (show decode prog_4_method_1_code 41 = .ok (.iconst 4, 1) by decide +kernel) (by decide) ?_
  refine Ev_nI (l := 4) (G2 := cG59) (I2 := (cI38 I)) hq_3 (show decode prog_4_method_1_code 42 = .ok (.newarray .int, 2) by decide +kernel) rfl (by decide) (by decide) (by decide) cG58_n rfl rfl ?_
  refine Ev_pR (G2 := cG60) hq_3 (show decode prog_4_method_1_code 44 = .ok (.putfield 26, 3) by decide +kernel) rfl (by decide +kernel) (by decide +kernel) (by decide) (by decide) rfl rfl ?_
  exact Ev_vret hq_3 (show decode prog_4_method_1_code 47 = .ok (.return_, 1) by decide +kernel) rfl
set_option maxRecDepth 20000 in
theorem c_init_39 {X : Nat × (Nat → Int32)} {d : Nat} {I : zI} : Cv X (d + 1) 4 [.ref 39] cG62 (cI39 I) (none, cG68, (cI49 I)) := by
  refine Cv.of hq_4 (z_le rfl) rfl ?_
  refine Ev_aload_n hq_4 (show decode prog_5_method_1_code 0 = .ok (.aload_n 0, 1) by decide +kernel) rfl ?_
  refine Ev_obj hq_4 (show decode prog_5_method_1_code 1 = .ok (.invokespecial 3, 3) by decide +kernel) rfl (z_le rfl) ?_
  refine Ev_aload_n hq_4 (show decode prog_5_method_1_code 4 = .ok (.aload_n 0, 1) by decide +kernel) rfl ?_
  refine Ev_iconst (v := 0) hq_4 (show decode prog_5_method_1_code 5 = .ok (.iconst 0, 1) by decide +kernel) (by decide) ?_
  refine Ev_nI (l := 0) (G2 := cG63) (I2 := (cI40 I)) hq_4 (show decode prog_5_method_1_code 6 = .ok (.newarray .int, 2) by decide +kernel) rfl (by decide) (by decide) (by decide) cG62_n rfl rfl ?_
  refine Ev_pR (G2 := cG64) hq_4 (show decode prog_5_method_1_code 8 = .ok (.putfield 9, 3) by decide +kernel) rfl (by decide +kernel) (by decide +kernel) (by decide) (by decide) rfl rfl ?_
  refine Ev_aload_n hq_4 (show decode prog_5_method_1_code 11 = .ok (.aload_n 0, 1) by decide +kernel) rfl ?_
  refine Ev_iconst (v := 0) hq_4 (show decode prog_5_method_1_code 12 = .ok (.iconst 0, 1) by decide +kernel) (by decide) ?_
  refine Ev_pI (I2 := (cI41 I)) hq_4 (show decode prog_5_method_1_code 13 = .ok (.putfield 15, 3) by decide +kernel) rfl (by decide +kernel) (by decide +kernel) (by decide) (by decide) rfl (by decide) rfl ?_
  refine Ev_aload_n hq_4 (show decode prog_5_method_1_code 16 = .ok (.aload_n 0, 1) by decide +kernel) rfl ?_
  refine Ev_iconst (v := 0) hq_4 (show decode prog_5_method_1_code 17 = .ok (.iconst 0, 1) by decide +kernel) (by decide) ?_
  refine Ev_pI (I2 := (cI42 I)) hq_4 (show decode prog_5_method_1_code 18 = .ok (.putfield 19, 3) by decide +kernel) rfl (by decide +kernel) (by decide +kernel) (by decide) (by decide) rfl (by decide) rfl ?_
  refine Ev_aload_n hq_4 (show decode prog_5_method_1_code 21 = .ok (.aload_n 0, 1) by decide +kernel) rfl ?_
  refine Ev_iconst (v := 0) hq_4 (show decode prog_5_method_1_code 22 = .ok (.iconst 0, 1) by decide +kernel) (by decide) ?_
  refine Ev_pI (I2 := (cI43 I)) hq_4 (show decode prog_5_method_1_code 23 = .ok (.putfield 22, 3) by decide +kernel) rfl (by decide +kernel) (by decide +kernel) (by decide) (by decide) rfl (by decide) rfl ?_
  refine Ev_aload_n hq_4 (show decode prog_5_method_1_code 26 = .ok (.aload_n 0, 1) by decide +kernel) rfl ?_
  refine Ev_iconst (v := 0) hq_4 (show decode prog_5_method_1_code 27 = .ok (.iconst 0, 1) by decide +kernel) (by decide) ?_
  refine Ev_pI (I2 := (cI44 I)) hq_4 (show decode prog_5_method_1_code 28 = .ok (.putfield 25, 3) by decide +kernel) rfl (by decide +kernel) (by decide +kernel) (by decide) (by decide) rfl (by decide) rfl ?_
  refine Ev_aload_n hq_4 (show decode prog_5_method_1_code 31 = .ok (.aload_n 0, 1) by decide +kernel) rfl ?_
  refine Ev_iconst (v := 0) hq_4 (show decode prog_5_method_1_code 32 = .ok (.iconst 0, 1) by decide +kernel) (by decide) ?_
  refine Ev_pI (I2 := (cI45 I)) hq_4 (show decode prog_5_method_1_code 33 = .ok (.putfield 28, 3) by decide +kernel) rfl (by decide +kernel) (by decide +kernel) (by decide) (by decide) rfl (by decide) rfl ?_
  refine Ev_aload_n hq_4 (show decode prog_5_method_1_code 36 = .ok (.aload_n 0, 1) by decide +kernel) rfl ?_
  refine Ev_iconst (v := 0) hq_4 (show decode prog_5_method_1_code 37 = .ok (.iconst 0, 1) by decide +kernel) (by decide) ?_
  refine Ev_pI (I2 := (cI46 I)) hq_4 (show decode prog_5_method_1_code 38 = .ok (.putfield 31, 3) by decide +kernel) rfl (by decide +kernel) (by decide +kernel) (by decide) (by decide) rfl (by decide) rfl ?_
  refine Ev_aload_n hq_4 (show decode prog_5_method_1_code 41 = .ok (.aload_n 0, 1) by decide +kernel) rfl ?_
  refine Ev_sipush (v := 160) hq_4 (show decode prog_5_method_1_code 42 = .ok (.sipush 160, 3) by decide +kernel) (by decide) ?_
  refine Ev_nI (l := 160) (G2 := cG65) (I2 := (cI47 I)) hq_4 (show decode prog_5_method_1_code 45 = .ok (.newarray .int, 2) by decide +kernel) rfl (by decide) (by decide) (by decide) cG64_n rfl rfl ?_
  refine Ev_pR (G2 := cG66) hq_4 (show decode prog_5_method_1_code 47 = .ok (.putfield 34, 3) by decide +kernel) rfl (by decide +kernel) (by decide +kernel) (by decide) (by decide) rfl rfl ?_
  refine Ev_aload_n hq_4 (show decode prog_5_method_1_code 50 = .ok (.aload_n 0, 1) by decide +kernel) rfl ?_
  refine Ev_iconst (v := 0) hq_4 (show decode prog_5_method_1_code 51 = .ok (.iconst 0, 1) by decide +kernel) (by decide) ?_
  refine Ev_pI (I2 := (cI48 I)) hq_4 (show decode prog_5_method_1_code 52 = .ok (.putfield 37, 3) by decide +kernel) rfl (by decide +kernel) (by decide +kernel) (by decide) (by decide) rfl (by decide) rfl ?_
  refine Ev_aload_n hq_4 (show decode prog_5_method_1_code 55 = .ok (.aload_n 0, 1) by decide +kernel) rfl ?_
  refine Ev_iconst (v := 4) hq_4 (show decode prog_5_method_1_code 56 = .ok (.iconst 4, 1) by decide +kernel) (by decide) ?_
  refine Ev_nI (l := 4) (G2 := cG67) (I2 := (cI49 I)) hq_4 (show decode prog_5_method_1_code 57 = .ok (.newarray .int, 2) by decide +kernel) rfl (by decide) (by decide) (by decide) cG66_n rfl rfl ?_
  refine Ev_pR (G2 := cG68) hq_4 (show decode prog_5_method_1_code 59 = .ok (.putfield 42, 3) by decide +kernel) rfl (by decide +kernel) (by decide +kernel) (by decide) (by decide) rfl rfl ?_
  exact Ev_vret hq_4 (show decode prog_5_method_1_code 62 = .ok (.return_, 1) by decide +kernel) rfl
set_option maxRecDepth 20000 in
theorem T_init_117 {X : Nat × (Nat → Int32)} {d : Nat} {I : zI} {res : Option Value × zG × zI} (k : Ev X (d + 2) 1 117 [.ref 0, zU, zU, zU] [] cG79 (cI56 I) res) : Ev X (d + 2) 1 0 [.ref 0, zU, zU, zU] [] cG1 (cI1 I) res := by
  refine Ev_aload_n hq_1 (show decode prog_1_method_1_code 0 = .ok (.aload_n 0, 1) by decide +kernel) rfl ?_
  refine Ev_obj hq_1 (show decode prog_1_method_1_code 1 = .ok (.invokespecial 1, 3) by decide +kernel) rfl (z_le rfl) ?_
  refine Ev_aload_n hq_1 (show decode prog_1_method_1_code 4 = .ok (.aload_n 0, 1) by decide +kernel) rfl ?_
  refine Ev_nO (c := 0) (l := 9) (G2 := cG2) (I2 := (cI2 I)) hq_1 (show decode prog_1_method_1_code 5 = .ok (.new 7, 3) by decide +kernel) rfl (by decide) rfl rfl cG1_n rfl rfl ?_
  refine Ev_dup hq_1 (show decode prog_1_method_1_code 8 = .ok (.dup, 1) by decide +kernel) rfl ?_
  refine Ev_spec (as := []) hq_1 (show decode prog_1_method_1_code 9 = .ok (.invokespecial 9, 3) by decide +kernel) rfl (by decide) hq_2 rfl (z_le rfl) c_init_1 ?_
  refine Ev_pR (G2 := cG17) hq_1 (show decode prog_1_method_1_code 12 = .ok (.putfield 10, 3) by decide +kernel) rfl (by decide +kernel) (by decide +kernel) (by decide) (by decide) rfl rfl ?_
  refine Ev_aload_n hq_1 (show decode prog_1_method_1_code 15 = .ok (.aload_n 0, 1) by decide +kernel) rfl ?_
  refine Ev_nO (c := 0) (l := 9) (G2 := cG18) (I2 := (cI12 I)) hq_1 (show decode prog_1_method_1_code 16 = .ok (.new 7, 3) by decide +kernel) rfl (by decide) rfl rfl cG17_n rfl rfl ?_
  refine Ev_dup hq_1 (show decode prog_1_method_1_code 19 = .ok (.dup, 1) by decide +kernel) rfl ?_
  refine Ev_spec (as := []) hq_1 (show decode prog_1_method_1_code 20 = .ok (.invokespecial 9, 3) by decide +kernel) rfl (by decide) hq_2 rfl (z_le rfl) c_init_9 ?_
  refine Ev_pR (G2 := cG33) hq_1 (show decode prog_1_method_1_code 23 = .ok (.putfield 16, 3) by decide +kernel) rfl (by decide +kernel) (by decide +kernel) (by decide) (by decide) rfl rfl ?_
  refine Ev_aload_n hq_1 (show decode prog_1_method_1_code 26 = .ok (.aload_n 0, 1) by decide +kernel) rfl ?_
  refine Ev_nO (c := 0) (l := 9) (G2 := cG34) (I2 := (cI22 I)) hq_1 (show decode prog_1_method_1_code 27 = .ok (.new 7, 3) by decide +kernel) rfl (by decide) rfl rfl cG33_n rfl rfl ?_
  refine Ev_dup hq_1 (show decode prog_1_method_1_code 30 = .ok (.dup, 1) by decide +kernel) rfl ?_
  refine Ev_spec (as := []) hq_1 (show decode prog_1_method_1_code 31 = .ok (.invokespecial 9, 3) by decide +kernel) rfl (by decide) hq_2 rfl (z_le rfl) c_init_17 ?_
  refine Ev_pR (G2 := cG49) hq_1 (show decode prog_1_method_1_code 34 = .ok (.putfield 19, 3) by decide +kernel) rfl (by decide +kernel) (by decide +kernel) (by decide) (by decide) rfl rfl ?_
  refine Ev_aload_n hq_1 (show decode prog_1_method_1_code 37 = .ok (.aload_n 0, 1) by decide +kernel) rfl ?_
  refine Ev_iconst (v := 0) hq_1 (show decode prog_1_method_1_code 38 = .ok (.iconst 0, 1) by decide +kernel) (by decide) ?_
  refine Ev_pI (I2 := (cI32 I)) hq_1 (show decode prog_1_method_1_code 39 = .ok (.putfield 22, 3) by decide +kernel) rfl (by decide +kernel) (by decide +kernel) (by decide) (by decide) rfl (by decide) rfl ?_
  refine Ev_aload_n hq_1 (show decode prog_1_method_1_code 42 = .ok (.aload_n 0, 1) by decide +kernel) rfl ?_
  refine Ev_nO (c := 2) (l := 5) (G2 := cG50) (I2 := (cI33 I)) hq_1 (show decode prog_1_method_1_code 43 = .ok (.new 26, 3) by decide +kernel) rfl (by decide) rfl rfl cG49_n rfl rfl ?_
  refine Ev_dup hq_1 (show decode prog_1_method_1_code 46 = .ok (.dup, 1) by decide +kernel) rfl ?_
  refine Ev_spec (as := []) hq_1 (show decode prog_1_method_1_code 47 = .ok (.invokespecial 28, 3) by decide +kernel) rfl (by decide) hq_3 rfl (z_le rfl) c_init_25 ?_
  refine Ev_pR (G2 := cG61) hq_1 (show decode prog_1_method_1_code 50 = .ok (.putfield 29, 3) by decide +kernel) rfl (by decide +kernel) (by decide +kernel) (by decide) (by decide) rfl rfl ?_
  refine Ev_aload_n hq_1 (show decode prog_1_method_1_code 53 = .ok (.aload_n 0, 1) by decide +kernel) rfl ?_
  refine Ev_nO (c := 3) (l := 10) (G2 := cG62) (I2 := (cI39 I)) hq_1 (show decode prog_1_method_1_code 54 = .ok (.new 33, 3) by decide +kernel) rfl (by decide) rfl rfl cG61_n rfl rfl ?_
  refine Ev_dup hq_1 (show decode prog_1_method_1_code 57 = .ok (.dup, 1) by decide +kernel) rfl ?_
  refine Ev_spec (as := []) hq_1 (show decode prog_1_method_1_code 58 = .ok (.invokespecial 35, 3) by decide +kernel) rfl (by decide) hq_4 rfl (z_le rfl) c_init_39 ?_
  refine Ev_pR (G2 := cG69) hq_1 (show decode prog_1_method_1_code 61 = .ok (.putfield 36, 3) by decide +kernel) rfl (by decide +kernel) (by decide +kernel) (by decide) (by decide) rfl rfl ?_
  refine Ev_aload_n hq_1 (show decode prog_1_method_1_code 64 = .ok (.aload_n 0, 1) by decide +kernel) rfl ?_
  refine Ev_bipush (v := 6) hq_1 (show decode prog_1_method_1_code 65 = .ok (.bipush 6, 2) by decide +kernel) (by decide) ?_
  refine Ev_nA (l := 6) (G2 := cG70) (I2 := (cI50 I)) hq_1 (show decode prog_1_method_1_code 67 = .ok (.anewarray 40, 3) by decide +kernel) rfl (by decide) (by decide) (by decide) cG69_n rfl rfl ?_
  refine Ev_pR (G2 := cG71) hq_1 (show decode prog_1_method_1_code 70 = .ok (.putfield 42, 3) by decide +kernel) rfl (by decide +kernel) (by decide +kernel) (by decide) (by decide) rfl rfl ?_
  refine Ev_aload_n hq_1 (show decode prog_1_method_1_code 73 = .ok (.aload_n 0, 1) by decide +kernel) rfl ?_
  refine Ev_iconst (v := 1) hq_1 (show decode prog_1_method_1_code 74 = .ok (.iconst 1, 1) by decide +kernel) (by decide) ?_
  refine Ev_pI (I2 := (cI51 I)) hq_1 (show decode prog_1_method_1_code 75 = .ok (.putfield 46, 3) by decide +kernel) rfl (by decide +kernel) (by decide +kernel) (by decide) (by decide) rfl (by decide) rfl ?_
  refine Ev_aload_n hq_1 (show decode prog_1_method_1_code 78 = .ok (.aload_n 0, 1) by decide +kernel) rfl ?_
  refine Ev_sipush (v := 160) hq_1 (show decode prog_1_method_1_code 79 = .ok (.sipush 160, 3) by decide +kernel) (by decide) ?_
  refine Ev_nI (l := 160) (G2 := cG72) (I2 := (cI52 I)) hq_1 (show decode prog_1_method_1_code 82 = .ok (.newarray .int, 2) by decide +kernel) rfl (by decide) (by decide) (by decide) cG71_n rfl rfl ?_
  refine Ev_pR (G2 := cG73) hq_1 (show decode prog_1_method_1_code 84 = .ok (.putfield 50, 3) by decide +kernel) rfl (by decide +kernel) (by decide +kernel) (by decide) (by decide) rfl rfl ?_
  refine Ev_aload_n hq_1 (show decode prog_1_method_1_code 87 = .ok (.aload_n 0, 1) by decide +kernel) rfl ?_
  refine Ev_iconst (v := 0) hq_1 (show decode prog_1_method_1_code 88 = .ok (.iconst 0, 1) by decide +kernel) (by decide) ?_
  refine Ev_pI (I2 := (cI53 I)) hq_1 (show decode prog_1_method_1_code 89 = .ok (.putfield 54, 3) by decide +kernel) rfl (by decide +kernel) (by decide +kernel) (by decide) (by decide) rfl (by decide) rfl ?_
  refine Ev_aload_n hq_1 (show decode prog_1_method_1_code 92 = .ok (.aload_n 0, 1) by decide +kernel) rfl ?_
  refine Ev_iconst (v := 4) hq_1 (show decode prog_1_method_1_code 93 = .ok (.iconst 4, 1) by decide +kernel) (by decide) ?_
  refine Ev_bipush (v := 40) hq_1 (show decode prog_1_method_1_code 94 = .ok (.bipush 40, 2) by decide +kernel) (by decide) ?_
  refine Ev_n4 (l := 40) (G2 := cG74) (I2 := (cI54 I)) hq_1 (show decode prog_1_method_1_code 96 = .ok (.multianewarray 57 2, 4) by decide +kernel) rfl (by decide) (by decide) (by decide) cG73_n rfl rfl ?_
  refine Ev_pR (G2 := cG75) hq_1 (show decode prog_1_method_1_code 100 = .ok (.putfield 59, 3) by decide +kernel) rfl (by decide +kernel) (by decide +kernel) (by decide) (by decide) rfl rfl ?_
  refine Ev_aload_n hq_1 (show decode prog_1_method_1_code 103 = .ok (.aload_n 0, 1) by decide +kernel) rfl ?_
  refine Ev_iconst (v := 4) hq_1 (show decode prog_1_method_1_code 104 = .ok (.iconst 4, 1) by decide +kernel) (by decide) ?_
  refine Ev_nI (l := 4) (G2 := cG76) (I2 := (cI55 I)) hq_1 (show decode prog_1_method_1_code 105 = .ok (.newarray .int, 2) by decide +kernel) rfl (by decide) (by decide) (by decide) cG75_n rfl rfl ?_
  refine Ev_pR (G2 := cG77) hq_1 (show decode prog_1_method_1_code 107 = .ok (.putfield 62, 3) by decide +kernel) rfl (by decide +kernel) (by decide +kernel) (by decide) (by decide) rfl rfl ?_
  refine Ev_aload_n hq_1 (show decode prog_1_method_1_code 110 = .ok (.aload_n 0, 1) by decide +kernel) rfl ?_
  refine Ev_iconst (v := 4) hq_1 (show decode prog_1_method_1_code 111 = .ok (.iconst 4, 1) by decide +kernel) (by decide) ?_
  refine Ev_nI (l := 4) (G2 := cG78) (I2 := (cI56 I)) hq_1 (show decode prog_1_method_1_code 112 = .ok (.newarray .int, 2) by decide +kernel) rfl (by decide) (by decide) (by decide) cG77_n rfl rfl ?_
  refine Ev_pR (G2 := cG79) hq_1 (show decode prog_1_method_1_code 114 = .ok (.putfield 65, 3) by decide +kernel) rfl (by decide +kernel) (by decide +kernel) (by decide) (by decide) rfl rfl ?_
  exact k
