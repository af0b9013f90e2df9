/-! THE STRING CONSTANTS: their lengths, their signs; a word spelled -/
theorem zTb_c : ∀ j, j < 13 → ∀ i, i < (zTb j).length → narrow .char (.int ((zTb j).getD i 0)) = .int ((zTb j).getD i 0) ∧ (((zTb j).getD i 0 &&& 255).toUInt32 % 65536).toInt32 = (zTb j).getD i 0 ∧ (zTb j).length < 100 := by decide +kernel
theorem zTb_l : ∀ j, j < 13 → (zTb j).length < 100 := by decide +kernel
theorem zXb_at {j : Nat} (h : j < 13) : zXb (j + 2 + 18) = some ((zTb j).length, fun k => (zTb j).getD k 0) := by
  unfold zXb
  rw [if_pos ⟨by omega, by omega⟩, show j + 2 + 18 - 20 = j by omega]
theorem zXa_no {X : Nat × (Nat → Int32)} {j : Nat} (h : 2 ≤ j) : zXa X j = none := by
  unfold zXa
  rw [if_neg (by omega), if_neg (by omega)]
section
variable {X : Nat × (Nat → Int32)} {d : Nat} {G : zG} {I : zI} {j : Nat}
theorem c_coder (hj : j < 13) : Cv X d 6 [.retAddr (j + 2 + 1)] G I (some (.int 0), G, I) := by
  refine Cv.of hq_6 (z_le rfl) rfl ?_
  refine Ev_h hq_6 (show decode prog_11_method_152_code 0 = .ok (.getstatic 38, 3) by decide +kernel) rfl rfl ?_
  refine Ev_if_eq (tgt := 13) hq_6 (show decode prog_11_method_152_code 3 = .ok (.ifCond .eq 10, 3) by decide +kernel) (by decide) (fun h => absurd h (by decide)) (fun _ => ?_)
  refine Ev_aloadx_n hq_6 (show decode prog_11_method_152_code 6 = .ok (.aload_n 0, 1) by decide +kernel) (by omega) rfl ?_
  refine Ev_h hq_6 (show decode prog_11_method_152_code 7 = .ok (.getfield 15, 3) by decide +kernel) rfl (by show (if _ then _ else _) = _; rw [if_pos ⟨rfl, rfl, by omega, by omega⟩]; rfl) ?_
  refine Ev_goto (tgt := 14) hq_6 (show decode prog_11_method_152_code 10 = .ok (.goto 4, 3) by decide +kernel) (by decide) ?_
  exact Ev_iret hq_6 (show decode prog_11_method_152_code 14 = .ok (.ireturn, 1) by decide +kernel) (by decide) rfl
theorem c_lat (hj : j < 13) : Cv X d 8 [.retAddr (j + 2 + 1)] G I (some (.int 1), G, I) := by
  refine Cv.of hq_8 (z_le rfl) rfl ?_
  refine Ev_h hq_8 (show decode prog_11_method_154_code 0 = .ok (.getstatic 38, 3) by decide +kernel) rfl rfl ?_
  refine Ev_if_eq (tgt := 17) hq_8 (show decode prog_11_method_154_code 3 = .ok (.ifCond .eq 14, 3) by decide +kernel) (by decide) (fun h => absurd h (by decide)) (fun _ => ?_)
  refine Ev_aloadx_n hq_8 (show decode prog_11_method_154_code 6 = .ok (.aload_n 0, 1) by decide +kernel) (by omega) rfl ?_
  refine Ev_h hq_8 (show decode prog_11_method_154_code 7 = .ok (.getfield 15, 3) by decide +kernel) rfl (by show (if _ then _ else _) = _; rw [if_pos ⟨rfl, rfl, by omega, by omega⟩]; rfl) ?_
  refine Ev_if_ne (tgt := 17) hq_8 (show decode prog_11_method_154_code 10 = .ok (.ifCond .ne 7, 3) by decide +kernel) (by decide) (fun h => absurd rfl h) (fun _ => ?_)
  refine Ev_iconst (v := 1) hq_8 (show decode prog_11_method_154_code 13 = .ok (.iconst 1, 1) by decide +kernel) (by decide) ?_
  refine Ev_goto (tgt := 18) hq_8 (show decode prog_11_method_154_code 14 = .ok (.goto 4, 3) by decide +kernel) (by decide) ?_
  exact Ev_iret hq_8 (show decode prog_11_method_154_code 18 = .ok (.ireturn, 1) by decide +kernel) (by decide) rfl
theorem c_len (hj : j < 13) : Cv X (d + 1) 5 [.retAddr (j + 2 + 1)] G I (some (.int (zi (zTb j).length)), G, I) := by
  refine Cv.of hq_5 (z_le rfl) rfl ?_
  refine Ev_aloadx_n hq_5 (show decode prog_11_method_54_code 0 = .ok (.aload_n 0, 1) by decide +kernel) (by omega) rfl ?_
  refine Ev_h hq_5 (show decode prog_11_method_54_code 1 = .ok (.getfield 9, 3) by decide +kernel) rfl (by show (if _ then _ else _) = _; rw [if_pos ⟨rfl, rfl, by omega, by omega⟩]; rfl) ?_
  refine Ev_alenb hq_5 (show decode prog_11_method_54_code 4 = .ok (.arraylength, 1) by decide +kernel) (zXa_no (by omega)) (zXb_at hj) ?_
  refine Ev_aloadx_n hq_5 (show decode prog_11_method_54_code 5 = .ok (.aload_n 0, 1) by decide +kernel) (by omega) rfl ?_
  refine Ev_virtx (as := []) hq_5 (show decode prog_11_method_54_code 6 = .ok (.invokevirtual 335, 3) by decide +kernel) rfl hq_6 rfl (z_le rfl) ⟨by omega, by omega, rfl⟩ (c_coder hj) ?_
  refine Ev_ishr hq_5 (show decode prog_11_method_54_code 9 = .ok (.ishr, 1) by decide +kernel) ?_
  rw [show ((0 : Int32) &&& 31) = 0 by decide, Int32.shiftRight_zero]
  exact Ev_iret hq_5 (show decode prog_11_method_54_code 10 = .ok (.ireturn, 1) by decide +kernel) rfl rfl
theorem c_ci (a b : Int32) (h0 : ¬ a < 0) (h1 : a < b) : Cv X (d + 1) 10 [.int a, .int b] G I (none, G, I) := by
  have c11 : Cv X d 11 [.int a, .int b, zX 40] G I (some (.int a), G, I) := by
    refine Cv.of hq_11 (z_le rfl) rfl ?_
    refine Ev_iload_n hq_11 (show decode prog_16_method_11_code 0 = .ok (.iload_n 0, 1) by decide +kernel) rfl ?_
    refine Ev_if_lt (tgt := 9) hq_11 (show decode prog_16_method_11_code 1 = .ok (.ifCond .lt 8, 3) by decide +kernel) (by decide) (fun h => absurd h h0) (fun _ => ?_)
    refine Ev_iload_n hq_11 (show decode prog_16_method_11_code 4 = .ok (.iload_n 0, 1) by decide +kernel) rfl ?_
    refine Ev_iload_n hq_11 (show decode prog_16_method_11_code 5 = .ok (.iload_n 1, 1) by decide +kernel) rfl ?_
    refine Ev_icmp_lt (tgt := 16) hq_11 (show decode prog_16_method_11_code 6 = .ok (.if_icmp .lt 10, 3) by decide +kernel) (by decide) (fun _ => ?_) (fun h => absurd h1 h)
    refine Ev_iload_n hq_11 (show decode prog_16_method_11_code 16 = .ok (.iload_n 0, 1) by decide +kernel) rfl ?_
    exact Ev_iret hq_11 (show decode prog_16_method_11_code 17 = .ok (.ireturn, 1) by decide +kernel) rfl rfl
  refine Cv.of hq_10 (z_le rfl) rfl ?_
  refine Ev_iload_n hq_10 (show decode prog_11_method_155_code 0 = .ok (.iload_n 0, 1) by decide +kernel) rfl ?_
  refine Ev_iload_n hq_10 (show decode prog_11_method_155_code 1 = .ok (.iload_n 1, 1) by decide +kernel) rfl ?_
  refine Ev_h hq_10 (show decode prog_11_method_155_code 2 = .ok (.getstatic 1053, 3) by decide +kernel) rfl rfl ?_
  refine Ev_stat (as := [.int a, .int b, zX 40]) hq_10 (show decode prog_11_method_155_code 5 = .ok (.invokestatic 1059, 3) by decide +kernel) rfl (Or.inl rfl) hq_11 rfl (z_le rfl) c11 ?_
  refine Ev_pop hq_10 (show decode prog_11_method_155_code 8 = .ok (.pop, 1) by decide +kernel) rfl ?_
  exact Ev_vret hq_10 (show decode prog_11_method_155_code 9 = .ok (.return_, 1) by decide +kernel) rfl
theorem c_chr (hj : j < 13) {i : Nat} (hi : i < (zTb j).length) : Cv X (d + 3) 7 [.retAddr (j + 2 + 1), .int (zi i)] G I (some (.int ((zTb j).getD i 0)), G, I) := by
  obtain ⟨n1, n2, n3⟩ := zTb_c j hj i hi
  have c9 : Cv X (d + 2) 9 [.retAddr (j + 2 + 18 + 1), .int (zi i)] G I (some (.int ((zTb j).getD i 0)), G, I) := by
    refine Cv.of hq_9 (z_le rfl) rfl ?_
    refine Ev_iload_n hq_9 (show decode prog_12_method_2_code 0 = .ok (.iload_n 1, 1) by decide +kernel) rfl ?_
    refine Ev_aloadx_n hq_9 (show decode prog_12_method_2_code 1 = .ok (.aload_n 0, 1) by decide +kernel) (by omega) rfl ?_
    refine Ev_alenb hq_9 (show decode prog_12_method_2_code 2 = .ok (.arraylength, 1) by decide +kernel) (zXa_no (by omega)) (zXb_at hj) ?_
    refine Ev_stat (as := [.int (zi i), .int (zi (zTb j).length)]) hq_9 (show decode prog_12_method_2_code 3 = .ok (.invokestatic 9, 3) by decide +kernel) rfl (Or.inl rfl) hq_10 rfl (z_le rfl) (c_ci (zi i) (zi (zTb j).length) (fun h => absurd ((zi_lt (b := 0) (by omega) (by omega)).1 h) (by omega)) ((zi_lt (by omega) (by omega)).2 hi)) ?_
    refine Ev_aloadx_n hq_9 (show decode prog_12_method_2_code 6 = .ok (.aload_n 0, 1) by decide +kernel) (by omega) rfl ?_
    refine Ev_iload_n hq_9 (show decode prog_12_method_2_code 7 = .ok (.iload_n 1, 1) by decide +kernel) rfl ?_
    refine Ev_baldx hq_9 (show decode prog_12_method_2_code 8 = .ok (.baload, 1) by decide +kernel) (zXb_at hj) (zi_inr hi (by omega)) ?_
    refine Ev_sipush (v := 255) hq_9 (show decode prog_12_method_2_code 9 = .ok (.sipush 255, 3) by decide +kernel) (by decide) ?_
    refine Ev_iand hq_9 (show decode prog_12_method_2_code 12 = .ok (.iand, 1) by decide +kernel) ?_
    refine Ev_i2c hq_9 (show decode prog_12_method_2_code 13 = .ok (.i2c, 1) by decide +kernel) ?_
    rw [zi_nat (show i < _ by omega)]
    show Ev X (d + 2) 9 14 _ [.int ((((zTb j).getD i 0 &&& 255).toUInt32 % 65536).toInt32)] G I _
    rw [n2]
    exact Ev_iret hq_9 (show decode prog_12_method_2_code 14 = .ok (.ireturn, 1) by decide +kernel) n1 rfl
  refine Cv.of hq_7 (z_le rfl) rfl ?_
  refine Ev_aloadx_n hq_7 (show decode prog_11_method_56_code 0 = .ok (.aload_n 0, 1) by decide +kernel) (by omega) rfl ?_
  refine Ev_virtx (as := []) hq_7 (show decode prog_11_method_56_code 1 = .ok (.invokevirtual 492, 3) by decide +kernel) rfl hq_8 rfl (z_le rfl) ⟨by omega, by omega, rfl⟩ (c_lat hj) ?_
  refine Ev_if_eq (tgt := 16) hq_7 (show decode prog_11_method_56_code 4 = .ok (.ifCond .eq 12, 3) by decide +kernel) (by decide) (fun h => absurd h (by decide)) (fun _ => ?_)
  refine Ev_aloadx_n hq_7 (show decode prog_11_method_56_code 7 = .ok (.aload_n 0, 1) by decide +kernel) (by omega) rfl ?_
  refine Ev_h hq_7 (show decode prog_11_method_56_code 8 = .ok (.getfield 9, 3) by decide +kernel) rfl (by show (if _ then _ else _) = _; rw [if_pos ⟨rfl, rfl, by omega, by omega⟩]; rfl) ?_
  refine Ev_iload_n hq_7 (show decode prog_11_method_56_code 11 = .ok (.iload_n 1, 1) by decide +kernel) rfl ?_
  refine Ev_stat (as := [.retAddr (j + 2 + 18 + 1), .int (zi i)]) hq_7 (show decode prog_11_method_56_code 12 = .ok (.invokestatic 495, 3) by decide +kernel) rfl (Or.inl rfl) hq_9 rfl (z_le rfl) c9 ?_
  exact Ev_iret hq_7 (show decode prog_11_method_56_code 15 = .ok (.ireturn, 1) by decide +kernel) n1 rfl
end
/-- whether the bytes from p on are a word -/
def spw (I : zI) (p L j : Nat) : Prop := L = (zTb j).length ∧ ∀ c, c < L → I 44 (p + c) = (zTb j).getD c 0
theorem spell_loop {X : Nat × (Nat → Int32)} {d : Nat} {G : zG} (hS : S5 G) (hz : zr G 39 0 = some 44) {I : zI} {p j : Nat} (hj : j < 13) (hp : I 39 2 = zi p) (hn : p + (zTb j).length ≤ 160) :
    ∀ (m c : Nat), c + m = (zTb j).length → (∀ i, i < c → I 44 (p + i) = (zTb j).getD i 0) → ∃ r : Int32, (r = 1 ∧ (∀ i, i < (zTb j).length → I 44 (p + i) = (zTb j).getD i 0) ∨ r = 0 ∧ ¬ ∀ i, i < (zTb j).length → I 44 (p + i) = (zTb j).getD i 0) ∧ Ev X (d + 4) 18 34 [.ref 39, .retAddr (j + 2 + 1), .int (zi (zTb j).length), .int (zi c)] [] G I (some (.int r), G, I) := by
  have hl := zTb_l j hj
  intro m
  induction m with
  | zero =>
    intro c hc h
    obtain rfl : c = (zTb j).length := by omega
    refine ⟨1, Or.inl ⟨rfl, h⟩, ?_⟩
    refine Ev_iload_n hq_18 (show decode prog_5_method_21_code 34 = .ok (.iload_n 3, 1) by decide +kernel) rfl ?_
    refine Ev_iload_n hq_18 (show decode prog_5_method_21_code 35 = .ok (.iload_n 2, 1) by decide +kernel) rfl ?_
    refine Ev_icmp_ge (tgt := 66) hq_18 (show decode prog_5_method_21_code 36 = .ok (.if_icmp .ge 30, 3) by decide +kernel) (by decide) (fun _ => ?_) (fun h => absurd (Int32.le_refl _) h)
    refine Ev_iconst (v := 1) hq_18 (show decode prog_5_method_21_code 66 = .ok (.iconst 1, 1) by decide +kernel) (by decide) ?_
    exact Ev_iret hq_18 (show decode prog_5_method_21_code 67 = .ok (.ireturn, 1) by decide +kernel) (by decide) rfl
  | succ m ih =>
    intro c hc h
    have nx : ¬ zi (zTb j).length ≤ zi c := fun h => absurd ((zi_le (by omega) (by omega)).1 h) (by omega)
    have ec := c_chr (X := X) (d := d) (G := G) (I := I) hj (i := c) (by omega)
    have step : ∀ r : Int32, (¬ I 44 (p + c) = (zTb j).getD c 0 → r = 0) → (I 44 (p + c) = (zTb j).getD c 0 → Ev X (d + 4) 18 34 [.ref 39, .retAddr (j + 2 + 1), .int (zi (zTb j).length), .int (zi (c + 1))] [] G I (some (.int r), G, I)) → Ev X (d + 4) 18 34 [.ref 39, .retAddr (j + 2 + 1), .int (zi (zTb j).length), .int (zi c)] [] G I (some (.int r), G, I) := by
      intro r k0 k1
      refine Ev_iload_n hq_18 (show decode prog_5_method_21_code 34 = .ok (.iload_n 3, 1) by decide +kernel) rfl ?_
      refine Ev_iload_n hq_18 (show decode prog_5_method_21_code 35 = .ok (.iload_n 2, 1) by decide +kernel) rfl ?_
      refine Ev_icmp_ge (tgt := 66) hq_18 (show decode prog_5_method_21_code 36 = .ok (.if_icmp .ge 30, 3) by decide +kernel) (by decide) (fun h => absurd h nx) (fun _ => ?_)
      refine Ev_aload_n hq_18 (show decode prog_5_method_21_code 39 = .ok (.aload_n 0, 1) by decide +kernel) rfl ?_
      refine Ev_getR hq_18 (show decode prog_5_method_21_code 40 = .ok (.getfield 9, 3) by decide +kernel) rfl (S5n hS (by decide)) (S5k hS rfl) (by decide) rfl hz ?_
      refine Ev_aload_n hq_18 (show decode prog_5_method_21_code 43 = .ok (.aload_n 0, 1) by decide +kernel) rfl ?_
      refine Ev_getI hq_18 (show decode prog_5_method_21_code 44 = .ok (.getfield 19, 3) by decide +kernel) rfl (S5n hS (by decide)) (S5k hS rfl) (by decide) rfl ?_
      refine Ev_iload_n hq_18 (show decode prog_5_method_21_code 47 = .ok (.iload_n 3, 1) by decide +kernel) rfl ?_
      refine Ev_iadd hq_18 (show decode prog_5_method_21_code 48 = .ok (.iadd, 1) by decide +kernel) ?_
      rw [hp, zi_add]
      refine Ev_iald hq_18 (show decode prog_5_method_21_code 49 = .ok (.iaload, 1) by decide +kernel) (S5n hS (by decide)) (S5k hS rfl) (S5i hS rfl (zi_inr (by omega) (by omega))) ?_
      rw [zi_nat (show p + c < _ by omega)]
      refine Ev_aloadx_n hq_18 (show decode prog_5_method_21_code 50 = .ok (.aload_n 1, 1) by decide +kernel) (by omega) rfl ?_
      refine Ev_iload_n hq_18 (show decode prog_5_method_21_code 51 = .ok (.iload_n 3, 1) by decide +kernel) rfl ?_
      refine Ev_virtx (as := [.int (zi c)]) hq_18 (show decode prog_5_method_21_code 52 = .ok (.invokevirtual 161, 3) by decide +kernel) rfl hq_7 rfl (z_le rfl) ⟨by omega, by omega, rfl⟩ ec ?_
      refine Ev_icmp_eq (tgt := 60) hq_18 (show decode prog_5_method_21_code 55 = .ok (.if_icmp .eq 5, 3) by decide +kernel) (by decide) (fun e => ?_) (fun e => ?_)
      · refine Ev_iinc (v := zi (c + 1)) (lo2 := [.ref 39, .retAddr (j + 2 + 1), .int (zi (zTb j).length), .int (zi (c + 1))]) hq_18 (show decode prog_5_method_21_code 60 = .ok (.iinc 3 1, 3) by decide +kernel) rfl (zi1 c) rfl ?_
        exact Ev_goto (tgt := 34) hq_18 (show decode prog_5_method_21_code 63 = .ok (.goto (-29), 3) by decide +kernel) (by decide) (k1 e)
      · rw [k0 e]
        refine Ev_iconst (v := 0) hq_18 (show decode prog_5_method_21_code 58 = .ok (.iconst 0, 1) by decide +kernel) (by decide) ?_
        exact Ev_iret hq_18 (show decode prog_5_method_21_code 59 = .ok (.ireturn, 1) by decide +kernel) (by decide) rfl
    by_cases e : I 44 (p + c) = (zTb j).getD c 0
    · obtain ⟨r, hr, k⟩ := ih (c + 1) (by omega) (fun i hi => by
        by_cases q : i = c
        · rw [q]; exact e
        · exact h i (by omega))
      exact ⟨r, hr, step r (fun n => absurd e n) (fun _ => k)⟩
    · exact ⟨0, Or.inr ⟨rfl, fun h => e (h c (by omega))⟩, step 0 (fun _ => rfl) (fun n => absurd n e)⟩
theorem c_spells {X : Nat × (Nat → Int32)} {d : Nat} {G : zG} (hS : S5 G) (hz : zr G 39 0 = some 44) {I : zI} {p L j : Nat} (hj : j < 13) (hp : I 39 2 = zi p) (hb : I 39 3 = zi (p + L)) (hn : p + L ≤ 160) :
    ∃ r : Int32, (r = 1 ∧ spw I p L j ∨ r = 0 ∧ ¬ spw I p L j) ∧ Cv X (d + 4) 18 [.ref 39, .retAddr (j + 2 + 1)] G I (some (.int r), G, I) := by
  have hl := zTb_l j hj
  have e0 : zi (p + L) - zi p = zi L := (zi_sub (by omega)).trans (congrArg zi (by omega))
  have step : ∀ r : Int32, (¬ L = (zTb j).length → r = 0) → (L = (zTb j).length → Ev X (d + 4) 18 34 [.ref 39, .retAddr (j + 2 + 1), .int (zi (zTb j).length), .int (zi 0)] [] G I (some (.int r), G, I)) → Cv X (d + 4) 18 [.ref 39, .retAddr (j + 2 + 1)] G I (some (.int r), G, I) := by
    intro r k0 k1
    refine Cv.of hq_18 (z_le rfl) rfl ?_
    refine Ev_aloadx_n hq_18 (show decode prog_5_method_21_code 0 = .ok (.aload_n 1, 1) by decide +kernel) (by omega) rfl ?_
    refine Ev_virtx (as := []) hq_18 (show decode prog_5_method_21_code 1 = .ok (.invokevirtual 156, 3) by decide +kernel) rfl hq_5 rfl (z_le rfl) ⟨by omega, by omega, rfl⟩ (c_len (d := d + 2) hj) ?_
    refine Ev_istore_n (lo2 := [.ref 39, .retAddr (j + 2 + 1), .int (zi (zTb j).length), zU]) hq_18 (show decode prog_5_method_21_code 4 = .ok (.istore_n 2, 1) by decide +kernel) (z_le rfl) rfl ?_
    refine Ev_aload_n hq_18 (show decode prog_5_method_21_code 5 = .ok (.aload_n 0, 1) by decide +kernel) rfl ?_
    refine Ev_getI hq_18 (show decode prog_5_method_21_code 6 = .ok (.getfield 22, 3) by decide +kernel) rfl (S5n hS (by decide)) (S5k hS rfl) (by decide) rfl ?_
    refine Ev_aload_n hq_18 (show decode prog_5_method_21_code 9 = .ok (.aload_n 0, 1) by decide +kernel) rfl ?_
    refine Ev_getI hq_18 (show decode prog_5_method_21_code 10 = .ok (.getfield 19, 3) by decide +kernel) rfl (S5n hS (by decide)) (S5k hS rfl) (by decide) rfl ?_
    refine Ev_isub hq_18 (show decode prog_5_method_21_code 13 = .ok (.isub, 1) by decide +kernel) ?_
    rw [hb, hp, e0]
    refine Ev_iload_n hq_18 (show decode prog_5_method_21_code 14 = .ok (.iload_n 2, 1) by decide +kernel) rfl ?_
    refine Ev_icmp_ne (tgt := 30) hq_18 (show decode prog_5_method_21_code 15 = .ok (.if_icmp .ne 15, 3) by decide +kernel) (by decide) (fun e => ?_) (fun e => ?_)
    · rw [k0 (fun q => e (by rw [q]))]
      refine Ev_iconst (v := 0) hq_18 (show decode prog_5_method_21_code 30 = .ok (.iconst 0, 1) by decide +kernel) (by decide) ?_
      exact Ev_iret hq_18 (show decode prog_5_method_21_code 31 = .ok (.ireturn, 1) by decide +kernel) (by decide) rfl
    · have eL : L = (zTb j).length := (zi_eq (by omega) (by omega)).1 (Classical.not_not.1 e)
      refine Ev_aload_n hq_18 (show decode prog_5_method_21_code 18 = .ok (.aload_n 0, 1) by decide +kernel) rfl ?_
      refine Ev_getI hq_18 (show decode prog_5_method_21_code 19 = .ok (.getfield 22, 3) by decide +kernel) rfl (S5n hS (by decide)) (S5k hS rfl) (by decide) rfl ?_
      refine Ev_aload_n hq_18 (show decode prog_5_method_21_code 22 = .ok (.aload_n 0, 1) by decide +kernel) rfl ?_
      refine Ev_getR hq_18 (show decode prog_5_method_21_code 23 = .ok (.getfield 9, 3) by decide +kernel) rfl (S5n hS (by decide)) (S5k hS rfl) (by decide) rfl hz ?_
      refine Ev_alen hq_18 (show decode prog_5_method_21_code 26 = .ok (.arraylength, 1) by decide +kernel) (S5n hS (by decide)) (by rw [S5k hS (a := 44) (k := 6) rfl]; decide) (by rw [S5k hS (a := 44) (k := 6) rfl]; decide) ?_
      rw [S5l hS (a := 44) (k := 160) rfl, hb]
      refine Ev_icmp_le (tgt := 32) hq_18 (show decode prog_5_method_21_code 27 = .ok (.if_icmp .le 5, 3) by decide +kernel) (by decide) (fun _ => ?_) (fun h => absurd ((zi_le (b := 160) (by omega) (by omega)).2 hn) h)
      refine Ev_iconst (v := 0) hq_18 (show decode prog_5_method_21_code 32 = .ok (.iconst 0, 1) by decide +kernel) (by decide) ?_
      exact Ev_istore_n (lo2 := [.ref 39, .retAddr (j + 2 + 1), .int (zi (zTb j).length), .int 0]) hq_18 (show decode prog_5_method_21_code 33 = .ok (.istore_n 3, 1) by decide +kernel) (z_le rfl) rfl (k1 eL)
  by_cases eL : L = (zTb j).length
  · obtain ⟨r, hr, k⟩ := spell_loop (X := X) (d := d) hS hz hj hp (by omega) (zTb j).length 0 (by omega) (fun i hi => absurd hi (by omega))
    refine ⟨r, ?_, step r (fun n => absurd eL n) (fun _ => k)⟩
    rcases hr with ⟨e, h⟩ | ⟨e, h⟩
    · exact Or.inl ⟨e, eL, fun c hc => h c (by omega)⟩
    · exact Or.inr ⟨e, fun q => h (fun i hi => q.2 i (by omega))⟩
  · exact ⟨0, Or.inr ⟨rfl, fun q => eL q.1⟩, step 0 (fun _ => rfl) (fun n => absurd n eL)⟩
