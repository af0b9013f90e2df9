/-! THE CLASS'S READ -/
def FrW (I I1 : zI) : Prop := ∀ c, c ≠ 39 → c ≠ 41 → c ≠ 42 → I1 c = I c
set_option maxRecDepth 20000 in
theorem c_read {X : Nat × (Nat → Int32)} {G0 G : zG} (hput : (zn G0, zs G0, zk G0, zl G0, z_upR (zr G0) 39 0 (some 44)) = G) (h5 : S5 G) {m : Nat} (hm : m < 6) {b : Nat → Int32} {n : Nat} (hn : n ≤ 160) {I : zI} (hb : ∀ k, k < n → I 44 k = b k) :
    ∃ (I1 : zI) (v : Int32) (M : Nat), EndAt b n M ∧ Cv X 57 12 [.ref 39, .ref 44, .int (zi n)] G0 I (some (.int v), G, I1) ∧ FrW I I1 ∧
      ((∃ e : Nat, e ≤ n ∧ v = zi e ∧ txr (TK b n) (NM b n) M 3 0 0 [] = none ∧ ∀ {G : zG} (_ : SG G) (J : zI), ByZ J b n → J 57 18 = zi 0 → Hz0 m J [] → ∃ J1 : zI, Ev X 5 129 26 [.ref 57, .int 1, .int (zi 0)] [] G J (some (.int (-100 - zi e)), G, J1) ∧ FT m J J1 ∧ J1 57 5 = 0 ∧ J1 57 8 = zi m) ∨
       (v = -1 ∧ ∃ ss2 : List (List Nat), txr (TK b n) (NM b n) M 3 0 0 [] = some ss2 ∧ I1 39 8 = zi ss2.flatten.length ∧ ss2.flatten.length ≤ 160 ∧ ∀ {G : zG} (_ : SG G) (J : zI), ByZ J b n → J 57 18 = zi 0 → Hz0 m J [] → ∃ J1 : zI, Ev X 5 129 26 [.ref 57, .int 1, .int (zi 0)] [] G J (some (.int (zi m)), G, J1) ∧ FT m J J1 ∧ J1 57 5 = 0 ∧ J1 57 8 = zi (m + 1) ∧ TxR m I1 J1 ss2)) := by
  obtain ⟨M, hM⟩ := end_at b n
  obtain ⟨Ia, hIa⟩ : ∃ Ia : zI, Ia = z_up (z_up (z_up (z_up I 39 1 (zi n)) 39 3 0) 39 6 0) 39 8 0 := ⟨_, rfl⟩
  have a44 : ∀ c, c ≠ 39 → Ia c = I c := fun c hc => by rw [hIa, up_cell hc, up_cell hc, up_cell hc, up_cell hc]
  have hB : By Ia b n := ⟨by rw [hIa, up_place (by decide), up_place (by decide), up_place (by decide), up_same], fun k hk => by rw [a44 44 (by decide)]; exact hb k hk⟩
  obtain ⟨I2, k2, f2, a2, o2, s2⟩ := c_advT (X := X) (d := 50) h5 (b := b) (i := 0) hn hB (by rw [hIa, up_place (by decide), up_place (by decide), up_same]; rfl)
  have R2 : Rs b n M I2 0 0 ([] : List (List Nat)).flatten := ⟨a2, Nat.zero_le _, by omega, by rw [o2, hIa, up_place (by decide), up_same]; rfl, s2 [] ⟨by rw [hIa, up_same]; rfl, fun k hk => absurd hk (Nat.not_lt_zero _)⟩, Nat.le_refl _⟩
  obtain ⟨I1, v, k1, f1, r⟩ := text_loop (X := X) h5 hm hn hM 3 0 [] 0 I2 (zi n) rfl rfl (fun t ht => by cases ht) R2 (fun k hk => absurd hk (Nat.not_lt_zero _))
  have n0 : 39 < zn G0 := by have := S5n h5 (a := 39) (by decide); rw [← hput] at this; exact this
  have kk0 : zk G0 39 = 3 := by have := S5k h5 (a := 39) (k := 3) rfl; rw [← hput] at this; exact this
  refine ⟨I1, v, M, hM, Cv.of hq_12 (z_le rfl) rfl ?_, fun c x y z => (f1.1 c x y z).trans ((f2.1 c x y).trans (a44 c x)), ?_⟩
  rotate_left
  · rcases r with ⟨e, le, ev, tx, rm⟩ | ⟨ev, ss2, tx, c8, cl, rm⟩
    · exact Or.inl ⟨e, le, ev, tx, fun hS J b1 b2 b3 => rm hS J b1 b2 b3 (fun k hk => absurd hk (Nat.not_lt_zero _))⟩
    · exact Or.inr ⟨ev, ss2, tx, c8, cl, fun hS J b1 b2 b3 => rm hS J b1 b2 b3 (fun k hk => absurd hk (Nat.not_lt_zero _))⟩
  refine Ev_aload_n hq_12 (show decode prog_5_method_2_code 0 = .ok (.aload_n 1, 1) by decide +kernel) rfl ?_
  refine Ev_ifnonnull (tgt := 6) hq_12 (show decode prog_5_method_2_code 1 = .ok (.ifnonnull 5, 3) by decide +kernel) (by decide) ?_
  refine Ev_aload_n hq_12 (show decode prog_5_method_2_code 6 = .ok (.aload_n 0, 1) by decide +kernel) rfl ?_
  refine Ev_aload_n hq_12 (show decode prog_5_method_2_code 7 = .ok (.aload_n 1, 1) by decide +kernel) rfl ?_
  refine Ev_putR hq_12 (show decode prog_5_method_2_code 8 = .ok (.putfield 9, 3) by decide +kernel) rfl n0 kk0 (by decide) (by decide) rfl ?_
  rw [hput]
  refine Ev_aload_n hq_12 (show decode prog_5_method_2_code 11 = .ok (.aload_n 0, 1) by decide +kernel) rfl ?_
  refine Ev_iload_n hq_12 (show decode prog_5_method_2_code 12 = .ok (.iload_n 2, 1) by decide +kernel) rfl ?_
  refine Ev_iconst (v := 0) hq_12 (show decode prog_5_method_2_code 13 = .ok (.iconst 0, 1) by decide +kernel) (by decide) ?_
  refine Ev_aload_n hq_12 (show decode prog_5_method_2_code 14 = .ok (.aload_n 1, 1) by decide +kernel) rfl ?_
  refine Ev_alen hq_12 (show decode prog_5_method_2_code 15 = .ok (.arraylength, 1) by decide +kernel) (S5n h5 (by decide)) (by rw [S5k h5 (a := 44) (k := 6) rfl]; decide) (by rw [S5k h5 (a := 44) (k := 6) rfl]; decide) ?_
  rw [S5l h5 (a := 44) (k := 160) rfl]
  have eb : f_T_bounded (zi n) 0 (Int32.ofNat 160) = zi n := by
    unfold f_T_bounded
    rw [if_pos (show (0 : Int32) ≤ zi n from (zi_le (a := 0) (by omega) (by omega)).2 (by omega)), if_pos (show zi n ≤ Int32.ofNat 160 from (zi_le (b := 160) (by omega) (by omega)).2 hn)]
  refine Ev_stat (as := [.int (zi n), .int 0, .int (Int32.ofNat 160)]) hq_12 (show decode prog_5_method_2_code 16 = .ok (.invokestatic 45, 3) by decide +kernel) rfl (Or.inr rfl) hq_13 rfl (z_le rfl) (c_T_bounded (zi n) 0 (Int32.ofNat 160)) ?_
  rw [eb]
  refine Ev_putI hq_12 (show decode prog_5_method_2_code 19 = .ok (.putfield 15, 3) by decide +kernel) rfl (S5n h5 (by decide)) (S5k h5 rfl) (by decide) (by decide) rfl (fun hz => by cases hz) ?_
  refine Ev_aload_n hq_12 (show decode prog_5_method_2_code 22 = .ok (.aload_n 0, 1) by decide +kernel) rfl ?_
  refine Ev_iconst (v := 0) hq_12 (show decode prog_5_method_2_code 23 = .ok (.iconst 0, 1) by decide +kernel) (by decide) ?_
  refine Ev_putI hq_12 (show decode prog_5_method_2_code 24 = .ok (.putfield 22, 3) by decide +kernel) rfl (S5n h5 (by decide)) (S5k h5 rfl) (by decide) (by decide) rfl (fun hz => by cases hz) ?_
  refine Ev_aload_n hq_12 (show decode prog_5_method_2_code 27 = .ok (.aload_n 0, 1) by decide +kernel) rfl ?_
  refine Ev_iconst (v := 0) hq_12 (show decode prog_5_method_2_code 28 = .ok (.iconst 0, 1) by decide +kernel) (by decide) ?_
  refine Ev_putI hq_12 (show decode prog_5_method_2_code 29 = .ok (.putfield 31, 3) by decide +kernel) rfl (S5n h5 (by decide)) (S5k h5 rfl) (by decide) (by decide) rfl (fun hz => by cases hz) ?_
  refine Ev_aload_n hq_12 (show decode prog_5_method_2_code 32 = .ok (.aload_n 0, 1) by decide +kernel) rfl ?_
  refine Ev_iconst (v := 0) hq_12 (show decode prog_5_method_2_code 33 = .ok (.iconst 0, 1) by decide +kernel) (by decide) ?_
  refine Ev_putI hq_12 (show decode prog_5_method_2_code 34 = .ok (.putfield 37, 3) by decide +kernel) rfl (S5n h5 (by decide)) (S5k h5 rfl) (by decide) (by decide) rfl (fun hz => by cases hz) ?_
  rw [← hIa]
  refine Ev_aload_n hq_12 (show decode prog_5_method_2_code 37 = .ok (.aload_n 0, 1) by decide +kernel) rfl ?_
  refine Ev_virt (as := []) hq_12 (show decode prog_5_method_2_code 38 = .ok (.invokevirtual 49, 3) by decide +kernel) rfl hq_14 rfl (z_le rfl) ⟨(S5n h5 (by decide)), (S5k h5 rfl), by decide⟩ k2 ?_
  refine Ev_iconst (v := 0) hq_12 (show decode prog_5_method_2_code 41 = .ok (.iconst 0, 1) by decide +kernel) (by decide) ?_
  exact Ev_istore_n (lo2 := [.ref 39, .ref 44, .int (zi n), .int 0]) hq_12 (show decode prog_5_method_2_code 42 = .ok (.istore_n 3, 1) by decide +kernel) (z_le rfl) rfl (k1.deep (Nat.le_succ _))
