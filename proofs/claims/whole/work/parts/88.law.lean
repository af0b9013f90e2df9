/-! A COPY; A NEW LAW -/
theorem va_up_eq {α : Type} (f : Nat → α) (a : Nat) (v : α) : va_up f a v a = v := by unfold va_up; simp
set_option maxRecDepth 20000 in
theorem c_copyOf {X : Nat × (Nat → Int32)} {d : Nat} {G : zG} {I : zI} (h5 : S5 G) {s : Nat} (hs : s ≤ 160) : ∃ f : Nat → Int32, (∀ k, k < s → f k = I 41 k) ∧ Cv X (d + 1) 34 [.ref 41, .int (zi s)] G I (some (.ref (zn G)), z_new G 6 s (fun _ => none), va_up I (zn G) f) := by
  have n41 : 41 < zn G := S5n h5 (by decide)
  have k41 : zk G 41 = 6 := S5k h5 rfl
  have l41 : zl G 41 = 160 := S5l h5 rfl
  have a0 : ∀ (lo : List Value) (st : List Value), lo[0]? = some (.ref 41) → True := fun _ _ _ => trivial
  by_cases e : s = 160
  · subst e
    refine ⟨I 41, fun _ _ => rfl, Cv.of hq_34 (z_le rfl) rfl ?_⟩
    refine Ev_iload_n hq_34 (show decode prog_15_method_123_code 0 = .ok (.iload_n 1, 1) by decide +kernel) rfl ?_
    refine Ev_aload_n hq_34 (show decode prog_15_method_123_code 1 = .ok (.aload_n 0, 1) by decide +kernel) rfl ?_
    refine Ev_alen hq_34 (show decode prog_15_method_123_code 2 = .ok (.arraylength, 1) by decide +kernel) n41 (by rw [k41]; decide) (by rw [k41]; decide) ?_
    rw [l41]
    refine Ev_icmp_ne (tgt := 14) hq_34 (show decode prog_15_method_123_code 3 = .ok (.if_icmp .ne 11, 3) by decide +kernel) (by decide) (fun h => absurd rfl h) (fun _ => ?_)
    refine Ev_aload_n hq_34 (show decode prog_15_method_123_code 6 = .ok (.aload_n 0, 1) by decide +kernel) rfl ?_
    refine Ev_clone hq_34 (show decode prog_15_method_123_code 7 = .ok (.invokevirtual 316, 3) by decide +kernel) rfl ⟨z_le rfl, n41, k41⟩ ?_
    rw [l41]
    refine Ev_cast hq_34 (show decode prog_15_method_123_code 10 = .ok (.checkcast 317, 3) by decide +kernel) (Nat.lt_succ_self _) (va_up_eq _ _ _) rfl ?_
    exact Ev_aretA hq_34 (show decode prog_15_method_123_code 13 = .ok (.areturn, 1) by decide +kernel) rfl
  · have es : (zi s).toNatClampNeg = s := zi_nat (by omega)
    have k1 : zk (z_new G 6 s (fun _ => none)) 41 = 6 := by show va_up (zk G) (zn G) 6 41 = 6; rw [va_up_ne _ _ (by omega)]; exact k41
    have k2 : zk (z_new G 6 s (fun _ => none)) (zn G) = 6 := va_up_eq _ _ _
    have l1 : zl (z_new G 6 s (fun _ => none)) 41 = 160 := by show va_up (zl G) (zn G) s 41 = 160; rw [va_up_ne _ _ (by omega)]; exact l41
    have l2 : zl (z_new G 6 s (fun _ => none)) (zn G) = s := va_up_eq _ _ _
    refine ⟨va_cpy (I 41) (fun _ => 0) 0 0 s, fun k hk => ?_, Cv.of hq_34 (z_le rfl) rfl ?_⟩
    · unfold va_cpy
      simp [hk]
    refine Ev_iload_n hq_34 (show decode prog_15_method_123_code 0 = .ok (.iload_n 1, 1) by decide +kernel) rfl ?_
    refine Ev_aload_n hq_34 (show decode prog_15_method_123_code 1 = .ok (.aload_n 0, 1) by decide +kernel) rfl ?_
    refine Ev_alen hq_34 (show decode prog_15_method_123_code 2 = .ok (.arraylength, 1) by decide +kernel) n41 (by rw [k41]; decide) (by rw [k41]; decide) ?_
    rw [l41]
    refine Ev_icmp_ne (tgt := 14) hq_34 (show decode prog_15_method_123_code 3 = .ok (.if_icmp .ne 11, 3) by decide +kernel) (by decide) (fun _ => ?_) (fun h => absurd (fun q => e ((zi_eq (b := 160) (by omega) (by omega)).1 q)) h)
    refine Ev_iload_n hq_34 (show decode prog_15_method_123_code 14 = .ok (.iload_n 1, 1) by decide +kernel) rfl ?_
    refine Ev_newI hq_34 (show decode prog_15_method_123_code 15 = .ok (.newarray .int, 2) by decide +kernel) rfl ((zi_le (a := 0) (by omega) (by omega)).2 (by omega)) (by rw [es]; omega) ?_
    rw [es]
    refine Ev_astore_n (lo2 := [.ref 41, .int (zi s), .ref (zn G)]) hq_34 (show decode prog_15_method_123_code 17 = .ok (.astore_n 2, 1) by decide +kernel) (z_le rfl) rfl ?_
    refine Ev_aload_n hq_34 (show decode prog_15_method_123_code 18 = .ok (.aload_n 0, 1) by decide +kernel) rfl ?_
    refine Ev_iconst (v := 0) hq_34 (show decode prog_15_method_123_code 19 = .ok (.iconst 0, 1) by decide +kernel) (by decide) ?_
    refine Ev_aload_n hq_34 (show decode prog_15_method_123_code 20 = .ok (.aload_n 2, 1) by decide +kernel) rfl ?_
    refine Ev_iconst (v := 0) hq_34 (show decode prog_15_method_123_code 21 = .ok (.iconst 0, 1) by decide +kernel) (by decide) ?_
    refine Ev_aload_n hq_34 (show decode prog_15_method_123_code 22 = .ok (.aload_n 0, 1) by decide +kernel) rfl ?_
    refine Ev_alen hq_34 (show decode prog_15_method_123_code 23 = .ok (.arraylength, 1) by decide +kernel) (Nat.lt_succ_of_lt n41) (by rw [k1]; decide) (by rw [k1]; decide) ?_
    rw [l1]
    refine Ev_iload_n hq_34 (show decode prog_15_method_123_code 24 = .ok (.iload_n 1, 1) by decide +kernel) rfl ?_
    refine Ev_min hq_34 (show decode prog_15_method_123_code 25 = .ok (.invokestatic 304, 3) by decide +kernel) rfl (z_le rfl) ?_
    rw [if_pos (show zi s < Int32.ofNat 160 from (zi_lt (b := 160) (by omega) (by omega)).2 (by omega))]
    refine Ev_copy hq_34 (show decode prog_15_method_123_code 28 = .ok (.invokestatic 150, 3) by decide +kernel) rfl ⟨z_le rfl, Nat.lt_succ_of_lt n41, Nat.lt_succ_self _, k1, k2, by decide, by decide, (zi_le (a := 0) (by omega) (by omega)).2 (by omega), by rw [es, l1]; show 0 + s ≤ 160; omega, by rw [es, l2]; show 0 + s ≤ s; omega⟩ ?_
    rw [es]
    refine Ev_aload_n hq_34 (show decode prog_15_method_123_code 31 = .ok (.aload_n 2, 1) by decide +kernel) rfl ?_
    exact Ev_aretA hq_34 (show decode prog_15_method_123_code 32 = .ok (.areturn, 1) by decide +kernel) (by
      have q1 : z_newI G I (fun _ => 0) 41 = I 41 := va_up_ne _ _ (by omega)
      have q2 : z_newI G I (fun _ => 0) (zn G) = fun _ => 0 := va_up_eq _ _ _
      rw [q1, q2]
      refine congrArg (fun t => (some (Value.ref (zn G)), z_new G 6 s (fun _ => none), t)) ?_
      funext c
      by_cases q : c = zn G
      · subst q; rw [va_up_eq, va_up_eq]; rfl
      · show va_up I (zn G) _ c = va_up (va_up I (zn G) _) (zn G) _ c
        unfold va_up
        simp only [q, if_false])
