/-! THE CLASS'S TEXT -/
set_option maxRecDepth 20000 in
theorem c_text_full {X : Nat × (Nat → Int32)} {d : Nat} {G : zG} (hS : SG G) {I : zI} (h7 : I 0 7 = zi 6) : Cv X d 42 [.ref 0] G I (some (.int (-4)), G, I) := by
  refine Cv.of hq_42 (z_le rfl) rfl ?_
  refine Ev_aload_n hq_42 (show decode prog_1_method_6_code 0 = .ok (.aload_n 0, 1) by decide +kernel) rfl ?_
  refine Ev_getI hq_42 (show decode prog_1_method_6_code 1 = .ok (.getfield 46, 3) by decide +kernel) rfl (SGn hS (by decide)) (SGk hS rfl) (by decide) rfl ?_
  refine Ev_bipush (v := 6) hq_42 (show decode prog_1_method_6_code 4 = .ok (.bipush 6, 2) by decide +kernel) (by decide) ?_
  refine Ev_icmp_lt (tgt := 12) hq_42 (show decode prog_1_method_6_code 6 = .ok (.if_icmp .lt 6, 3) by decide +kernel) (by decide) (fun h => absurd h (by rw [h7]; decide)) (fun _ => ?_)
  refine Ev_bipush (v := -4) hq_42 (show decode prog_1_method_6_code 9 = .ok (.bipush (-4), 2) by decide +kernel) (by decide) ?_
  exact Ev_iret hq_42 (show decode prog_1_method_6_code 11 = .ok (.ireturn, 1) by decide +kernel) rfl rfl
set_option maxRecDepth 20000 in
theorem c_text_no {X : Nat × (Nat → Int32)} {G : zG} (hS : SG G) {I I1 : zI} {m n : Nat} {v : Int32} (hm : m < 6) (h7 : I 0 7 = zi m) (h9 : I 0 9 = zi n) (hc : Cv X 57 12 [.ref 39, .ref 44, .int (zi n)] G I (some (.int v), G, I1)) (h0 : ¬ v < 0) : Cv X 58 42 [.ref 0] G I (some (.int (-100 - v)), G, z_up I1 0 9 0) := by
  refine Cv.of hq_42 (z_le rfl) rfl ?_
  refine Ev_aload_n hq_42 (show decode prog_1_method_6_code 0 = .ok (.aload_n 0, 1) by decide +kernel) rfl ?_
  refine Ev_getI hq_42 (show decode prog_1_method_6_code 1 = .ok (.getfield 46, 3) by decide +kernel) rfl (SGn hS (by decide)) (SGk hS rfl) (by decide) rfl ?_
  refine Ev_bipush (v := 6) hq_42 (show decode prog_1_method_6_code 4 = .ok (.bipush 6, 2) by decide +kernel) (by decide) ?_
  refine Ev_icmp_lt (tgt := 12) hq_42 (show decode prog_1_method_6_code 6 = .ok (.if_icmp .lt 6, 3) by decide +kernel) (by decide) (fun _ => ?_) (fun h => absurd (by rw [h7]; exact (zi_lt (b := 6) (by omega) (by omega)).2 hm) h)
  refine Ev_aload_n hq_42 (show decode prog_1_method_6_code 12 = .ok (.aload_n 0, 1) by decide +kernel) rfl ?_
  refine Ev_getR hq_42 (show decode prog_1_method_6_code 13 = .ok (.getfield 36, 3) by decide +kernel) rfl (SGn hS (by decide)) (SGk hS rfl) (by decide) rfl (SGr hS rfl) ?_
  refine Ev_aload_n hq_42 (show decode prog_1_method_6_code 16 = .ok (.aload_n 0, 1) by decide +kernel) rfl ?_
  refine Ev_getR hq_42 (show decode prog_1_method_6_code 17 = .ok (.getfield 50, 3) by decide +kernel) rfl (SGn hS (by decide)) (SGk hS rfl) (by decide) rfl (SGr hS rfl) ?_
  refine Ev_aload_n hq_42 (show decode prog_1_method_6_code 20 = .ok (.aload_n 0, 1) by decide +kernel) rfl ?_
  refine Ev_getI hq_42 (show decode prog_1_method_6_code 21 = .ok (.getfield 54, 3) by decide +kernel) rfl (SGn hS (by decide)) (SGk hS rfl) (by decide) rfl ?_
  rw [h9]
  refine Ev_virt (as := [.ref 44, .int (zi n)]) hq_42 (show decode prog_1_method_6_code 24 = .ok (.invokevirtual 86, 3) by decide +kernel) rfl hq_12 rfl (z_le rfl) ⟨SGn hS (by decide), SGk hS rfl, by decide⟩ hc ?_
  refine Ev_istore_n (lo2 := [.ref 0, .int v]) hq_42 (show decode prog_1_method_6_code 27 = .ok (.istore_n 1, 1) by decide +kernel) (z_le rfl) rfl ?_
  refine Ev_aload_n hq_42 (show decode prog_1_method_6_code 28 = .ok (.aload_n 0, 1) by decide +kernel) rfl ?_
  refine Ev_iconst (v := 0) hq_42 (show decode prog_1_method_6_code 29 = .ok (.iconst 0, 1) by decide +kernel) (by decide) ?_
  refine Ev_putI hq_42 (show decode prog_1_method_6_code 30 = .ok (.putfield 54, 3) by decide +kernel) rfl (SGn hS (by decide)) (SGk hS rfl) (by decide) (by decide) rfl (fun hz => by cases hz) ?_
  refine Ev_iload_n hq_42 (show decode prog_1_method_6_code 33 = .ok (.iload_n 1, 1) by decide +kernel) rfl ?_
  refine Ev_if_lt (tgt := 42) hq_42 (show decode prog_1_method_6_code 34 = .ok (.ifCond .lt 8, 3) by decide +kernel) (by decide) (fun h => absurd h h0) (fun _ => ?_)
  refine Ev_bipush (v := -100) hq_42 (show decode prog_1_method_6_code 37 = .ok (.bipush (-100), 2) by decide +kernel) (by decide) ?_
  refine Ev_iload_n hq_42 (show decode prog_1_method_6_code 39 = .ok (.iload_n 1, 1) by decide +kernel) rfl ?_
  refine Ev_isub hq_42 (show decode prog_1_method_6_code 40 = .ok (.isub, 1) by decide +kernel) ?_
  exact Ev_iret hq_42 (show decode prog_1_method_6_code 41 = .ok (.ireturn, 1) by decide +kernel) rfl rfl
theorem zRf_big {a j : Nat} (h : 80 ≤ a) : zRf a j = none := by
  unfold zRf
  split <;> first | rfl | (exfalso; omega)
theorem zLW_SG {G : zG} (h : SG G) {s : Nat} : SG (zLW G s) := by
  have n0 := h.1
  have l1 : zKdL.length = 80 := by decide
  have l2 : zLnL.length ≤ 80 := by decide
  refine ⟨Nat.le_trans n0 (by show zn G ≤ zn G + 5; omega), fun a k ha => ?_, fun a k ha => ?_, fun a j b hr => ?_⟩
  · have := (List.getElem?_eq_some_iff.1 ha).1
    rw [(zLW_old (by omega)).1]; exact h.2.1 a k ha
  · have := (List.getElem?_eq_some_iff.1 ha).1
    rw [(zLW_old (by omega)).2.1]; exact h.2.2.1 a k ha
  · have : a < 80 := by
      rcases Nat.lt_or_ge a 80 with q | q
      · exact q
      · exfalso
        have e : zRf a j = none := zRf_big q
        rw [e] at hr; cases hr
    rw [(zLW_old (by omega)).2.2]; exact h.2.2.2 a j b hr
