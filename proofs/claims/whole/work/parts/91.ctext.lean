/-! THE CLASS'S TEXT -/
set_option maxRecDepth 20000 in
theorem c_text_full {X : Nat × (Nat → Int32)} {d : Nat} {G : zG} (hS : SG G) {I : zI} (h7 : I 0 7 = zi 6) : Cv X d 42 [.ref 0] G I (some (.int (-4)), G, I) := by
  refine Cv.of hq_42 (z_le rfl) rfl ?_
  refine Ev_aload_n hq_42 (show decode prog_1_method_6_code 0 = .ok (.aload_n 0, 1) by decide +kernel) rfl ?_
  refine Ev_getI hq_42 (show decode prog_1_method_6_code 1 = .ok (.getfield 46, 3) by decide +kernel) rfl (SGn hS (by decide)) (SGk hS rfl) (by decide) rfl ?_
  refine Ev_bipush (v := 6) hq_42 (show decode prog_1_method_6_code 4 = .ok (.bipush 6, 2) by decide +kernel) (by decide) ?_
  refine Ev_icmp_lt (tgt := 12) hq_42 (show decode prog_1_method_6_code 6 = .ok (.if_icmp .lt 6, 3) by decide +kernel) (by decide) (fun h => absurd h (by rw [h7]; decide)) (fun _ => ?_)
  refine Ev_bipush (v := -4) hq_42 (show decode prog_1_method_6_code 9 = .ok (.bipush (-4), 2) by decide +kernel) (by decide) ?_
  exact Ev_iret hq_42 (show decode prog_1_method_6_code 11 = .ok (.ireturn, 1) by decide +kernel) rfl rfl
set_option maxRecDepth 20000 in
theorem c_text_no {X : Nat × (Nat → Int32)} {G : zG} (hS : SG G) {I I1 : zI} {m n : Nat} {v : Int32} (hm : m < 6) (h7 : I 0 7 = zi m) (h9 : I 0 9 = zi n) (hc : Cv X 57 12 [.ref 39, .ref 44, .int (zi n)] G I (some (.int v), G, I1)) (h0 : ¬ v < 0) : Cv X 58 42 [.ref 0] G I (some (.int (-100 - v)), G, z_up I1 0 9 0) := by
  refine Cv.of hq_42 (z_le rfl) rfl ?_
  refine Ev_aload_n hq_42 (show decode prog_1_method_6_code 0 = .ok (.aload_n 0, 1) by decide +kernel) rfl ?_
  refine Ev_getI hq_42 (show decode prog_1_method_6_code 1 = .ok (.getfield 46, 3) by decide +kernel) rfl (SGn hS (by decide)) (SGk hS rfl) (by decide) rfl ?_
  refine Ev_bipush (v := 6) hq_42 (show decode prog_1_method_6_code 4 = .ok (.bipush 6, 2) by decide +kernel) (by decide) ?_
  refine Ev_icmp_lt (tgt := 12) hq_42 (show decode prog_1_method_6_code 6 = .ok (.if_icmp .lt 6, 3) by decide +kernel) (by decide) (fun _ => ?_) (fun h => absurd (by rw [h7]; exact (zi_lt (b := 6) (by omega) (by omega)).2 hm) h)
  refine Ev_aload_n hq_42 (show decode prog_1_method_6_code 12 = .ok (.aload_n 0, 1) by decide +kernel) rfl ?_
  refine Ev_getR hq_42 (show decode prog_1_method_6_code 13 = .ok (.getfield 36, 3) by decide +kernel) rfl (SGn hS (by decide)) (SGk hS rfl) (by decide) rfl (SGr hS rfl) ?_
  refine Ev_aload_n hq_42 (show decode prog_1_method_6_code 16 = .ok (.aload_n 0, 1) by decide +kernel) rfl ?_
  refine Ev_getR hq_42 (show decode prog_1_method_6_code 17 = .ok (.getfield 50, 3) by decide +kernel) rfl (SGn hS (by decide)) (SGk hS rfl) (by decide) rfl (SGr hS rfl) ?_
  refine Ev_aload_n hq_42 (show decode prog_1_method_6_code 20 = .ok (.aload_n 0, 1) by decide +kernel) rfl ?_
  refine Ev_getI hq_42 (show decode prog_1_method_6_code 21 = .ok (.getfield 54, 3) by decide +kernel) rfl (SGn hS (by decide)) (SGk hS rfl) (by decide) rfl ?_
  rw [h9]
  refine Ev_virt (as := [.ref 44, .int (zi n)]) hq_42 (show decode prog_1_method_6_code 24 = .ok (.invokevirtual 86, 3) by decide +kernel) rfl hq_12 rfl (z_le rfl) ⟨SGn hS (by decide), SGk hS rfl, by decide⟩ hc ?_
  refine Ev_istore_n (lo2 := [.ref 0, .int v]) hq_42 (show decode prog_1_method_6_code 27 = .ok (.istore_n 1, 1) by decide +kernel) (z_le rfl) rfl ?_
  refine Ev_aload_n hq_42 (show decode prog_1_method_6_code 28 = .ok (.aload_n 0, 1) by decide +kernel) rfl ?_
  refine Ev_iconst (v := 0) hq_42 (show decode prog_1_method_6_code 29 = .ok (.iconst 0, 1) by decide +kernel) (by decide) ?_
  refine Ev_putI hq_42 (show decode prog_1_method_6_code 30 = .ok (.putfield 54, 3) by decide +kernel) rfl (SGn hS (by decide)) (SGk hS rfl) (by decide) (by decide) rfl (fun hz => by cases hz) ?_
  refine Ev_iload_n hq_42 (show decode prog_1_method_6_code 33 = .ok (.iload_n 1, 1) by decide +kernel) rfl ?_
  refine Ev_if_lt (tgt := 42) hq_42 (show decode prog_1_method_6_code 34 = .ok (.ifCond .lt 8, 3) by decide +kernel) (by decide) (fun h => absurd h h0) (fun _ => ?_)
  refine Ev_bipush (v := -100) hq_42 (show decode prog_1_method_6_code 37 = .ok (.bipush (-100), 2) by decide +kernel) (by decide) ?_
  refine Ev_iload_n hq_42 (show decode prog_1_method_6_code 39 = .ok (.iload_n 1, 1) by decide +kernel) rfl ?_
  refine Ev_isub hq_42 (show decode prog_1_method_6_code 40 = .ok (.isub, 1) by decide +kernel) ?_
  exact Ev_iret hq_42 (show decode prog_1_method_6_code 41 = .ok (.ireturn, 1) by decide +kernel) rfl rfl
theorem zRf_big {a j : Nat} (h : 80 ≤ a) : zRf a j = none := by
  unfold zRf
  split <;> first | rfl | (exfalso; omega)
theorem zLW_SG {G : zG} (h : SG G) {s : Nat} : SG (zLW G s) := by
  have n0 := h.1
  have l1 : zKdL.length = 80 := by decide
  have l2 : zLnL.length ≤ 80 := by decide
  refine ⟨Nat.le_trans n0 (by show zn G ≤ zn G + 5; omega), fun a k ha => ?_, fun a k ha => ?_, fun a j b hr => ?_⟩
  · have := (List.getElem?_eq_some_iff.1 ha).1
    rw [(zLW_old (by omega)).1]; exact h.2.1 a k ha
  · have := (List.getElem?_eq_some_iff.1 ha).1
    rw [(zLW_old (by omega)).2.1]; exact h.2.2.1 a k ha
  · have : a < 80 := by
      rcases Nat.lt_or_ge a 80 with q | q
      · exact q
      · exfalso
        have e : zRf a j = none := zRf_big q
        rw [e] at hr; cases hr
    rw [(zLW_old (by omega)).2.2]; exact h.2.2.2 a j b hr
theorem SG.put43 {G : zG} (h : SG G) {m w : Nat} : SG (zPR_ G 43 m w) :=
  ⟨h.1, h.2.1, h.2.2.1, fun a j b hr => by
    show z_upR (zr G) 43 m (some w) a j = some b
    unfold z_upR
    rw [if_neg (fun q => by rw [q.1] at hr; cases hr)]
    exact h.2.2.2 a j b hr⟩
set_option maxRecDepth 20000 in
theorem c_text_yes {X : Nat × (Nat → Int32)} {G : zG} (hS : SG G) {I I1 : zI} {m n : Nat} {v : Int32} (hm : m < 6) (h7 : I 0 7 = zi m) (h9 : I 0 9 = zi n) (hc : Cv X 57 12 [.ref 39, .ref 44, .int (zi n)] G I (some (.int v), G, I1)) (hv : v = -1) {s : Nat} (hs : s ≤ 160) (h8 : I1 39 8 = zi s) (h71 : I1 0 7 = zi m) : ∃ f : Nat → Int32, (∀ k, k < s → f k = I1 41 k) ∧ Cv X 58 42 [.ref 0] G I (some (.int (zi m)), zPR_ (zLW G s) 43 m (zn G), z_up (zLWI G s (z_up I1 0 9 0) f) 0 7 (zi (m + 1))) := by
  have hS2 : SG (zLW G s) := zLW_SG hS
  have hS3 : SG (zPR_ (zLW G s) 43 m (zn G)) := hS2.put43
  have n80 := hS.1
  obtain ⟨f, hf, kc⟩ := c_law (X := X) (d := 55) (I := z_up I1 0 9 0) hS.five hs (by rw [up_cell (by decide)]; exact h8)
  have e7 : z_up I1 0 9 0 0 7 = zi m := by rw [up_place (by decide)]; exact h71
  have e7' : zLWI G s (z_up I1 0 9 0) f 0 7 = zi m := by rw [zLWI_old (by omega)]; exact e7
  refine ⟨f, fun k hk => by rw [hf k hk, up_cell (by decide)], Cv.of hq_42 (z_le rfl) rfl ?_⟩
  refine Ev_aload_n hq_42 (show decode prog_1_method_6_code 0 = .ok (.aload_n 0, 1) by decide +kernel) rfl ?_
  refine Ev_getI hq_42 (show decode prog_1_method_6_code 1 = .ok (.getfield 46, 3) by decide +kernel) rfl (SGn hS (by decide)) (SGk hS rfl) (by decide) rfl ?_
  refine Ev_bipush (v := 6) hq_42 (show decode prog_1_method_6_code 4 = .ok (.bipush 6, 2) by decide +kernel) (by decide) ?_
  refine Ev_icmp_lt (tgt := 12) hq_42 (show decode prog_1_method_6_code 6 = .ok (.if_icmp .lt 6, 3) by decide +kernel) (by decide) (fun _ => ?_) (fun h => absurd (by rw [h7]; exact (zi_lt (b := 6) (by omega) (by omega)).2 hm) h)
  refine Ev_aload_n hq_42 (show decode prog_1_method_6_code 12 = .ok (.aload_n 0, 1) by decide +kernel) rfl ?_
  refine Ev_getR hq_42 (show decode prog_1_method_6_code 13 = .ok (.getfield 36, 3) by decide +kernel) rfl (SGn hS (by decide)) (SGk hS rfl) (by decide) rfl (SGr hS rfl) ?_
  refine Ev_aload_n hq_42 (show decode prog_1_method_6_code 16 = .ok (.aload_n 0, 1) by decide +kernel) rfl ?_
  refine Ev_getR hq_42 (show decode prog_1_method_6_code 17 = .ok (.getfield 50, 3) by decide +kernel) rfl (SGn hS (by decide)) (SGk hS rfl) (by decide) rfl (SGr hS rfl) ?_
  refine Ev_aload_n hq_42 (show decode prog_1_method_6_code 20 = .ok (.aload_n 0, 1) by decide +kernel) rfl ?_
  refine Ev_getI hq_42 (show decode prog_1_method_6_code 21 = .ok (.getfield 54, 3) by decide +kernel) rfl (SGn hS (by decide)) (SGk hS rfl) (by decide) rfl ?_
  rw [h9]
  refine Ev_virt (as := [.ref 44, .int (zi n)]) hq_42 (show decode prog_1_method_6_code 24 = .ok (.invokevirtual 86, 3) by decide +kernel) rfl hq_12 rfl (z_le rfl) ⟨SGn hS (by decide), SGk hS rfl, by decide⟩ hc ?_
  refine Ev_istore_n (lo2 := [.ref 0, .int v]) hq_42 (show decode prog_1_method_6_code 27 = .ok (.istore_n 1, 1) by decide +kernel) (z_le rfl) rfl ?_
  refine Ev_aload_n hq_42 (show decode prog_1_method_6_code 28 = .ok (.aload_n 0, 1) by decide +kernel) rfl ?_
  refine Ev_iconst (v := 0) hq_42 (show decode prog_1_method_6_code 29 = .ok (.iconst 0, 1) by decide +kernel) (by decide) ?_
  refine Ev_putI hq_42 (show decode prog_1_method_6_code 30 = .ok (.putfield 54, 3) by decide +kernel) rfl (SGn hS (by decide)) (SGk hS rfl) (by decide) (by decide) rfl (fun hz => by cases hz) ?_
  refine Ev_iload_n hq_42 (show decode prog_1_method_6_code 33 = .ok (.iload_n 1, 1) by decide +kernel) rfl ?_
  refine Ev_if_lt (tgt := 42) hq_42 (show decode prog_1_method_6_code 34 = .ok (.ifCond .lt 8, 3) by decide +kernel) (by decide) (fun _ => ?_) (fun h => absurd (by rw [hv]; decide) h)
  refine Ev_aload_n hq_42 (show decode prog_1_method_6_code 42 = .ok (.aload_n 0, 1) by decide +kernel) rfl ?_
  refine Ev_getR hq_42 (show decode prog_1_method_6_code 43 = .ok (.getfield 42, 3) by decide +kernel) rfl (SGn hS (by decide)) (SGk hS rfl) (by decide) rfl (SGr hS rfl) ?_
  refine Ev_aload_n hq_42 (show decode prog_1_method_6_code 46 = .ok (.aload_n 0, 1) by decide +kernel) rfl ?_
  refine Ev_getI hq_42 (show decode prog_1_method_6_code 47 = .ok (.getfield 46, 3) by decide +kernel) rfl (SGn hS (by decide)) (SGk hS rfl) (by decide) rfl ?_
  refine Ev_aload_n hq_42 (show decode prog_1_method_6_code 50 = .ok (.aload_n 0, 1) by decide +kernel) rfl ?_
  refine Ev_getR hq_42 (show decode prog_1_method_6_code 51 = .ok (.getfield 36, 3) by decide +kernel) rfl (SGn hS (by decide)) (SGk hS rfl) (by decide) rfl (SGr hS rfl) ?_
  refine Ev_virt (as := []) hq_42 (show decode prog_1_method_6_code 54 = .ok (.invokevirtual 90, 3) by decide +kernel) rfl hq_33 rfl (z_le rfl) ⟨SGn hS (by decide), SGk hS rfl, by decide⟩ kc ?_
  rw [e7]
  refine Ev_aast hq_42 (show decode prog_1_method_6_code 57 = .ok (.aastore, 1) by decide +kernel) (SGn hS2 (by decide)) (SGk hS2 rfl) (by rw [SGl hS2 (a := 43) (k := 6) rfl]; exact zi_inr (by omega) (by omega)) (by rw [zLW_law.2.2.1]; omega) zLW_law.1.2.1 ?_
  rw [zi_nat (by omega)]
  show Ev X 58 42 58 _ _ (zPR_ (zLW G s) 43 m (zn G)) _ _
  refine Ev_aload_n hq_42 (show decode prog_1_method_6_code 58 = .ok (.aload_n 0, 1) by decide +kernel) rfl ?_
  refine Ev_dup hq_42 (show decode prog_1_method_6_code 59 = .ok (.dup, 1) by decide +kernel) rfl ?_
  refine Ev_getI hq_42 (show decode prog_1_method_6_code 60 = .ok (.getfield 46, 3) by decide +kernel) rfl (SGn hS3 (by decide)) (SGk hS3 rfl) (by decide) rfl ?_
  rw [e7']
  refine Ev_dup_x1 hq_42 (show decode prog_1_method_6_code 63 = .ok (.dup_x1, 1) by decide +kernel) ⟨rfl, rfl⟩ ?_
  refine Ev_iconst (v := 1) hq_42 (show decode prog_1_method_6_code 64 = .ok (.iconst 1, 1) by decide +kernel) (by decide) ?_
  refine Ev_iadd hq_42 (show decode prog_1_method_6_code 65 = .ok (.iadd, 1) by decide +kernel) ?_
  rw [zi1 m]
  refine Ev_putI hq_42 (show decode prog_1_method_6_code 66 = .ok (.putfield 46, 3) by decide +kernel) rfl (SGn hS3 (by decide)) (SGk hS3 rfl) (by decide) (by decide) rfl (fun hz => by cases hz) ?_
  exact Ev_iret hq_42 (show decode prog_1_method_6_code 69 = .ok (.ireturn, 1) by decide +kernel) rfl rfl
