/-! THE PICTURE IS THE MACHINE: what evF answers, the machine does. -/
set_option maxRecDepth 100000 in
theorem zM_good : zM.all (fun q => goodWord (.code q.1 q.2.1 q.2.2.1 q.2.2.2.1) || decide (q.1 = x)) = true := by decide +kernel
theorem z_fm {α : Type} {l : List zMT} {f : zMT → α} {ps : List Nat} {t : List α} (h : l.map f = ps.filterMap (fun i => t[i]?)) {q : zMT} (hq : q ∈ l) : f q ∈ t := by
  have h1 : f q ∈ l.map f := List.mem_map.mpr ⟨q, hq, rfl⟩
  rw [h] at h1
  obtain ⟨i, -, hi⟩ := List.mem_filterMap.mp h1
  exact List.mem_of_getElem? hi
theorem zM_code {q : zMT} (hq : q ∈ zM) (hx : q.1 ≠ x) : Cond.code q.1 q.2.1 q.2.2.1 q.2.2.2.1 ∈ zGW := by
  refine List.mem_filter.mpr ⟨?_, ?_⟩
  · unfold zM at hq
    simp only [List.mem_append] at hq
    rcases hq with h | h | h | h | h | h | h | h
    · have h0 : zM_0 = zM_0.take 1 ++ zM_0.drop 1 := (List.take_append_drop 1 zM_0).symm
      rw [h0] at h
      rcases List.mem_append.mp h with h | h
      · have : zM_0.take 1 = [(x, code, maxLocals, ret, 6, 1)] := rfl
        rw [this] at h
        rw [List.mem_singleton.mp h] at hx
        exact absurd rfl hx
      · exact z_fm (f := fun q => Cond.code q.1 q.2.1 q.2.2.1 q.2.2.2.1) zMc_0 h
    · exact z_fm (f := fun q => Cond.code q.1 q.2.1 q.2.2.1 q.2.2.2.1) zMc_1 h
    · exact z_fm (f := fun q => Cond.code q.1 q.2.1 q.2.2.1 q.2.2.2.1) zMc_2 h
    · exact z_fm (f := fun q => Cond.code q.1 q.2.1 q.2.2.1 q.2.2.2.1) zMc_3 h
    · exact z_fm (f := fun q => Cond.code q.1 q.2.1 q.2.2.1 q.2.2.2.1) zMc_4 h
    · exact z_fm (f := fun q => Cond.code q.1 q.2.1 q.2.2.1 q.2.2.2.1) zMc_5 h
    · exact z_fm (f := fun q => Cond.code q.1 q.2.1 q.2.2.1 q.2.2.2.1) zMc_6 h
    · exact z_fm (f := fun q => Cond.code q.1 q.2.1 q.2.2.1 q.2.2.2.1) zMc_7 h
  · have h1 := List.all_eq_true.mp zM_good q hq
    simp only [Bool.or_eq_true, decide_eq_true_eq] at h1
    exact h1.resolve_right hx
theorem zM_at {μ : Nat} {q : zMT} (h : zM[μ]? = some q) : ∃ r, zMp[μ]? = some r ∧ zMw q r = true := by
  exact z_zipI zM_len zM_ok h
theorem zC_at {o i kd μ : Nat} (h : ((o, i), (kd, μ)) ∈ zC) : zLw o i kd (zMn μ) ∈ lw_tbl ∧ (kd ≠ 3 → kd ≠ 4 → zLw o i kd (zMn μ) ∈ zGW) ∧ zCk ((o, i), (kd, μ)) = true := by
  obtain ⟨p, hp⟩ := z_zip zC_len zC_ok h
  simp only [Bool.and_eq_true, Bool.or_eq_true, decide_eq_true_eq] at hp
  refine ⟨List.mem_of_getElem? hp.1, fun h3 h4 => zGW_in hp.1 (hp.2.resolve_right (fun z => ?_)), List.all_eq_true.mp zC_kind _ h⟩
  rcases z with z | z
  · exact h3 z
  · exact h4 z
/-- words that are kept one by one -/
def z_nw (s : State) : Prop := (∀ o i kd μ, ((o, i), (kd, μ)) ∈ zC → (kd = 3 ∨ kd = 4) → va_Nw (.methodLinkNest (zR o) i (zMn μ) "TooHotTooCold") s) ∧ va_Nw (.castable "[I" "java/lang/Cloneable") s
theorem z_links_of {s : State} {args : Array Value} (hts : ∀ w ∈ zGW, w.before args s = true) : z_links s args := by
  have hp : ∀ k w, (k, w) ∈ zPw → w.before args s = true := fun k w h => hts w (z_has_in (List.all_eq_true.mp zPw_ok _ h))
  refine ⟨fun q hq r hr => ?_, fun q hq => ?_, hp 826 _ ?_, hp 224 _ ?_, hp 243 _ ?_, hp 1297 _ ?_, hp 1298 _ ?_, hp 145 _ ?_, fun ci q hq => ?_⟩
  · obtain ⟨p, h⟩ := z_zip zF_len zF_ok hq
    have h2 := hts _ (z_has_in h)
    unfold zFw at h2
    dsimp only at h2
    rw [hr] at h2
    exact h2
  · obtain ⟨p, h⟩ := z_zip zN_len zN_okw hq
    exact hts _ (z_has_in h)
  · exact List.mem_of_getElem? (i := 15) rfl
  · exact List.mem_of_getElem? (i := 16) rfl
  · exact List.mem_of_getElem? (i := 17) rfl
  · exact List.mem_of_getElem? (i := 18) rfl
  · exact List.mem_of_getElem? (i := 19) rfl
  · exact List.mem_of_getElem? (i := 20) rfl
  · have h := List.all_eq_true.mp zCl_inst q (List.mem_of_getElem? hq)
    simp only [Bool.and_eq_true, decide_eq_true_eq] at h
    exact ⟨hts _ (List.mem_filter.mpr ⟨h.1.1.1, h.1.1.2⟩), hts _ (List.mem_filter.mpr ⟨h.1.2, h.2⟩)⟩
/-- the String constants -/
def z_str (s : State) (E : Nat → Value) : Prop := ∀ q ∈ zS, ∃ a, E (q.2.1 + 2) = .ref a ∧ vk_R (zR q.1.1) q.1.2 q.2.2 a s
theorem z_words_of {s : State} {args : Array Value} {E : Nat → Value} (hts : ∀ w ∈ zGW, w.before args s = true) (h : z_str s E) : z_words s args E := by
  refine ⟨fun q hq => ?_, fun q hq => ?_, fun q hq => ⟨zS_lt q hq, h q hq⟩⟩
  · obtain ⟨p, h⟩ := z_zip zK_len zK_ok hq
    exact hts _ (z_has_in h)
  · obtain ⟨p, h⟩ := z_zip zKL_len zKL_ok hq
    exact hts _ (z_has_in h)
/-- what a method's start says, but the words -/
def z_st (E : Nat → Value) (X : Nat × (Nat → Int32)) (D : va_G) (cy : Nat → ClassId) (N0 : Nat) (G : zG) (I : zI) (U : State) : Prop :=
  z_str U E ∧ z_nw U ∧ va_K D zCl (z_tys cy) U ∧ va_AO "TooHotTooCold$Law" U ∧ z_AA U ∧ z_out U E X N0 ∧ U.heap.size = N0 + zn G ∧ va_P D zCl (z_lay cy N0 G I) U.heap
theorem z_AA.moved {u U : State} (hvm : u.vm.Alike U.vm) (h : z_AA u) : z_AA U := Jvm.Stand.arrayOver_alikeB hvm h
theorem z_out.go {u U : State} {E : Nat → Value} {X : Nat × (Nat → Int32)} {N0 : Nat} (hvm : u.vm.Alike U.vm) (hq : ∀ a : Nat, a < u.heap.size → ¬ N0 ≤ a → U.heap[a]? = u.heap[a]?) (h : z_out u E X N0) : z_out U E X N0 := by
  obtain ⟨h1, h2, h3, h4, h5, h6⟩ := h
  refine ⟨fun j q hj => ?_, fun j q hj => ?_, (va_Z.moved hvm h3).kept hq, (va_Z.moved hvm h4).kept hq, (va_Z.moved hvm h5).kept hq, fun j h0 h15 => ?_⟩
  · obtain ⟨t, e, k⟩ := h1 j q hj
    exact ⟨t, e, (va_T.moved hvm k).kept hq⟩
  · obtain ⟨t, e, k⟩ := h2 j q hj
    exact ⟨t, e, (va_T.moved hvm k).kept hq⟩
  · obtain ⟨t, t2, e1, e2, k1, k2, k3⟩ := h6 j h0 h15
    exact ⟨t, t2, e1, e2, (va_O.moved hvm k1).kept hq, (va_OF.moved hvm k2).kept hq, (va_OF.moved hvm k3).kept hq⟩
/-- a method's words -/
def zWs (q : zMT) : List Cond := .code q.1 q.2.1 q.2.2.1 q.2.2.2.1 :: zGW
theorem zWs_good {q : zMT} (hq : q ∈ zM) (hx : q.1 ≠ x) : GoodIn zGW (zWs q) := by
  intro w hw
  have h : w ∈ zGW := by
    rcases List.mem_cons.mp hw with h | h
    · rw [h]; exact zM_code hq hx
    · exact h
  exact ⟨h, good_of_word (List.mem_filter.mp h).2⟩
def z_Pc (E : Nat → Value) (X : Nat × (Nat → Int32)) (D : va_G) (cy : Nat → ClassId) (N0 : Nat) (G : zG) (I : zI) (as : List Value) : Array Value → State → Prop := fun v U => v = (as.map (z_rv N0 E)).toArray ∧ z_st E X D cy N0 G I U
def z_Qc (E : Nat → Value) (D : va_G) (cy : Nat → ClassId) (N0 : Nat) (r : Option Value) (G : zG) (I : zI) : Array Value → State → Outcome → State → Prop := fun _ st o t => o = .returned (r.map (z_rv N0 E)) ∧ t.heap.size = N0 + zn G ∧ va_P D zCl (z_lay cy N0 G I) t.heap ∧ va_F (fun q => N0 ≤ q) st t
theorem z_st.vm {E : Nat → Value} {X : Nat × (Nat → Int32)} {D : va_G} {cy : Nat → ClassId} {N0 : Nat} {G : zG} {I : zI} {u U : State} (hv : U.vm = u.vm) (hh : U.heap = u.heap) (h : z_st E X D cy N0 G I u) : z_st E X D cy N0 G I U := by
  have ha : u.vm.Alike U.vm := by rw [hv]; exact Vm.Alike.refl _
  obtain ⟨h1, h2, h3, h4, h5, h6, h7, h8⟩ := h
  refine ⟨fun q hq => ?_, ⟨fun o i kd μ hm hk => va_Nw.same rfl hv.symm (h2.1 o i kd μ hm hk), va_Nw.same rfl hv.symm h2.2⟩, h3.moved ha, h4.moved ha, h5.moved ha, h6.go ha (fun a _ _ => by rw [hh]), by rw [hh]; exact h7, by rw [hh]; exact h8⟩
  obtain ⟨a, e, k⟩ := h1 q hq
  exact ⟨a, e, k.same hv⟩
theorem z_Pc_blind {E : Nat → Value} {X : Nat × (Nat → Int32)} {D : va_G} {cy : Nat → ClassId} {N0 : Nat} {G : zG} {I : zI} {as : List Value} : FrameBlind (z_Pc E X D cy N0 G I as) := fun a U g mk h => ⟨h.1, h.2.vm (u := U) rfl rfl⟩
