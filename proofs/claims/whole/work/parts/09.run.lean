theorem z_cat_rv {N0 : Nat} {E : Nat → Value} (hE : z_Eok E) (r : List Value) : ((r.map (z_rv N0 E)).map fun v => v.category).sum = z_cat r := by
  unfold z_cat
  rw [List.map_map]
  refine congrArg List.sum (List.map_congr_left fun v _ => ?_)
  exact z_rv_cat hE v
theorem z_ea_len {N0 : Nat} {E : Nat → Value} (hE : z_Eok E) : ∀ as : List Value, (lg_sl (as.map (z_rv N0 E))).length = (z_ea as).length
  | [] => rfl
  | v :: as => by
    have ih := z_ea_len (N0 := N0) hE as
    unfold lg_sl at ih ⊢
    rw [List.map_cons, List.flatMap_cons, List.length_append, ih, z_rv_cat hE]
    show _ = (if v.category = 2 then v :: zU :: z_ea as else v :: z_ea as).length
    by_cases h : v.category = 2
    · rw [if_pos h, if_pos h]; simp; omega
    · rw [if_neg h, if_neg h]; simp; omega
theorem z_ea_get {N0 : Nat} {E : Nat → Value} (hE : z_Eok E) : ∀ (as : List Value) (i k : Nat) (v : Value), (z_ea as)[k]? = some v → v ≠ zU → (i + k, z_rv N0 E v) ∈ lv_args i (as.map (z_rv N0 E))
  | [], i, k, v, h, _ => by simp [z_ea] at h
  | w :: as, i, k, v, h, hv => by
    rw [List.map_cons]
    unfold lv_args
    rw [z_rv_cat hE]
    unfold z_ea at h
    by_cases hc : w.category = 2
    · rw [if_pos hc] at h ⊢
      cases k with
      | zero =>
        cases h
        exact List.mem_cons_self
      | succ k =>
        cases k with
        | zero =>
          cases h
          exact absurd rfl hv
        | succ k =>
          have := z_ea_get (N0 := N0) hE as (i + 2) k v (by simpa using h) hv
          rw [show i + (k + 1 + 1) = i + 2 + k by omega]
          exact List.mem_cons_of_mem _ this
    · rw [if_neg hc] at h ⊢
      cases k with
      | zero =>
        cases h
        exact List.mem_cons_self
      | succ k =>
        have := z_ea_get (N0 := N0) hE as (i + 1) k v (by simpa using h) hv
        rw [show i + (k + 1) = i + 1 + k by omega]
        exact List.mem_cons_of_mem _ this
/-- the locals at a method's entry -/
theorem z_ent_ok {N0 : Nat} {E : Nat → Value} (hE : z_Eok E) {as : List Value} {maxL : Nat} (h : (z_ea as).length ≤ maxL) {ls : Array Slot} (hl : lv_has ls maxL (lv_args 0 (as.map (z_rv N0 E)))) : z_lr N0 E ls (z_ent maxL as) maxL := by
  refine ⟨hl.1, by unfold z_ent; simp; omega, hl.2.1, fun k v hk hv => ?_⟩
  have h1 : (z_ea as)[k]? = some v := by
    unfold z_ent at hk
    rcases Nat.lt_or_ge k (z_ea as).length with q | q
    · rwa [List.getElem?_append_left q] at hk
    · rw [List.getElem?_append_right q] at hk
      have := List.mem_of_getElem? hk
      exact absurd (List.mem_replicate.mp this).2 hv
  have h2 := z_ea_get (N0 := N0) hE as 0 k v h1 hv
  rw [Nat.zero_add] at h2
  exact hl.2.2 _ h2
section ZQ
variable {p : Program} {l : Launch} {e : Env} {R : Room} {s : State} {m : MethodId} {args : Array Value} {below : List Frame} {meth : Method} {c : Code} {H : Heap} {locs : List Loc} {cells slots : Nat} {Q : State → Prop}
variable {cc : ByteArray} {pc : Nat} {ls : Array Slot} {rest : List Value} {D : va_G} {cy : Nat → ClassId} {N0 : Nat} {G : zG} {I : zI}
theorem z_ce_upI {a b : Nat} {f : Nat → Int32} (h : b ≠ a) : z_ce cy N0 G (va_up I a f) b = z_ce cy N0 G I b := by
  simp only [z_ce, z_fs, va_up_ne _ _ h]
theorem z_copy (hexec : p.tables.exec = Jvm.exec) (hb : c.code = cc) (hml : c.maxLocals = ls.size) {own : Nat} {index : Nat} (hown : s.vm.findClass (zR own) = some m.cls) (hlink : (Cond.methodLink (zR own) index arraycopyName).before args s = true) (hnat : (Cond.native arraycopyName).before args s = true) (hstat : (Cond.static arraycopyName).before args s = true) (hini : (Cond.initialized "java/lang/System").before args s = true)
    (hK : va_K D zCl (z_tys cy) s) (hp : z_hp D cy N0 s locs G I H) {a b : Nat} {sp dp n : Int32} (ha : a < zn G) (hb2 : b < zn G) (hka : zk G a = 6) (hkb : zk G b = 6) (h1 : 0 ≤ sp) (h2 : 0 ≤ dp) (h3 : 0 ≤ n) (h4 : sp.toNatClampNeg + n.toNatClampNeg ≤ zl G a) (h5 : dp.toNatClampNeg + n.toNatClampNeg ≤ zl G b)
    (hframes : 1 ≤ R.frames) (hlocals : (rest.map fun v => v.category).sum + (nativeFrameWords "java/lang/System" "arraycopy" 5 + 11) ≤ R.locals) (hdg : decode cc pc = .ok (.invokestatic index, 3))
    (kk : ∀ (H' : Heap) (locs' : List Loc), z_hp D cy N0 s locs' G (va_up I b (va_cpy (I a) (I b) sp.toNatClampNeg dp.toNatClampNeg n.toNatClampNeg)) H' → W p l e R s m args below meth c H' locs' cells slots Q (F0 m (pc + 3) ls rest)) : W p l e R s m args below meth c H locs cells slots Q (F0 m pc ls (.int n :: .int dp :: .ref (N0 + b) :: .int sp :: .ref (N0 + a) :: rest)) := by
  have nn : ∀ z : Int32, ¬ z < 0 → z.toInt = (z.toNatClampNeg : Int) := by
    intro z hz
    have hz0 : (0 : Int) ≤ z.toInt := by
      have := Int32.not_lt.mp hz
      simpa using Int32.le_iff_toInt_le.mp this
    show z.toInt = ((z.toInt.toNat : Nat) : Int)
    omega
  have h1 := z_n0 h1
  have h2 := z_n0 h2
  have h3 := z_n0 h3
  intro T hT X
  have hc0 : va_at D zCl (N0 + a, z_ce cy N0 G I a) H := hp.2.1 a _ (z_lay_get ha)
  have hc1 : va_at D zCl (N0 + b, z_ce cy N0 G I b) H := hp.2.1 b _ (z_lay_get hb2)
  rw [z_ce_int hka] at hc0
  rw [z_ce_int hkb] at hc1
  have hc0 : H[N0 + a]? = some (vp_cell (cy 6) (zl G a, .inl (I a))) := hc0
  have hc1 : H[N0 + b]? = some (vp_cell (cy 6) (zl G b, .inl (I b))) := hc1
  obtain ⟨-, k0, hk0, cm0, hkk0⟩ := (hK.2 0 _ rfl).1 (zl G a) (fun j => .int (I a j))
  obtain ⟨-, k1, hk1, cm1, hkk1⟩ := (hK.2 0 _ rfl).1 (zl G b) (fun j => .int (I b j))
  obtain ⟨vm', X', step⟩ := X.arraycopy hexec hown hlink hnat hstat hini (src := N0 + a) (dst := N0 + b) (cs := vp_cell (cy 6) (zl G a, .inl (I a))) (cd := vp_cell (cy 6) (zl G b, .inl (I b))) (srcPos := sp) (destPos := dp) (n := n) (by rw [hT]; exact hc0) (by rw [hT]; exact hc1)
    (fun _ h => by cases h) (fun _ h => by cases h) (fun h => by cases h) (fun h => by cases h) hk0 hk1 hkk0 hkk1 (by simp [show refKind .int = false from rfl]) h1 h2 h3
    (by rw [nn sp h1, nn n h3]; show ¬ _ > ((arrV (cy 6) (zl G a) (fun j => .int (I a j))).slots.size : Int); rw [arrV_size]; omega)
    (by rw [nn dp h2, nn n h3]; show ¬ _ > ((arrV (cy 6) (zl G b) (fun j => .int (I b j))).slots.size : Int); rw [arrV_size]; omega)
    (fun vm₁ _ i hi => by
      have e : (vp_cell (cy 6) (zl G a, .inl (I a))).slots.getD (sp.toNatClampNeg + i) .null = .int (I a (sp.toNatClampNeg + i)) := by
        show (arrV (cy 6) (zl G a) (fun j => .int (I a j))).slots.getD _ _ = _
        rw [Array.getD_eq_getD_getElem?, arrV_read _ _ (by omega)]
        rfl
      refine ⟨?_, ?_⟩
      · rw [e]
        rfl
      · rw [e]
        exact trivial)
    (g := F0 m pc ls (.int n :: .int dp :: .ref (N0 + b) :: .int sp :: .ref (N0 + a) :: rest)) rfl (by rw [hml]) (rest := rest) rfl (by rw [hb]; exact hdg) hframes (by show 2 * 0 + _ + _ ≤ _; omega)
  have e1 : copied (vp_cell (cy 6) (zl G a, .inl (I a))) (vp_cell (cy 6) (zl G b, .inl (I b))) sp dp n = vp_cell (cy 6) (zl G b, .inl (va_cpy (I a) (I b) sp.toNatClampNeg dp.toNatClampNeg n.toNatClampNeg)) := va_copied (fun z => .int z) (cy 6) (cy 6) (I a) (I b) h4
  rw [e1] at X' step
  have hl : N0 + b < H.size := (Array.getElem?_eq_some_iff.mp hc1).1
  have hheap : ((T.setVm vm').setCell (N0 + b) (vp_cell (cy 6) (zl G b, .inl (va_cpy (I a) (I b) sp.toNatClampNeg dp.toNatClampNeg n.toNatClampNeg)))).heap = H.setIfInBounds (N0 + b) (vp_cell (cy 6) (zl G b, .inl (va_cpy (I a) (I b) sp.toNatClampNeg dp.toNatClampNeg n.toNatClampNeg))) := by rw [← hT]; rfl
  obtain ⟨t, a1, b1⟩ := kk _ _ (z_hp_put (a := b) hp rfl (H' := H.setIfInBounds (N0 + b) (vp_cell (cy 6) (zl G b, .inl (va_cpy (I a) (I b) sp.toNatClampNeg dp.toNatClampNeg n.toNatClampNeg)))) (by simp) (fun q hq => by simp [Array.getElem?_setIfInBounds, Ne.symm hq]) (by
      rw [z_ce_int hkb, va_up_self]
      show (H.setIfInBounds (N0 + b) _)[N0 + b]? = some (vp_cell _ _)
      simp [Array.getElem?_setIfInBounds, hl]) (fun x hx => z_ce_upI hx) (fun q hq => by
      rcases List.mem_append.mp hq with h | h
      · exact Or.inl h
      · obtain ⟨z, -, hz⟩ := List.mem_map.mp h
        rw [← hz]
        exact Or.inr rfl)) _ hheap X'
  exact ⟨t, step t a1, b1⟩
theorem z_clone (hexec : p.tables.exec = Jvm.exec) (hb : c.code = cc) (hml : c.maxLocals = ls.size) {own : Nat} {index : Nat} (hown : s.vm.findClass (zR own) = some m.cls)
    (hlink : (Cond.methodLink (zR own) index ⟨"[I", "clone", "()Ljava/lang/Object;"⟩).before args s = true) (hsame : (Cond.sameMethod "[I" "java/lang/Object" "clone" "()Ljava/lang/Object;").before args s = true)
    (hnat : (Cond.native ⟨"java/lang/Object", "clone", "()Ljava/lang/Object;"⟩).before args s = true) (hinst : (Cond.instanceMethod ⟨"java/lang/Object", "clone", "()Ljava/lang/Object;"⟩).before args s = true)
    (hsel : (Cond.selects "[I" ⟨"[I", "clone", "()Ljava/lang/Object;"⟩ ⟨"java/lang/Object", "clone", "()Ljava/lang/Object;"⟩).before args s = true) (hcl : va_Nw (.castable "[I" "java/lang/Cloneable") s)
    (hK : va_K D zCl (z_tys cy) s) (hp : z_hp D cy N0 s locs G I H) {a : Nat} (ha : a < zn G) (hka : zk G a = 6)
    (hframes : 1 ≤ R.frames) (hlocals : (rest.map fun v => v.category).sum + 14 ≤ R.locals) (hcells : cells + 1 ≤ R.cells) (hslots : slots + zl G a ≤ R.slots) (hdg : decode cc pc = .ok (.invokevirtual index, 3))
    (kk : ∀ (H' : Heap), z_hp D cy N0 s locs (z_new G 6 (zl G a) (fun _ => none)) (z_newI G I (I a)) H' → W p l e R s m args below meth c H' locs (cells + 1) (slots + zl G a) Q (F0 m (pc + 3) ls (.ref (N0 + zn G) :: rest))) : W p l e R s m args below meth c H locs cells slots Q (F0 m pc ls (.ref (N0 + a) :: rest)) := by
  have hat : va_at D zCl (N0 + a, z_ce cy N0 G I a) H := hp.2.1 a _ (z_lay_get ha)
  rw [z_ce_int hka] at hat
  have hat : H[N0 + a]? = some (vp_cell (cy 6) (zl G a, .inl (I a))) := hat
  have hnm : s.vm.findClass "[I" = some (cy 6) := (hK.2 0 _ rfl).2
  have hsz : (vp_cell (cy 6) (zl G a, .inl (I a))).slots.size = zl G a := arrV_size _ _ _
  obtain ⟨c0, t0', f1, f2, f3⟩ := Cond.castable_spec (va_Nw.use (A := args) rfl hcl)
  cases hnm.symm.trans f1
  intro T hT X
  obtain ⟨-, kA, hkA, comp, hkind⟩ := State.isArrayOf_alike X.warmed.alike ((hK.2 0 _ rfl).1 0 (fun _ => .null))
  obtain ⟨-, kS, hkS, compS, hkindS⟩ := (hK.2 0 _ rfl).1 0 (fun _ => .null)
  obtain ⟨vm', X', st⟩ := X.cloneArray hexec hown hlink hsame hnat hinst hsel (a := N0 + a) (cell := vp_cell (cy 6) (zl G a, .inl (I a))) (by rw [hT]; exact hat) (fun k h => by cases h) (fun h => by cases h) hnm f2 f3
    (fun i v hv => by
      have hk' : T.vm.classes[cy 6]? = some kA := hkA
      have hv2 : ∃ z, v = .int z := by
        have h9 : (arrV (cy 6) (zl G a) (fun j => Value.int (I a j))).slots[i]? = some v := hv
        have hi := (Array.getElem?_eq_some_iff.mp h9).1
        rw [arrV_size] at hi
        rw [arrV_read _ _ hi] at h9
        exact ⟨_, (Option.some.inj h9).symm⟩
      obtain ⟨z, rfl⟩ := hv2
      show T.fitsSlot (cy 6) .none i (.int z) = true
      simp [State.fitsSlot, State.slotType?, hk', hkind, fits])
    (g := F0 m pc ls (.ref (N0 + a) :: rest)) rfl (by rw [hml]) rfl (by rw [hb]; exact hdg) hframes (by show 2 * 0 + _ + 14 ≤ _; omega) hcells (by rw [hsz]; exact hslots) (hloader := Vm.clonesLoader_of_array hkS hkindS)
  rw [hsz] at X'
  generalize hH1 : H.push (vp_cell (cy 6) (zl G a, .inl (I a))) = H1
  have z1 : H1.size = H.size + 1 := by rw [← hH1, Array.size_push]
  have e1 : H1[H.size]? = some (vp_cell (cy 6) (zl G a, .inl (I a))) := by rw [← hH1, Array.getElem?_push_size]
  have o1 : ∀ q : Nat, q < H.size → H1[q]? = H[q]? := fun q hq => by rw [← hH1, Array.getElem?_push, if_neg (Nat.ne_of_lt hq)]
  obtain ⟨t, b1, b2⟩ := kk H1 (z_hp_new hp rfl z1 o1 (by
      rw [z_ce_int (by simp [zk, z_new, va_up_self])]
      show H1[N0 + zn G]? = some (vp_cell _ _)
      rw [← hp.1, e1]
      simp [zl, z_new, z_newI, va_up_self]) (fun b hb => z_new_ce hb)) ((T.setVm vm').pushCell (vp_cell (cy 6) (zl G a, .inl (I a)))) (by rw [← hH1, ← hT]; rfl) X'
  refine ⟨t, st t ?_, b2⟩
  rw [hT, hp.1]
  exact b1
set_option maxHeartbeats 4000000 in
/-- what the JDK does without code here -/
theorem z_prim_ok (hexec : p.tables.exec = Jvm.exec) (hb : c.code = cc) (hml : c.maxLocals = ls.size) {own : Nat} (hown : s.vm.findClass (zR own) = some m.cls) {E : Nat → Value} {X : Nat × (Nat → Int32)} (hC : z_cx s args E X D cy N0) (hnw : z_nw s) (hfr : 1 ≤ R.frames) (hlo : 60 ≤ R.locals)
    {i : Instr} {n : Nat} {st : List Value} {o : Nat × List Value × zG × zI} (hdg : decode cc pc = .ok (i, n)) (h : z_prim own n pc st G I i = some o) (hp : z_hp D cy N0 s locs G I H)
    (hr0 : cells ≤ R.cells ∧ slots ≤ R.slots) (hr1 : cells + zn o.2.2.1 ≤ R.cells + zn G) (hr2 : slots + zs o.2.2.1 ≤ R.slots + zs G)
    (kk : ∀ (H' : Heap) (locs' : List Loc) (c' s' : Nat), z_hp D cy N0 s locs' o.2.2.1 o.2.2.2 H' → c' + zn G = cells + zn o.2.2.1 → s' + zs G = slots + zs o.2.2.1 → W p l e R s m args below meth c H' locs' c' s' Q (F0 m o.1 ls (o.2.1.map (z_rv N0 E)))) :
    W p l e R s m args below meth c H locs cells slots Q (F0 m pc ls (st.map (z_rv N0 E))) := by
  obtain ⟨hts, hw, hE, hK, hAo, hAA, hL, hO⟩ := hC
  have hq : ∀ k w, (k, w) ∈ zPw → w.before args s = true := fun k w h => hts w (z_has_in (List.all_eq_true.mp zPw_ok _ h))
  have hnf : nativeFrameWords "java/lang/System" "arraycopy" 5 ≤ 7 := by decide +kernel
  cases i with
  | invokespecial ix =>
    simp only [z_prim] at h
    split at h
    · rename_i μ hz
      have hlk := hts _ ((zC_at (zLk_mem hz)).2.1 (by decide) (by decide))
      split at h
      · rename_i a r
        split at h
        · rename_i hc
          obtain ⟨rfl, hcat⟩ := hc
          cases h
          exact W.objInit hexec hb hown hlk (hq 92 _ (List.mem_of_getElem? (i := 0) rfl)) (hq 93 _ (List.mem_of_getElem? (i := 1) rfl)) (g := F0 m pc ls (.ref (N0 + a) :: r.map (z_rv N0 E))) rfl hml.symm (a := N0 + a) (rest := r.map (z_rv N0 E)) rfl hdg hfr (by rw [z_cat_rv hE]; show 2 * 0 + _ + 12 ≤ _; omega) (kk H locs cells slots hp rfl rfl)
        · cases h
      · cases h
    · cases h
  | invokestatic ix =>
    simp only [z_prim] at h
    split at h
    · rename_i μ hz
      have hlk := hts _ ((zC_at (zLk_mem hz)).2.1 (by decide) (by decide))
      split at h
      · rename_i y x r
        split at h
        · rename_i hc
          obtain ⟨rfl, hcat⟩ := hc
          cases h
          exact va_mmax hexec hb hml hown hlk (hq 366 _ (List.mem_of_getElem? (i := 3) rfl)) (hq 77 _ (List.mem_of_getElem? (i := 2) rfl)) (hq 367 _ (List.mem_of_getElem? (i := 4) rfl)) hfr (by rw [z_cat_rv hE]; omega) hr0.1 hr0.2 hdg (kk H locs cells slots hp rfl rfl)
        · cases h
      · cases h
    · rename_i μ hz
      have hlk := hts _ ((zC_at (zLk_mem hz)).2.1 (by decide) (by decide))
      split at h
      · rename_i y x r
        split at h
        · rename_i hc
          obtain ⟨rfl, hcat⟩ := hc
          cases h
          exact va_mmin hexec hb hml hown hlk (hq 227 _ (List.mem_of_getElem? (i := 5) rfl)) (hq 77 _ (List.mem_of_getElem? (i := 2) rfl)) (hq 228 _ (List.mem_of_getElem? (i := 6) rfl)) hfr (by rw [z_cat_rv hE]; omega) hr0.1 hr0.2 hdg (kk H locs cells slots hp rfl rfl)
        · cases h
      · cases h
    · rename_i μ hz
      have hlk := hts _ ((zC_at (zLk_mem hz)).2.1 (by decide) (by decide))
      split at h
      · rename_i x r
        split at h
        · rename_i hc
          obtain ⟨rfl, hcat⟩ := hc
          cases h
          exact va_mabs hexec hb hml hown hlk (hq 580 _ (List.mem_of_getElem? (i := 7) rfl)) (hq 77 _ (List.mem_of_getElem? (i := 2) rfl)) (hq 581 _ (List.mem_of_getElem? (i := 8) rfl)) hfr (by rw [z_cat_rv hE]; omega) hr0.1 hr0.2 hdg (kk H locs cells slots hp rfl rfl)
        · cases h
      · cases h
    · rename_i μ hz
      have hlk := hts _ ((zC_at (zLk_mem hz)).2.1 (by decide) (by decide))
      split at h
      · rename_i k dp b sp a r
        split at h
        · rename_i hc
          obtain ⟨rfl, hcat, ha, hb2, hka, hkb, h1, h2, h3, h4, h5⟩ := hc
          cases h
          exact z_copy hexec hb hml hown hlk (hq 381 _ (List.mem_of_getElem? (i := 9) rfl)) (hts _ zPw_st) (hq 83 _ (List.mem_of_getElem? (i := 10) rfl)) hK hp ha hb2 hka hkb h1 h2 h3 h4 h5 hfr (by rw [z_cat_rv hE]; omega) hdg (fun H' locs' hp' => kk H' locs' cells slots hp' rfl rfl)
        · cases h
      · cases h
    · cases h
  | invokevirtual ix =>
    simp only [z_prim] at h
    split at h
    · rename_i μ hz
      have hlk := hts _ ((zC_at (zLk_mem hz)).2.1 (by decide) (by decide))
      split at h
      · rename_i a r
        split at h
        · rename_i hc
          obtain ⟨rfl, hcat, ha, hka⟩ := hc
          cases h
          simp only [zn, zs, z_new] at hr1 hr2
          exact z_clone hexec hb hml hown hlk (hq 372 _ (List.mem_of_getElem? (i := 11) rfl)) (hq 373 _ (List.mem_of_getElem? (i := 12) rfl)) (hq 374 _ (List.mem_of_getElem? (i := 13) rfl)) (hq 375 _ (List.mem_of_getElem? (i := 14) rfl)) hnw.2 hK hp ha hka hfr (by rw [z_cat_rv hE]; omega) (by omega) (by omega) hdg
            (fun H' hp' => kk H' locs _ _ hp' (by simp only [zn, z_new]; omega) (by simp only [zs, z_new]; omega))
        · cases h
      · cases h
    · cases h
  | _ => simp [z_prim] at h
end ZQ
