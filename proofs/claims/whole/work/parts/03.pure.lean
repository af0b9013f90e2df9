/-! What touches no cell: the picture's step is the machine's. -/
/-- numbers of cells as addresses from N0 on; things from outside by E -/
def z_rv (N0 : Nat) (E : Nat → Value) (v : Value) : Value := match v with
  | .ref a => .ref (N0 + a)
  | .retAddr (j + 1) => E j
  | v => v
/-- things from outside are references, but 40 perhaps -/
def z_Eok (E : Nat → Value) : Prop := (∀ j, (E j).category = 1) ∧ ∀ j, j < 40 → ∃ e, E j = .ref e
def z_lr (N0 : Nat) (E : Nat → Value) (ls : Array Slot) (lo : List Value) (nL : Nat) : Prop := ls.size = nL ∧ lo.length = nL ∧ lv_wf ls ∧ ∀ (k : Nat) (v : Value), lo[k]? = some v → v ≠ zU → ls[k]? = some (.val (z_rv N0 E v))
/-- the same as a list of places -/
def z_lv (N0 : Nat) (E : Nat → Value) (lo : List Value) : List (Nat × Value) := (List.range lo.length).filterMap (fun k => match lo[k]? with
  | some v => if v = zU then none else some (k, z_rv N0 E v)
  | none => none)
theorem z_lv_mem {N0 : Nat} {E : Nat → Value} {lo : List Value} {k : Nat} {v : Value} (h : lo[k]? = some v) (hv : v ≠ zU) : (k, z_rv N0 E v) ∈ z_lv N0 E lo := by
  refine List.mem_filterMap.mpr ⟨k, List.mem_range.mpr (List.getElem?_eq_some_iff.mp h).1, ?_⟩
  simp [h, hv]
theorem z_lv_inv {N0 : Nat} {E : Nat → Value} {lo : List Value} {q : Nat × Value} (h : q ∈ z_lv N0 E lo) : ∃ v, lo[q.1]? = some v ∧ v ≠ zU ∧ q.2 = z_rv N0 E v := by
  obtain ⟨k, -, hk⟩ := List.mem_filterMap.mp h
  cases e : lo[k]? with
  | none => rw [e] at hk; cases hk
  | some v =>
    rw [e] at hk
    by_cases hv : v = zU
    · simp [hv] at hk
    · simp only [hv, if_false] at hk
      cases hk
      exact ⟨v, e, hv, rfl⟩
theorem z_lr_has {N0 : Nat} {E : Nat → Value} {ls : Array Slot} {lo : List Value} {nL : Nat} (h : z_lr N0 E ls lo nL) : lv_has ls nL (z_lv N0 E lo) := by
  obtain ⟨h1, h2, h3, h4⟩ := h
  refine ⟨h1, h3, fun q hq => ?_⟩
  obtain ⟨v, e, hv, e2⟩ := z_lv_inv hq
  rw [e2]
  exact h4 _ _ e hv
theorem z_rv_cat {N0 : Nat} {E : Nat → Value} (hE : z_Eok E) (v : Value) : (z_rv N0 E v).category = v.category := by
  cases v with
  | retAddr j =>
    cases j with
    | zero => rfl
    | succ j => exact (hE.1 j).trans rfl
  | _ => rfl
theorem z_cl_len (lo : List Value) (k : Nat) : (z_cl lo k).length = lo.length := by
  cases k with
  | zero => rfl
  | succ k =>
    unfold z_cl
    dsimp only
    split
    · split <;> simp
    · rfl
theorem z_cl_get {lo : List Value} {k j : Nat} {w : Value} (h : (z_cl lo k)[j]? = some w) (hw : w ≠ zU) : lo[j]? = some w ∧ ¬ (j + 1 = k ∧ w.category = 2) := by
  cases k with
  | zero => exact ⟨h, fun q => by omega⟩
  | succ k =>
    unfold z_cl at h
    dsimp only at h
    split at h
    · rename_i x hx
      split at h
      · by_cases hj : j = k
        · subst hj
          rw [List.getElem?_set_self (List.getElem?_eq_some_iff.mp hx).1] at h
          cases h
          exact absurd rfl hw
        · rw [List.getElem?_set_ne (Ne.symm hj)] at h
          exact ⟨h, fun q => hj (by omega)⟩
      · rename_i hc
        refine ⟨h, fun q => hc ?_⟩
        have hj : j = k := by omega
        subst hj
        rw [hx] at h
        cases h
        exact q.2
    · rename_i hx
      refine ⟨h, fun q => ?_⟩
      have hj : j = k := by omega
      subst hj
      rw [hx] at h
      cases h
theorem z_st1 {N0 : Nat} {E : Nat → Value} {ls ls' : Array Slot} {lo : List Value} {nL k : Nat} {v : Value} (hE : z_Eok E) (h : z_lr N0 E ls lo nL) (hk : k < nL)
    (h' : lv_has ls' nL ((k, z_rv N0 E v) :: (z_lv N0 E lo).filter (fun q => !(q.1 == k) && !(q.1 + 1 == k && q.2.category == 2)))) : z_lr N0 E ls' (z_s1 lo k v) nL := by
  obtain ⟨g1, g2, g3⟩ := h'
  have hl : k < (z_cl lo k).length := by rw [z_cl_len, h.2.1]; exact hk
  refine ⟨g1, by unfold z_s1; rw [List.length_set, z_cl_len]; exact h.2.1, g2, fun j w hj hw => ?_⟩
  unfold z_s1 at hj
  by_cases e : j = k
  · subst e
    rw [List.getElem?_set_self hl] at hj
    cases hj
    exact g3 _ List.mem_cons_self
  · rw [List.getElem?_set_ne (Ne.symm e)] at hj
    obtain ⟨a1, a2⟩ := z_cl_get hj hw
    refine g3 (j, z_rv N0 E w) (List.mem_cons_of_mem _ (List.mem_filter.mpr ⟨z_lv_mem a1 hw, ?_⟩))
    simp only [z_rv_cat hE, Bool.and_eq_true, Bool.not_eq_true', beq_eq_false_iff_ne, ne_eq, Bool.and_eq_false_iff]
    refine ⟨e, ?_⟩
    by_cases q : j + 1 = k
    · exact Or.inr (fun z => a2 ⟨q, z⟩)
    · exact Or.inl q
theorem z_st2 {N0 : Nat} {E : Nat → Value} {ls ls' : Array Slot} {lo : List Value} {nL k : Nat} {v : Value} (hE : z_Eok E) (h : z_lr N0 E ls lo nL) (hk : k + 1 < nL)
    (h' : lv_has ls' nL ((k, z_rv N0 E v) :: (z_lv N0 E lo).filter (fun q => !(q.1 == k) && (!(q.1 == k + 1) && !(q.1 + 1 == k && q.2.category == 2))))) : z_lr N0 E ls' (z_s2 lo k v) nL := by
  obtain ⟨g1, g2, g3⟩ := h'
  have hl : k < (z_cl lo k).length := by rw [z_cl_len, h.2.1]; omega
  have hl2 : k + 1 < ((z_cl lo k).set k v).length := by rw [List.length_set, z_cl_len, h.2.1]; exact hk
  refine ⟨g1, by unfold z_s2; rw [List.length_set, List.length_set, z_cl_len]; exact h.2.1, g2, fun j w hj hw => ?_⟩
  unfold z_s2 at hj
  by_cases e2 : j = k + 1
  · subst e2
    rw [List.getElem?_set_self hl2] at hj
    cases hj
    exact absurd rfl hw
  rw [List.getElem?_set_ne (Ne.symm e2)] at hj
  by_cases e : j = k
  · subst e
    rw [List.getElem?_set_self hl] at hj
    cases hj
    exact g3 _ List.mem_cons_self
  · rw [List.getElem?_set_ne (Ne.symm e)] at hj
    obtain ⟨a1, a2⟩ := z_cl_get hj hw
    refine g3 (j, z_rv N0 E w) (List.mem_cons_of_mem _ (List.mem_filter.mpr ⟨z_lv_mem a1 hw, ?_⟩))
    simp only [z_rv_cat hE, Bool.and_eq_true, Bool.not_eq_true', beq_eq_false_iff_ne, ne_eq, Bool.and_eq_false_iff]
    refine ⟨e, e2, ?_⟩
    by_cases q : j + 1 = k
    · exact Or.inr (fun z => a2 ⟨q, z⟩)
    · exact Or.inl q
theorem z1_inv {len n pc : Nat} {lo st : List Value} {o : Nat × List Value × List Value} (h : z1 len n pc lo st = some o) : n = len ∧ o = (pc + len, lo, st) := by
  unfold z1 at h
  split at h
  · rename_i hn; cases h; exact ⟨hn, rfl⟩
  · cases h
theorem zj_inv {len n pc : Nat} {off : Int} {lo st : List Value} {o : Nat × List Value × List Value} (h : zj len n pc off lo st = some o) : n = len ∧ ∃ tgt : Nat, (pc : Int) + off = (tgt : Int) ∧ o = (tgt, lo, st) := by
  unfold zj at h
  split at h
  · rename_i hn; cases h; exact ⟨hn.1, _, (Int.toNat_of_nonneg hn.2).symm, rfl⟩
  · cases h
theorem z_i2_inv {n pc : Nat} {lo st : List Value} {f : Int32 → Int32 → Int32} {o : Nat × List Value × List Value} (h : z_i2 n pc lo st f = some o) : ∃ x y r, st = .int y :: .int x :: r ∧ n = 1 ∧ o = (pc + 1, lo, .int (f x y) :: r) := by
  unfold z_i2 at h
  split at h
  · obtain ⟨a, b⟩ := z1_inv h; exact ⟨_, _, _, rfl, a, b⟩
  · cases h
theorem z_d2_inv {n pc : Nat} {lo st : List Value} {f : Int32 → Int32 → Int32} {o : Nat × List Value × List Value} (h : z_d2 n pc lo st f = some o) : ∃ x y r, st = .int y :: .int x :: r ∧ n = 1 ∧ ¬ y = 0 ∧ o = (pc + 1, lo, .int (f x y) :: r) := by
  unfold z_d2 at h
  split at h
  · split at h
    · cases h
    · rename_i hy; obtain ⟨a, b⟩ := z1_inv h; exact ⟨_, _, _, rfl, a, hy, b⟩
  · cases h
theorem z_i1_inv {n pc : Nat} {lo st : List Value} {f : Int32 → Int32} {o : Nat × List Value × List Value} (h : z_i1 n pc lo st f = some o) : ∃ x r, st = .int x :: r ∧ n = 1 ∧ o = (pc + 1, lo, .int (f x) :: r) := by
  unfold z_i1 at h
  split at h
  · obtain ⟨a, b⟩ := z1_inv h; exact ⟨_, _, rfl, a, b⟩
  · cases h
theorem z_l2_inv {n pc : Nat} {lo st : List Value} {f : Int64 → Int64 → Int64} {o : Nat × List Value × List Value} (h : z_l2 n pc lo st f = some o) : ∃ x y r, st = .long y :: .long x :: r ∧ n = 1 ∧ o = (pc + 1, lo, .long (f x y) :: r) := by
  unfold z_l2 at h
  split at h
  · obtain ⟨a, b⟩ := z1_inv h; exact ⟨_, _, _, rfl, a, b⟩
  · cases h
theorem z_m2_inv {n pc : Nat} {lo st : List Value} {f : Int64 → Int64 → Int64} {o : Nat × List Value × List Value} (h : z_m2 n pc lo st f = some o) : ∃ x y r, st = .long y :: .long x :: r ∧ n = 1 ∧ ¬ y = 0 ∧ o = (pc + 1, lo, .long (f x y) :: r) := by
  unfold z_m2 at h
  split at h
  · split at h
    · cases h
    · rename_i hy; obtain ⟨a, b⟩ := z1_inv h; exact ⟨_, _, _, rfl, a, hy, b⟩
  · cases h
theorem z_ld_inv {k len n pc : Nat} {lo st : List Value} {o : Nat × List Value × List Value} (h : z_ld k len n pc lo st = some o) : ∃ x, lo[k]? = some (.int x) ∧ n = len ∧ o = (pc + len, lo, .int x :: st) := by
  unfold z_ld at h
  split at h
  · rename_i x hx; obtain ⟨a, b⟩ := z1_inv h; exact ⟨x, hx, a, b⟩
  · cases h
theorem z_ldl_inv {k len n pc : Nat} {lo st : List Value} {o : Nat × List Value × List Value} (h : z_ldl k len n pc lo st = some o) : ∃ x, lo[k]? = some (.long x) ∧ n = len ∧ o = (pc + len, lo, .long x :: st) := by
  unfold z_ldl at h
  split at h
  · rename_i x hx; obtain ⟨a, b⟩ := z1_inv h; exact ⟨x, hx, a, b⟩
  · cases h
theorem z_lda_inv {k len n pc : Nat} {lo st : List Value} {o : Nat × List Value × List Value} (h : z_lda k len n pc lo st = some o) : n = len ∧ ((∃ x, lo[k]? = some (.ref x) ∧ o = (pc + len, lo, .ref x :: st)) ∨ ∃ j, j < 40 ∧ lo[k]? = some (.retAddr (j + 1)) ∧ o = (pc + len, lo, .retAddr (j + 1) :: st)) := by
  unfold z_lda at h
  split at h
  · rename_i x hx; obtain ⟨a, b⟩ := z1_inv h; exact ⟨a, Or.inl ⟨x, hx, b⟩⟩
  · rename_i j hj
    split at h
    · rename_i hlt; obtain ⟨a, b⟩ := z1_inv h; exact ⟨a, Or.inr ⟨j, hlt, hj, b⟩⟩
    · cases h
  · cases h
theorem z_sto_inv {k len n pc : Nat} {lo st : List Value} {o : Nat × List Value × List Value} (h : z_sto k len n pc lo st = some o) : ∃ x r, st = .int x :: r ∧ k < lo.length ∧ n = len ∧ o = (pc + len, z_s1 lo k (.int x), r) := by
  unfold z_sto at h
  split at h
  · split at h
    · rename_i hlt; obtain ⟨a, b⟩ := z1_inv h; exact ⟨_, _, rfl, hlt, a, b⟩
    · cases h
  · cases h
theorem z_stl_inv {k len n pc : Nat} {lo st : List Value} {o : Nat × List Value × List Value} (h : z_stl k len n pc lo st = some o) : ∃ x r, st = .long x :: r ∧ k + 1 < lo.length ∧ n = len ∧ o = (pc + len, z_s2 lo k (.long x), r) := by
  unfold z_stl at h
  split at h
  · split at h
    · rename_i hlt; obtain ⟨a, b⟩ := z1_inv h; exact ⟨_, _, rfl, hlt, a, b⟩
    · cases h
  · cases h
theorem z_sta_inv {k len n pc : Nat} {lo st : List Value} {o : Nat × List Value × List Value} (h : z_sta k len n pc lo st = some o) : ∃ x r, st = .ref x :: r ∧ k < lo.length ∧ n = len ∧ o = (pc + len, z_s1 lo k (.ref x), r) := by
  unfold z_sta at h
  split at h
  · split at h
    · rename_i hlt; obtain ⟨a, b⟩ := z1_inv h; exact ⟨_, _, rfl, hlt, a, b⟩
    · cases h
  · cases h
section ZP
variable {p : Program} {l : Launch} {e : Env} {R : Room} {s : State} {m : MethodId} {args : Array Value} {below : List Frame} {meth : Method} {c : Code} {H : Heap} {locs : List Loc} {cells slots : Nat} {Q : State → Prop}
/-- tables: what is found stands in them -/
theorem zLk_mem {α : Type} {t : List ((Nat × Nat) × α)} {o i : Nat} {v : α} (h : zLk t o i = some v) : ((o, i), v) ∈ t := by
  unfold zLk at h
  cases hf : t.find? (fun q => q.1 == (o, i)) with
  | none => rw [hf] at h; cases h
  | some q =>
    rw [hf] at h
    obtain ⟨a, b⟩ := q
    have h1 := List.find?_some hf
    have h2 := List.mem_of_find?_eq_some hf
    simp only [beq_iff_eq] at h1
    cases h
    rw [← h1]
    exact h2
/-- what the tables and the start say, for the rows of part 03 -/
def z_words (s : State) (args : Array Value) (E : Nat → Value) : Prop :=
  (∀ q ∈ zK, (Jvm.Cond.constant (zR q.1.1) q.1.2 q.2).before args s = true) ∧ (∀ q ∈ zKL, (Jvm.Cond.constantLong (zR q.1.1) q.1.2 q.2).before args s = true) ∧
  (∀ q ∈ zS, q.2.1 < 13 ∧ ∃ a, E (q.2.1 + 2) = .ref a ∧ vk_R (zR q.1.1) q.1.2 q.2.2 a s)
theorem z_br_inv {k : ClassFile.Cond} {x y : Int32} {off : Int} {n pc : Nat} {lo r : List Value} {o : Nat × List Value × List Value} (h : z_br k x y off n pc lo r = some o) : n = 3 ∧ ∃ tgt : Nat, (pc : Int) + off = (tgt : Int) ∧ ((z_cmp k x y ∧ o = (tgt, lo, r)) ∨ (¬ z_cmp k x y ∧ o = (pc + 3, lo, r))) := by
  unfold z_br at h
  by_cases hc : n = 3 ∧ 0 ≤ (pc : Int) + off
  · rw [if_pos hc] at h
    refine ⟨hc.1, _, (Int.toNat_of_nonneg hc.2).symm, ?_⟩
    cases hd : z_dec k x y with
    | isTrue hp =>
      rw [hd] at h
      exact Or.inl ⟨hp, (Option.some.inj h).symm⟩
    | isFalse hp =>
      rw [hd] at h
      exact Or.inr ⟨hp, (Option.some.inj h).symm⟩
  · rw [if_neg hc] at h
    cases h
set_option maxHeartbeats 4000000 in
theorem z_icmp_ok (hexec : p.tables.exec = Jvm.exec) {cc : ByteArray} (hb : c.code = cc) {k : ClassFile.Cond} {x y : Int32} {off : Int} {n pc : Nat} {lo r : List Value} {o : Nat × List Value × List Value} {ls : Array Slot} {st : List Value}
    (hdg : decode cc pc = .ok (.if_icmp k off, n)) (h : z_br k x y off n pc lo r = some o) (kk : o.2 = (lo, r) → W p l e R s m args below meth c H locs cells slots Q (F0 m o.1 ls st)) : W p l e R s m args below meth c H locs cells slots Q (F0 m pc ls (.int y :: .int x :: st)) := by
  obtain ⟨hn, tgt, ht, h2⟩ := z_br_inv h
  subst hn
  rcases h2 with ⟨hp, ho⟩ | ⟨hp, ho⟩ <;> subst ho <;> have K := kk rfl
  · cases k with
    | eq => exact lv_icmp_eq hexec hb hdg ht (fun _ => K) (fun z => absurd hp z)
    | ne => exact lv_icmp_ne hexec hb hdg ht (fun _ => K) (fun z => absurd z hp)
    | lt => exact lv_icmp_lt hexec hb hdg ht (fun _ => K) (fun z => absurd hp z)
    | ge => exact lv_icmp_ge hexec hb hdg ht (fun _ => K) (fun z => absurd hp z)
    | gt => exact lv_icmp_gt hexec hb hdg ht (fun _ => K) (fun z => absurd hp z)
    | le => exact lv_icmp_le hexec hb hdg ht (fun _ => K) (fun z => absurd hp z)
  · cases k with
    | eq => exact lv_icmp_eq hexec hb hdg ht (fun z => absurd z hp) (fun _ => K)
    | ne => exact lv_icmp_ne hexec hb hdg ht (fun z => absurd z hp) (fun _ => K)
    | lt => exact lv_icmp_lt hexec hb hdg ht (fun z => absurd z hp) (fun _ => K)
    | ge => exact lv_icmp_ge hexec hb hdg ht (fun z => absurd z hp) (fun _ => K)
    | gt => exact lv_icmp_gt hexec hb hdg ht (fun z => absurd z hp) (fun _ => K)
    | le => exact lv_icmp_le hexec hb hdg ht (fun z => absurd z hp) (fun _ => K)
set_option maxHeartbeats 4000000 in
theorem z_if_ok (hexec : p.tables.exec = Jvm.exec) {cc : ByteArray} (hb : c.code = cc) {k : ClassFile.Cond} {x : Int32} {off : Int} {n pc : Nat} {lo r : List Value} {o : Nat × List Value × List Value} {ls : Array Slot} {st : List Value}
    (hdg : decode cc pc = .ok (.ifCond k off, n)) (h : z_br k x 0 off n pc lo r = some o) (kk : o.2 = (lo, r) → W p l e R s m args below meth c H locs cells slots Q (F0 m o.1 ls st)) : W p l e R s m args below meth c H locs cells slots Q (F0 m pc ls (.int x :: st)) := by
  obtain ⟨hn, tgt, ht, h2⟩ := z_br_inv h
  subst hn
  rcases h2 with ⟨hp, ho⟩ | ⟨hp, ho⟩ <;> subst ho <;> have K := kk rfl
  · cases k with
    | eq => exact lv_if_eq hexec hb hdg ht (fun _ => K) (fun z => absurd hp z)
    | ne => exact lv_if_ne hexec hb hdg ht (fun _ => K) (fun z => absurd z hp)
    | lt => exact lv_if_lt hexec hb hdg ht (fun _ => K) (fun z => absurd hp z)
    | ge => exact lv_if_ge hexec hb hdg ht (fun _ => K) (fun z => absurd hp z)
    | gt => exact lv_if_gt hexec hb hdg ht (fun _ => K) (fun z => absurd hp z)
    | le => exact lv_if_le hexec hb hdg ht (fun _ => K) (fun z => absurd hp z)
  · cases k with
    | eq => exact lv_if_eq hexec hb hdg ht (fun z => absurd z hp) (fun _ => K)
    | ne => exact lv_if_ne hexec hb hdg ht (fun z => absurd z hp) (fun _ => K)
    | lt => exact lv_if_lt hexec hb hdg ht (fun z => absurd z hp) (fun _ => K)
    | ge => exact lv_if_ge hexec hb hdg ht (fun z => absurd z hp) (fun _ => K)
    | gt => exact lv_if_gt hexec hb hdg ht (fun z => absurd z hp) (fun _ => K)
    | le => exact lv_if_le hexec hb hdg ht (fun z => absurd z hp) (fun _ => K)
set_option maxHeartbeats 4000000 in
/-- a step that touches no cell -/
theorem z_pure_ok (hexec : p.tables.exec = Jvm.exec) {cc : ByteArray} (hb : c.code = cc) {own : Nat} (hown : s.vm.findClass (zR own) = some m.cls) {N0 : Nat} {E : Nat → Value} (hE : z_Eok E) (hw : z_words s args E)
    {i : Instr} {n pc : Nat} {lo st : List Value} {o : Nat × List Value × List Value} {ls : Array Slot} {nL : Nat} (hdg : decode cc pc = .ok (i, n)) (h : z_pure own n pc lo st i = some o) (hl : z_lr N0 E ls lo nL)
    (kk : ∀ ls' : Array Slot, z_lr N0 E ls' o.2.1 nL → W p l e R s m args below meth c H locs cells slots Q (F0 m o.1 ls' (o.2.2.map (z_rv N0 E)))) : W p l e R s m args below meth c H locs cells slots Q (F0 m pc ls (st.map (z_rv N0 E))) := by
  have LD : ∀ {k : Nat} {x : Int32}, lo[k]? = some (.int x) → ls[k]? = some (.val (.int x)) := fun h => hl.2.2.2 _ _ h (by intro z; cases z)
  have LL : ∀ {k : Nat} {x : Int64}, lo[k]? = some (.long x) → ls[k]? = some (.val (.long x)) := fun h => hl.2.2.2 _ _ h (by intro z; cases z)
  have LA : ∀ {k : Nat} {x : Nat}, lo[k]? = some (.ref x) → ls[k]? = some (.val (.ref (N0 + x))) := fun h => hl.2.2.2 _ _ h (by intro z; cases z)
  have LE : ∀ {k j : Nat}, lo[k]? = some (.retAddr (j + 1)) → ls[k]? = some (.val (E j)) := fun h => hl.2.2.2 _ _ h (by intro z; cases z)
  have hlen : lo.length = nL := hl.2.1
  cases i with
  | iconst k => obtain ⟨a, b⟩ := z1_inv h; subst a; subst b; exact lv_iconst hexec hb hdg rfl (kk ls hl)
  | bipush k => obtain ⟨a, b⟩ := z1_inv h; subst a; subst b; exact lv_bipush hexec hb hdg rfl (kk ls hl)
  | sipush k => obtain ⟨a, b⟩ := z1_inv h; subst a; subst b; exact lv_sipush hexec hb hdg rfl (kk ls hl)
  | lconst k => obtain ⟨a, b⟩ := z1_inv h; subst a; subst b; exact lv_lconst hexec hb hdg rfl (kk ls hl)
  | ldc ix =>
    simp only [z_pure] at h
    split at h
    · rename_i v hv
      obtain ⟨a, b⟩ := z1_inv h; subst a; subst b
      exact lv_ldc hexec hb hown (hw.1 _ (zLk_mem hv)) hdg (kk ls hl)
    · split at h
      · rename_i q hq
        obtain ⟨a, b⟩ := z1_inv h; subst a; subst b
        obtain ⟨-, ad, h1, h2⟩ := hw.2.2 _ (zLk_mem hq)
        refine va_ldcS hexec hb hown h2 hdg ?_
        have K := kk ls hl
        rw [show ((zX (q.1 + 2) :: st).map (z_rv N0 E)) = E (q.1 + 2) :: st.map (z_rv N0 E) from rfl, h1] at K
        exact K
      · cases h
  | ldc_w ix =>
    simp only [z_pure] at h
    split at h
    · rename_i v hv
      obtain ⟨a, b⟩ := z1_inv h; subst a; subst b
      exact lv_ldcw hexec hb hown (hw.1 _ (zLk_mem hv)) hdg (kk ls hl)
    · cases h
  | ldc2_w ix =>
    simp only [z_pure] at h
    split at h
    · rename_i v hv
      obtain ⟨a, b⟩ := z1_inv h; subst a; subst b
      exact lv_ldc2 hexec hb hown (hw.2.1 _ (zLk_mem hv)) hdg (kk ls hl)
    · cases h
  | iload k => obtain ⟨x, hx, a, b⟩ := z_ld_inv h; subst a; subst b; exact lv_iload hexec hb hdg (LD hx) (kk ls hl)
  | iload_n k => obtain ⟨x, hx, a, b⟩ := z_ld_inv h; subst a; subst b; exact lv_iload_n hexec hb hdg rfl (LD hx) (kk ls hl)
  | lload k => obtain ⟨x, hx, a, b⟩ := z_ldl_inv h; subst a; subst b; exact lv_lload hexec hb hdg (LL hx) (kk ls hl)
  | lload_n k => obtain ⟨x, hx, a, b⟩ := z_ldl_inv h; subst a; subst b; exact lv_lload_n hexec hb hdg rfl (LL hx) (kk ls hl)
  | aload k =>
    obtain ⟨a, ⟨x, hx, b⟩ | ⟨j, hj, hx, b⟩⟩ := z_lda_inv h <;> subst a <;> subst b
    · exact lv_aload hexec hb hdg (LA hx) (kk ls hl)
    · obtain ⟨ad, had⟩ := hE.2 j hj
      refine lv_aload hexec hb hdg (x := ad) (by rw [← had]; exact LE hx) ?_
      have K := kk ls hl
      rw [show ((Value.retAddr (j + 1) :: st).map (z_rv N0 E)) = E j :: st.map (z_rv N0 E) from rfl, had] at K
      exact K
  | aload_n k =>
    obtain ⟨a, ⟨x, hx, b⟩ | ⟨j, hj, hx, b⟩⟩ := z_lda_inv h <;> subst a <;> subst b
    · exact lv_aload_n hexec hb hdg rfl (LA hx) (kk ls hl)
    · obtain ⟨ad, had⟩ := hE.2 j hj
      refine lv_aload_n hexec hb hdg rfl (x := ad) (by rw [← had]; exact LE hx) ?_
      have K := kk ls hl
      rw [show ((Value.retAddr (j + 1) :: st).map (z_rv N0 E)) = E j :: st.map (z_rv N0 E) from rfl, had] at K
      exact K
  | istore k => obtain ⟨x, r, hs, hk, a, b⟩ := z_sto_inv h; subst a; subst b; subst hs; exact lv_istore hexec hb hdg (z_lr_has hl) (by omega) rfl (fun ls' hl' => kk ls' (z_st1 (v := .int x) hE hl (by omega) hl'))
  | istore_n k => obtain ⟨x, r, hs, hk, a, b⟩ := z_sto_inv h; subst a; subst b; subst hs; exact lv_istore_n hexec hb hdg rfl (z_lr_has hl) (by omega) rfl (fun ls' hl' => kk ls' (z_st1 (v := .int x) hE hl (by omega) hl'))
  | lstore k => obtain ⟨x, r, hs, hk, a, b⟩ := z_stl_inv h; subst a; subst b; subst hs; exact lv_lstore hexec hb hdg (z_lr_has hl) (by omega) rfl (fun ls' hl' => kk ls' (z_st2 (v := .long x) hE hl (by omega) hl'))
  | lstore_n k => obtain ⟨x, r, hs, hk, a, b⟩ := z_stl_inv h; subst a; subst b; subst hs; exact lv_lstore_n hexec hb hdg rfl (z_lr_has hl) (by omega) rfl (fun ls' hl' => kk ls' (z_st2 (v := .long x) hE hl (by omega) hl'))
  | astore k => obtain ⟨x, r, hs, hk, a, b⟩ := z_sta_inv h; subst a; subst b; subst hs; exact lv_astore hexec hb hdg (z_lr_has hl) (by omega) rfl (fun ls' hl' => kk ls' (z_st1 (v := .ref x) hE hl (by omega) hl'))
  | astore_n k => obtain ⟨x, r, hs, hk, a, b⟩ := z_sta_inv h; subst a; subst b; subst hs; exact lv_astore_n hexec hb hdg rfl (z_lr_has hl) (by omega) rfl (fun ls' hl' => kk ls' (z_st1 (v := .ref x) hE hl (by omega) hl'))
  | iinc k z =>
    simp only [z_pure] at h
    split at h
    · rename_i x hx
      obtain ⟨a, b⟩ := z1_inv h; subst a; subst b
      obtain ⟨j, hj⟩ := List.getElem?_of_mem (z_lv_mem (N0 := N0) (E := E) hx (by intro z; cases z))
      exact lv_iinc hexec hb hdg (z_lr_has hl) hj rfl (by have := (List.getElem?_eq_some_iff.mp hx).1; omega) rfl (fun ls' hl' => kk ls' (z_st1 (v := .int (x + Int32.ofInt z)) hE hl (by have := (List.getElem?_eq_some_iff.mp hx).1; omega) hl'))
    · cases h
  | iadd => obtain ⟨x, y, r, hs, a, b⟩ := z_i2_inv h; subst a; subst b; subst hs; exact lv_iadd hexec hb hdg (kk ls hl)
  | isub => obtain ⟨x, y, r, hs, a, b⟩ := z_i2_inv h; subst a; subst b; subst hs; exact lv_isub hexec hb hdg (kk ls hl)
  | imul => obtain ⟨x, y, r, hs, a, b⟩ := z_i2_inv h; subst a; subst b; subst hs; exact lv_imul hexec hb hdg (kk ls hl)
  | idiv => obtain ⟨x, y, r, hs, a, hy, b⟩ := z_d2_inv h; subst a; subst b; subst hs; exact lv_idiv hexec hb hdg hy (kk ls hl)
  | irem => obtain ⟨x, y, r, hs, a, hy, b⟩ := z_d2_inv h; subst a; subst b; subst hs; exact lv_irem hexec hb hdg hy (kk ls hl)
  | ineg => obtain ⟨x, r, hs, a, b⟩ := z_i1_inv h; subst a; subst b; subst hs; exact lv_ineg hexec hb hdg (kk ls hl)
  | iand => obtain ⟨x, y, r, hs, a, b⟩ := z_i2_inv h; subst a; subst b; subst hs; exact lv_iand hexec hb hdg (kk ls hl)
  | ior => obtain ⟨x, y, r, hs, a, b⟩ := z_i2_inv h; subst a; subst b; subst hs; exact lv_ior hexec hb hdg (kk ls hl)
  | ixor => obtain ⟨x, y, r, hs, a, b⟩ := z_i2_inv h; subst a; subst b; subst hs; exact lv_ixor hexec hb hdg (kk ls hl)
  | ishl => obtain ⟨x, y, r, hs, a, b⟩ := z_i2_inv h; subst a; subst b; subst hs; exact lv_ishl hexec hb hdg (kk ls hl)
  | ishr => obtain ⟨x, y, r, hs, a, b⟩ := z_i2_inv h; subst a; subst b; subst hs; exact lv_ishr hexec hb hdg (kk ls hl)
  | iushr => obtain ⟨x, y, r, hs, a, b⟩ := z_i2_inv h; subst a; subst b; subst hs; exact lv_iushr hexec hb hdg rfl (kk ls hl)
  | i2b => obtain ⟨x, r, hs, a, b⟩ := z_i1_inv h; subst a; subst b; subst hs; exact lv_i2b hexec hb hdg rfl (kk ls hl)
  | i2s => obtain ⟨x, r, hs, a, b⟩ := z_i1_inv h; subst a; subst b; subst hs; exact lv_i2s hexec hb hdg rfl (kk ls hl)
  | i2c => obtain ⟨x, r, hs, a, b⟩ := z_i1_inv h; subst a; subst b; subst hs; exact lv_i2c hexec hb hdg rfl (kk ls hl)
  | i2l =>
    simp only [z_pure] at h
    split at h
    · obtain ⟨a, b⟩ := z1_inv h; subst a; subst b; exact lv_i2l hexec hb hdg rfl (kk ls hl)
    · cases h
  | l2i =>
    simp only [z_pure] at h
    split at h
    · obtain ⟨a, b⟩ := z1_inv h; subst a; subst b; exact lv_l2i hexec hb hdg rfl (kk ls hl)
    · cases h
  | ladd => obtain ⟨x, y, r, hs, a, b⟩ := z_l2_inv h; subst a; subst b; subst hs; exact lv_ladd hexec hb hdg (kk ls hl)
  | lmul => obtain ⟨x, y, r, hs, a, b⟩ := z_l2_inv h; subst a; subst b; subst hs; exact lv_lmul hexec hb hdg (kk ls hl)
  | ldiv => obtain ⟨x, y, r, hs, a, hy, b⟩ := z_m2_inv h; subst a; subst b; subst hs; exact lv_ldiv hexec hb hdg hy (kk ls hl)
  | lrem => obtain ⟨x, y, r, hs, a, hy, b⟩ := z_m2_inv h; subst a; subst b; subst hs; exact lv_lrem hexec hb hdg hy (kk ls hl)
  | lcmp =>
    simp only [z_pure] at h
    split at h
    · obtain ⟨a, b⟩ := z1_inv h; subst a; subst b; exact W.lcmp hexec hb hdg (kk ls hl)
    · cases h
  | dup =>
    simp only [z_pure] at h
    split at h
    · split at h
      · rename_i hc
        obtain ⟨a, b⟩ := z1_inv h; subst a; subst b; exact lv_dup hexec hb hdg (by rw [z_rv_cat hE]; exact hc) (kk ls hl)
      · cases h
    · cases h
  | dup_x1 =>
    simp only [z_pure] at h
    split at h
    · split at h
      · rename_i hc
        obtain ⟨a, b⟩ := z1_inv h; subst a; subst b; exact lv_dup_x1 hexec hb hdg (by rw [z_rv_cat hE]; exact hc.1) (by rw [z_rv_cat hE]; exact hc.2) (kk ls hl)
      · cases h
    · cases h
  | dup2 =>
    simp only [z_pure] at h
    split at h
    · split at h
      · rename_i hc
        obtain ⟨a, b⟩ := z1_inv h; subst a; subst b; exact lv_dup2_11 hexec hb hdg (by rw [z_rv_cat hE]; exact hc.1) (by rw [z_rv_cat hE]; exact hc.2) (kk ls hl)
      · cases h
    · cases h
  | pop =>
    simp only [z_pure] at h
    split at h
    · split at h
      · rename_i hc
        obtain ⟨a, b⟩ := z1_inv h; subst a; subst b; exact lv_pop hexec hb hdg (by rw [z_rv_cat hE]; exact hc) (kk ls hl)
      · cases h
    · cases h
  | goto off => obtain ⟨a, tgt, ht, b⟩ := zj_inv h; subst a; subst b; exact lv_goto hexec hb hdg ht (kk ls hl)
  | ifCond k off =>
    simp only [z_pure] at h
    split at h
    · refine z_if_ok hexec hb hdg h (fun ho => ?_)
      have K := kk ls (by rw [ho]; exact hl)
      rw [ho] at K
      exact K
    · cases h
  | if_icmp k off =>
    simp only [z_pure] at h
    split at h
    · refine z_icmp_ok hexec hb hdg h (fun ho => ?_)
      have K := kk ls (by rw [ho]; exact hl)
      rw [ho] at K
      exact K
    · cases h
  | ifnonnull off =>
    simp only [z_pure] at h
    split at h
    · obtain ⟨a, tgt, ht, b⟩ := zj_inv h; subst a; subst b; exact lv_ifnonnull hexec hb hdg ht (kk ls hl)
    · cases h
  | tableswitch d lo' hi offs =>
    simp only [z_pure] at h
    split at h
    · split at h
      · rename_i hc
        obtain ⟨-, tgt, ht, b⟩ := zj_inv h; subst b; exact lv_tableOut hexec hb hdg hc ht (kk ls hl)
      · rename_i hc
        split at h
        · rename_i off ho
          obtain ⟨-, tgt, ht, b⟩ := zj_inv h; subst b; exact lv_tableIn hexec hb hdg (fun z => hc (Or.inl z)) (fun z => hc (Or.inr z)) ho ht (kk ls hl)
        · cases h
    · cases h
  | lookupswitch d ps =>
    simp only [z_pure] at h
    split at h
    · split at h
      · rename_i hc
        obtain ⟨-, tgt, ht, b⟩ := zj_inv h; subst b; exact lv_lookup hexec hb hdg hc rfl ht (kk ls hl)
      · cases h
    · cases h
  | _ => simp [z_pure] at h
end ZP
