/-! THE CLAIM OUT OF ONE WALK OF THE LAW'S BODY. Your part is whole_start (and what it stands on); all else here is the same for every law, but numbers. -/
def R_law : String := "TooHotTooColdLaw"
def lw_P (b : Addr) (xs : List Int32) (args : Array Value) (s : State) : Prop := args = #[.ref b] ∧ s.IntsAt b xs ∧ xs.length ≤ 3584 ∧ (Jvm.Cond.and given_1 narrow_1).before args s = true
def lw_Q (_ : Array Value) (s : State) (o : Outcome) (t : State) : Prop := o = .returned (some (.int 1)) ∧ Framed s o t [] 600000 7302250
def lw_Z (below : List Frame) (a : Array Value) (s : State) : State → Prop := fun t => ∃ o, t.status = .running ∧ Ended t below o ∧ lw_Q a s o t
/-- the law's own end, with 1 on the stack, nothing written that was there before, its room as the claim has it -/
theorem lw_ret {p : Program} {l : Launch} {e : Env} {s : State} {m : MethodId} {below : List Frame} {meth : Method} {c : Code} {b : Nat} (hx : p.tables.exec = Jvm.exec) (hb : c.code = code) (hr : meth.sig.returnType = ret) (hlocks : meth.locks = false) {pc : Nat} {H : Heap} {ls : Array Slot} (hdg : decode code pc = .ok (.ireturn, 1)) : W p l e room_1 s m #[Value.ref b] below meth c H [] 600000 7302250 (lw_Z below #[Value.ref b] s) (F0 m pc ls [.int 1]) := by
  intro T hT X
  obtain ⟨fs, hret, hrun, hended, hW, hframe⟩ := X.leave (v := some (.int 1)) (hlocks := hlocks) (fun h => by rw [hr] at h; cases h)
  have hmeth' : T.vm.method? m = some meth := X.method'
  refine ⟨T.setFrames fs, ?_, .returned (some (.int 1)), hrun, hended, rfl, ⟨_, rfl⟩, hW, hframe⟩
  jvm_step X.here [X.here.top, hx, hb, hdg, hmeth', hr, ret, narrow_b1]
  (try refine ⟨rfl, ?_⟩); (try refine ⟨rfl, ?_⟩)
  first | (intro acts; rw [hret _ acts rfl rfl rfl]) | rw [hret _ _ rfl rfl rfl]
  exact Steps.refl _
/-- what holds at the law's entry: the machine, the code, the tables' words (any of lw_tbl by 'hts w (by decide +kernel)'), the script of L ints xs at the cell b, what the Statement gives of the start (any of its parts by flat_of_before) -/
def lw_At (p : Program) (s : State) (m : MethodId) (meth : Method) (c : Code) (b L : Nat) (xs : Nat → Int32) : Prop :=
  p.tables.exec = Jvm.exec ∧ c.code = code ∧ meth.sig.returnType = ret ∧ c.maxLocals = 4 ∧ s.vm.findClass R_law = some m.cls ∧ (∀ w ∈ lw_tbl, w.before #[Value.ref b] s = true) ∧ va_X b L xs s s.heap ∧ b < s.heap.size ∧ meth.locks = false ∧ (Jvm.Cond.and given_1 narrow_1).before #[Value.ref b] s = true
/-! THE START: what the Statement gives of it, in the picture's words. -/
def zG0 : zG := (0, 0, fun _ => 0, fun _ => 0, fun _ _ => none)
def zI0 : zI := fun _ _ => 0
/-- WHAT IS LEFT TO SHOW: the picture of the law comes to its end with 1, in the room -/
def zRuns : Prop := ∀ X : Nat × (Nat → Int32), X.1 ≤ 3584 → ∃ (f : Nat) (G' : zG) (I' : zI), evF X f 1000 0 0 (z_ent 4 [zX 0]) [] zG0 zI0 = some (some (.int 1), G', I') ∧ zn G' ≤ 600000 ∧ zs G' ≤ 7302250
def zTm (i : Nat) : Term := match zS[i]? with
  | some q => .string (zR q.1.1) q.1.2
  | none => .string "" 0
def zLen : List Nat := (List.range 13).map (fun i => (zTb i).length)
def zByt : List (List Int32) := (List.range 13).map zTb
abbrev zFl : List Cond := flatC (Jvm.Cond.and given_1 narrow_1)
set_option maxRecDepth 1000000 in
theorem zf_ex : ∀ i, i < 13 → Cond.exactly (zTm i) "java/lang/String" ∈ zFl := by decide +kernel
set_option maxRecDepth 1000000 in
theorem zf_co : ∀ i, i < 13 → Cond.eq (.field (zTm i) "java/lang/String" "coder" "B") (.int 0) ∈ zFl := by decide +kernel
set_option maxRecDepth 1000000 in
theorem zf_ar : ∀ i, i < 13 → Cond.arrayOf (.field (zTm i) "java/lang/String" "value" "[B") .byte ∈ zFl := by decide +kernel
set_option maxRecDepth 1000000 in
theorem zf_le : ∀ i, i < 13 → Cond.eq (.length (.field (zTm i) "java/lang/String" "value" "[B")) (.int (Int32.ofNat (zLen.getD i 0))) ∈ zFl := by decide +kernel
set_option maxRecDepth 1000000 in
theorem zf_el : ∀ i, i < 13 → ∀ j, j < zLen.getD i 0 → Cond.eq (.elem (.field (zTm i) "java/lang/String" "value" "[B") (.int (Int32.ofNat j))) (.int ((zByt.getD i []).getD j 0)) ∈ zFl := by decide +kernel
set_option maxRecDepth 1000000 in
theorem zf_n0 : ∀ j, j < 13 → 0 < j → Cond.not (Cond.eq (zTm 0) (zTm j)) ∈ zFl := by decide +kernel
set_option maxRecDepth 1000000 in
theorem zf_n1 : ∀ j, j < 13 → 1 < j → Cond.not (Cond.eq (zTm 1) (zTm j)) ∈ zFl := by decide +kernel
set_option maxRecDepth 1000000 in
theorem zf_n2 : ∀ j, j < 13 → 2 < j → Cond.not (Cond.eq (zTm 2) (zTm j)) ∈ zFl := by decide +kernel
set_option maxRecDepth 1000000 in
theorem zf_n3 : ∀ j, j < 13 → 3 < j → Cond.not (Cond.eq (zTm 3) (zTm j)) ∈ zFl := by decide +kernel
set_option maxRecDepth 1000000 in
theorem zf_n4 : ∀ j, j < 13 → 4 < j → Cond.not (Cond.eq (zTm 4) (zTm j)) ∈ zFl := by decide +kernel
set_option maxRecDepth 1000000 in
theorem zf_n5 : ∀ j, j < 13 → 5 < j → Cond.not (Cond.eq (zTm 5) (zTm j)) ∈ zFl := by decide +kernel
set_option maxRecDepth 1000000 in
theorem zf_n6 : ∀ j, j < 13 → 6 < j → Cond.not (Cond.eq (zTm 6) (zTm j)) ∈ zFl := by decide +kernel
set_option maxRecDepth 1000000 in
theorem zf_n7 : ∀ j, j < 13 → 7 < j → Cond.not (Cond.eq (zTm 7) (zTm j)) ∈ zFl := by decide +kernel
set_option maxRecDepth 1000000 in
theorem zf_n8 : ∀ j, j < 13 → 8 < j → Cond.not (Cond.eq (zTm 8) (zTm j)) ∈ zFl := by decide +kernel
set_option maxRecDepth 1000000 in
theorem zf_n9 : ∀ j, j < 13 → 9 < j → Cond.not (Cond.eq (zTm 9) (zTm j)) ∈ zFl := by decide +kernel
set_option maxRecDepth 1000000 in
theorem zf_n10 : ∀ j, j < 13 → 10 < j → Cond.not (Cond.eq (zTm 10) (zTm j)) ∈ zFl := by decide +kernel
set_option maxRecDepth 1000000 in
theorem zf_n11 : ∀ j, j < 13 → 11 < j → Cond.not (Cond.eq (zTm 11) (zTm j)) ∈ zFl := by decide +kernel
theorem zf_lt : ∀ i j, i < j → j < 13 → Cond.not (Cond.eq (zTm i) (zTm j)) ∈ zFl := by
  intro i j h hj
  have hi : i < 12 := by omega
  match i, hi with
  | 0, _ => exact zf_n0 j hj h
  | 1, _ => exact zf_n1 j hj h
  | 2, _ => exact zf_n2 j hj h
  | 3, _ => exact zf_n3 j hj h
  | 4, _ => exact zf_n4 j hj h
  | 5, _ => exact zf_n5 j hj h
  | 6, _ => exact zf_n6 j hj h
  | 7, _ => exact zf_n7 j hj h
  | 8, _ => exact zf_n8 j hj h
  | 9, _ => exact zf_n9 j hj h
  | 10, _ => exact zf_n10 j hj h
  | 11, _ => exact zf_n11 j hj h
  | k + 12, hk => omega
theorem zf_ne : ∀ i, i < 13 → ∀ j, j < 13 → i ≠ j → (Cond.not (Cond.eq (zTm i) (zTm j)) ∈ zFl ∨ Cond.not (Cond.eq (zTm j) (zTm i)) ∈ zFl) := by
  intro i hi j hj h
  rcases Nat.lt_or_gt_of_ne h with q | q
  · exact Or.inl (zf_lt i j q hj)
  · exact Or.inr (zf_lt j i q hi)
abbrev zKt : Term := .static "TooHotTooCold" "KIND_ABOVE" "[I"
set_option maxRecDepth 1000000 in
theorem zf_ka : Cond.arrayOf zKt .int ∈ zFl ∧ Cond.eq (.length zKt) (.int (Int32.ofNat 6)) ∈ zFl ∧ ∀ j, j < 6 → Cond.eq (.elem zKt (.int (Int32.ofNat j))) (.int (zKA j)) ∈ zFl := by decide +kernel
set_option maxRecDepth 1000000 in
theorem zf_st : Cond.eq (.static "java/lang/String" "COMPACT_STRINGS" "Z") (.int 1) ∈ zFl ∧ Cond.isRef (.static "jdk/internal/util/Preconditions" "SIOOBE_FORMATTER" "Ljava/util/function/BiFunction;") ∈ zFl := by decide +kernel
set_option maxRecDepth 1000000 in
theorem zf_ls : Cond.laysStatic "TooHotTooCold" "KIND_ABOVE" "[I" ∈ lw_tbl ∧ Cond.laysStatic "java/lang/String" "COMPACT_STRINGS" "Z" ∈ lw_tbl ∧ Cond.laysStatic "jdk/internal/util/Preconditions" "SIOOBE_FORMATTER" "Ljava/util/function/BiFunction;" ∈ lw_tbl := by decide +kernel
set_option maxRecDepth 1000000 in
theorem zf_ini : Cond.initialized "TooHotTooCold" ∈ lw_tbl ∧ Cond.initialized "java/lang/String" ∈ lw_tbl ∧ Cond.initialized "jdk/internal/util/Preconditions" ∈ lw_tbl ∧ Cond.arrayClass .int ∈ lw_tbl ∧ Cond.arrayOver (.array .int) ∈ lw_tbl ∧ Cond.arrayOver (.object "TooHotTooCold$Law") ∈ lw_tbl := by decide +kernel
set_option maxRecDepth 1000000 in
theorem zSr_ok : (zS.zip zSp).all (fun q => decide (lw_tbl[q.2]? = some (.stringRef (zR q.1.1.1) q.1.1.2 q.1.2.2))) = true := by decide +kernel
theorem zSr_len : zS.length = zSp.length := by decide +kernel
theorem zS_tm : ∀ q ∈ zS, zTm q.2.1 = .string (zR q.1.1) q.1.2 := by decide +kernel
theorem zLen_at : ∀ i, i < 13 → zLen.getD i 0 = (zTb i).length ∧ zByt.getD i [] = zTb i ∧ zLen.getD i 0 < 2 ^ 31 := by decide +kernel
set_option maxHeartbeats 4000000 in
/-- the law, from its entry, if its picture runs -/
theorem z_start (hrun : zRuns) {p : Program} {e : Env} {s : State} {m : MethodId} {below : List Frame} {meth : Method} {c : Code} (l : Launch) {b L : Nat} {xs : Nat → Int32} (hL : L ≤ 3584) (C0 : lw_At p s m meth c b L xs) (hname : meth.name = "law") :
    W p l e room_1 s m #[Value.ref b] below meth c s.heap [] 0 0 (lw_Z below #[Value.ref b] s) (entryFrame m ([Value.ref b] : List Value).toArray 4) := by
  obtain ⟨hx, hb, hr, hml, hown, hts, hX, hbl, hlocks, hgv⟩ := id C0
  have hfl : ∀ w ∈ zFl, w.before #[Value.ref b] s = true := flat_of_before _ hgv
  have hA : ∀ a : Nat, a < s.heap.size → ¬ (fun a => s.heap.size ≤ a) a := fun a h => Nat.not_le.mpr h
  have htg : ∀ w ∈ zGW, w.before #[Value.ref b] s = true := fun w h => hts w (List.mem_filter.mp h).1
  obtain ⟨adK, adV, hS, hev⟩ := vk_Sof (A := fun a => s.heap.size ≤ a) (N := 13) (tm := zTm) (len := zLen) (byt := zByt) (fun i hi => (zLen_at i hi).2.2) (fun i hi => hfl _ (zf_ex i hi)) (fun i hi => hfl _ (zf_co i hi)) (fun i hi => hfl _ (zf_ar i hi)) (fun i hi => hfl _ (zf_le i hi)) (fun i hi j hj => hfl _ (zf_el i hi j hj))
    (fun i j hi hj hne => (zf_ne i hi j hj hne).imp (hfl _) (hfl _)) hA
  obtain ⟨t1, ht1, hT1⟩ := va_Tof (A := fun a => s.heap.size ≤ a) (tm := zKt) (ty := .int) (N := 6) (f := fun j => .int (zKA j)) (by decide) (hfl _ zf_ka.1) (va_eqt (hfl _ zf_ka.2.1)) (fun j hj => va_eqt (hfl _ (zf_ka.2.2 j hj))) hA
  have hZ1 := va_Zof (A := fun a => s.heap.size ≤ a) (hts _ zf_ls.1) (hts _ zf_ini.1) ht1 hA
  have hZ2 := va_Zof (A := fun a => s.heap.size ≤ a) (hts _ zf_ls.2.1) (hts _ zf_ini.2.1) (va_eqi (hfl _ zf_st.1)) hA
  have hZq := va_Zqof (A := fun a => s.heap.size ≤ a) (hts _ zf_ls.2.2) (hts _ zf_ini.2.2.1) (hfl _ zf_st.2) hA
  obtain ⟨qv, hqc, hZ3⟩ : ∃ qv : Value, qv.category = 1 ∧ va_Z "jdk/internal/util/Preconditions" "SIOOBE_FORMATTER" "Ljava/util/function/BiFunction;" qv (fun a => s.heap.size ≤ a) s s.heap := by
    rcases hZq with h | ⟨t, h⟩
    · exact ⟨.null, rfl, h⟩
    · exact ⟨.ref t, rfl, h⟩
  obtain ⟨E, hE0, hE1, hES, hEV, hE40, hEok⟩ : ∃ E : Nat → Value, E 0 = .ref b ∧ E 1 = .ref t1 ∧ (∀ i, i < 13 → E (i + 2) = .ref (adK i)) ∧ (∀ i, i < 13 → E (i + 20) = .ref (adV i)) ∧ E 40 = qv ∧ z_Eok E := by
    refine ⟨fun j => if j = 40 then qv else .ref (if j = 0 then b else if j = 1 then t1 else if j < 15 then adK (j - 2) else adV (j - 20)), rfl, rfl, fun i hi => ?_, fun i hi => ?_, rfl, fun j => ?_, fun j hj => ?_⟩
    · dsimp only
      rw [if_neg (by omega), if_neg (by omega), if_neg (by omega), if_pos (by omega), show i + 2 - 2 = i by omega]
    · dsimp only
      rw [if_neg (by omega), if_neg (by omega), if_neg (by omega), if_neg (by omega), show i + 20 - 20 = i by omega]
    · dsimp only
      split
      · exact hqc
      · rfl
    · dsimp only
      rw [if_neg (by omega)]
      exact ⟨_, rfl⟩
  obtain ⟨c0, i0, hk0⟩ := u_known (C := RX0) (T := TX0) (N := 9) (n := 9) hts (fun w h => (List.mem_filter.mp (zCl_in 0 _ rfl w h)).1) ((z_links_of htg).2.2.2.2.2.2.2.2 0 _ rfl).1
  obtain ⟨c1, i1, hk1⟩ := u_known (C := RX1) (T := TX1) (N := 4) (n := 4) hts (fun w h => (List.mem_filter.mp (zCl_in 1 _ rfl w h)).1) ((z_links_of htg).2.2.2.2.2.2.2.2 1 _ rfl).1
  obtain ⟨c2, i2, hk2⟩ := u_known (C := RX2) (T := TX2) (N := 5) (n := 5) hts (fun w h => (List.mem_filter.mp (zCl_in 2 _ rfl w h)).1) ((z_links_of htg).2.2.2.2.2.2.2.2 2 _ rfl).1
  obtain ⟨c3, i3, hk3⟩ := u_known (C := RX3) (T := TX3) (N := 10) (n := 10) hts (fun w h => (List.mem_filter.mp (zCl_in 3 _ rfl w h)).1) ((z_links_of htg).2.2.2.2.2.2.2.2 3 _ rfl).1
  obtain ⟨c4, i4, hk4⟩ := u_known (C := RX4) (T := TX4) (N := 13) (n := 13) hts (fun w h => (List.mem_filter.mp (zCl_in 4 _ rfl w h)).1) ((z_links_of htg).2.2.2.2.2.2.2.2 4 _ rfl).1
  obtain ⟨c5, i5, hk5⟩ := u_known (C := RX5) (T := TX5) (N := 39) (n := 39) hts (fun w h => (List.mem_filter.mp (zCl_in 5 _ rfl w h)).1) ((z_links_of htg).2.2.2.2.2.2.2.2 5 _ rfl).1
  obtain ⟨y6, k6, f6, g6, comp6, h6⟩ : ∃ (y : ClassId) (k : Class), s.vm.findClass ("[" ++ (FieldType.int).toString) = some y ∧ s.vm.classes[y]? = some k ∧ ∃ comp, k.kind = .array comp .int := by
    have h := hts _ zf_ini.2.2.2.1
    obtain ⟨y, k, comp, a1, a2, a3⟩ := Cond.arrayClass_spec h
    exact ⟨y, k, a1, a2, comp, a3⟩
  have hAo : va_AO "TooHotTooCold$Law" s := hts _ zf_ini.2.2.2.2.2
  have hAA : z_AA s := hts _ zf_ini.2.2.2.2.1
  obtain ⟨comp7, y7, k7, a71, a72, a73, a74, a75⟩ := Cond.arrayOver_spec hAo
  obtain ⟨comp8, y8, k8, a81, a82, a83, a84, a85⟩ := Jvm.Stand.arrayOver_specB hAA
  obtain ⟨D, cy, hK⟩ : ∃ (D : va_G) (cy : Nat → ClassId), va_K D zCl (z_tys cy) s := by
    refine ⟨(fun k => if k = 0 then c0 else if k = 1 then c1 else if k = 2 then c2 else if k = 3 then c3 else if k = 4 then c4 else c5, fun k => if k = 0 then i0 else if k = 1 then i1 else if k = 2 then i2 else if k = 3 then i3 else if k = 4 then i4 else i5), fun k => if k = 6 then y6 else if k = 7 then y7 else y8, fun k q hq => ?_, fun k q hq => ?_⟩
    · match k, hq with
      | 0, hq => cases hq; exact hk0
      | 1, hq => cases hq; exact hk1
      | 2, hq => cases hq; exact hk2
      | 3, hq => cases hq; exact hk3
      | 4, hq => cases hq; exact hk4
      | 5, hq => cases hq; exact hk5
      | k + 6, hq => simp [zCl] at hq
    · match k, hq with
      | 0, hq => cases hq; exact ⟨fun N z => ⟨(fun k h => by cases h), k6, g6, comp6, h6⟩, f6⟩
      | 1, hq => cases hq; exact ⟨fun N z => ⟨(fun k h => by cases h), k7, a73, comp7, a74⟩, k7, comp7, a73, a74, a71, a75⟩
      | 2, hq => cases hq; exact ⟨fun N z => ⟨(fun k h => by cases h), k8, a83, comp8, a84⟩, a85⟩
      | k + 3, hq => simp [z_tys] at hq
  have hstr : z_str s E := by
    intro q hq
    have hlt := zS_lt q hq
    obtain ⟨k, hk⟩ := z_zip zSr_len zSr_ok hq
    have hw := hts _ (List.mem_of_getElem? (of_decide_eq_true hk))
    have he := hev q.2.1 hlt
    rw [zS_tm q hq] at he
    exact ⟨_, hES _ hlt, vk_R.of hw he⟩
  have hnw : z_nw s := by
    refine ⟨fun o i kd μ hm hk => va_Nw.of rfl (A := #[Value.ref b]) (hts _ ?_), va_Nw.of rfl (A := #[Value.ref b]) (hts _ zcast)⟩
    have h := (zC_at hm).1
    rcases hk with hk | hk <;> subst hk <;> exact h
  have hO : z_out s E (L, xs) s.heap.size := by
    refine ⟨fun j q hj => ?_, fun j q hj => ?_, by rw [hE1]; exact hZ1, hZ2, by rw [hE40]; exact hZ3, fun j h2 h15 => ?_⟩
    · unfold zXa at hj
      by_cases h0 : j = 0
      · subst h0
        rw [if_pos rfl] at hj
        cases hj
        obtain ⟨scr, g1, g2, g3, g4, g5⟩ := hX
        exact ⟨b, hE0, scr, g1, g2, g3, Nat.le_of_eq g4.symm, by rw [g4], g5, Nat.not_le.mpr hbl⟩
      · rw [if_neg h0] at hj
        by_cases h1 : j = 1
        · subst h1
          rw [if_pos rfl] at hj
          cases hj
          exact ⟨t1, hE1, hT1⟩
        · rw [if_neg h1] at hj
          cases hj
    · unfold zXb at hj
      by_cases h0 : 20 ≤ j ∧ j < 33
      · rw [if_pos h0] at hj
        cases hj
        obtain ⟨i, rfl⟩ : ∃ i, j = i + 20 := ⟨j - 20, by omega⟩
        have hi : i < 13 := by omega
        rw [show i + 20 - 20 = i by omega]
        obtain ⟨z1, z2, -⟩ := zLen_at i hi
        have := (hS.1 i hi).2.2.2
        rw [z1, z2] at this
        exact ⟨adV i, hEV i hi, this⟩
      · rw [if_neg h0] at hj
        cases hj
    · obtain ⟨i, rfl⟩ : ∃ i, j = i + 2 := ⟨j - 2, by omega⟩
      have hi : i < 13 := by omega
      obtain ⟨z1, z2, z3, -⟩ := hS.1 i hi
      exact ⟨adK i, adV i, hES i hi, by rw [show i + 2 + 18 = i + 20 by omega]; exact hEV i hi, z1, z2, z3⟩
  obtain ⟨f, G', I', hev2, hn, hs2⟩ := hrun (L, xs) hL
  obtain ⟨-, -, go⟩ := z_sound (l := l) f 1000 0 0 _ _ _ _ _ _ _ hev2
  have hl := lv_entry ([.ref b]) (n := 4) (Nat.le_of_ble_eq_true rfl)
  rw [lg_entry_eq]
  generalize (lg_sl ([.ref b]) ++ List.replicate (4 - (lg_sl ([.ref b])).length) Slot.unset).toArray = ls at hl ⊢
  have hl2 : z_lr s.heap.size E ls (z_ent 4 [zX 0]) 4 := z_ent_ok hEok (by decide) (by
    rw [show ([zX 0].map (z_rv s.heap.size E)) = [E 0] from rfl, hE0]
    exact hl)
  refine go _ rfl p e room_1 s m #[Value.ref b] below meth c s.heap [] 0 0 _ ls D cy s.heap.size E hx hb hml hown hname ⟨htg, z_words_of htg hstr, hEok, hK, hAo, hAA, z_links_of htg, hO⟩ hnw hstr (Nat.le_refl _) ⟨rfl, fun k q hk => absurd (z_lay_inv hk).1 (Nat.not_lt_zero _), va_S.rf⟩ hl2 (by decide) (by decide) (by show 0 + zn G' ≤ 600000 + 0; omega) (by show 0 + zs G' ≤ 7302250 + 0; omega) (Nat.zero_le _) (Nat.zero_le _) ?_
  intro H' locs' c' s' pc' ls' st' i n hdg hz hp hc1 hc2
  have hc1 : c' + 0 = 0 + zn G' := hc1
  have hc2 : s' + 0 = 0 + zs G' := hc2
  cases i with
  | ireturn =>
    simp only [z_ret] at hz
    split at hz
    · split at hz
      · split at hz
        · rename_i hn1
          obtain ⟨rfl, -⟩ := hn1
          cases hz
          refine va_forget (fun q hq => hp.2.2.2.2 q hq) ?_
          refine W.widen (k := 600000) (n := 7302250) (by omega) (by omega) ?_
          exact lw_ret hx hb hr hlocks hdg
        · cases hz
      · cases hz
    · cases hz
  | lreturn =>
    simp only [z_ret] at hz
    split at hz
    · split at hz
      · cases hz
      · cases hz
    · cases hz
  | areturn =>
    simp only [z_ret] at hz
    split at hz
    · split at hz
      · split at hz
        · cases hz
        · cases hz
      · split at hz
        · cases hz
        · cases hz
      · cases hz
    · cases hz
  | return_ =>
    simp only [z_ret] at hz
    split at hz
    · split at hz
      · cases hz
      · cases hz
    · cases hz
  | _ => simp [z_ret] at hz
