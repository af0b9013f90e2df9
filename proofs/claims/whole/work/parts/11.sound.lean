theorem z_heap_mono {X : Nat × (Nat → Int32)} {y : MethodName} {own n pc : Nat} {st : List Value} {G : zG} {I : zI} {i : Instr} {o : Nat × List Value × zG × zI} (h : z_heap X y own n pc st G I i = some o) : zn G ≤ zn o.2.2.1 ∧ zs G ≤ zs o.2.2.1 := by
  have same : ∀ {a : Nat} {b : List Value} {J : zI}, some (a, b, G, J) = some o → zn G ≤ zn o.2.2.1 ∧ zs G ≤ zs o.2.2.1 := fun h => by cases h; exact ⟨Nat.le_refl _, Nat.le_refl _⟩
  have sameR : ∀ {a : Nat} {b : List Value} {J : zI} {R : Nat → Nat → Option Nat}, some (a, b, ((zn G, zs G, zk G, zl G, R) : zG), J) = some o → zn G ≤ zn o.2.2.1 ∧ zs G ≤ zs o.2.2.1 := fun h => by cases h; exact ⟨Nat.le_refl _, Nat.le_refl _⟩
  have newc : ∀ {a kd len : Nat} {b : List Value} {J : zI} {r : Nat → Option Nat}, some (a, b, z_new G kd len r, J) = some o → zn G ≤ zn o.2.2.1 ∧ zs G ≤ zs o.2.2.1 := fun h => by cases h; exact ⟨Nat.le_succ _, Nat.le_add_right _ _⟩
  cases i <;> simp only [z_heap] at h <;> first | (cases h; done) | skip
  case multianewarray ix d =>
    split at h
    · split at h
      · cases h
        rename_i k n2 r hc
        have hn2 := z_many_n (G := z_new G 8 n2.toNatClampNeg (fun j => if j < n2.toNatClampNeg then some (zn G + 1 + j) else none)) (I := z_newI G I (fun _ => 0)) k.toNatClampNeg n2.toNatClampNeg
        dsimp only
        rw [hn2.1, hn2.2]
        exact ⟨by show _ ≤ zn G + 1 + _; omega, by show _ ≤ zs G + _ + _; omega⟩
      · cases h
    · cases h
  all_goals
    repeat' (first | exact same h | exact sameR h | exact newc h | (cases h; done) | split at h)
theorem z_prim_mono {own n pc : Nat} {st : List Value} {G : zG} {I : zI} {i : Instr} {o : Nat × List Value × zG × zI} (h : z_prim own n pc st G I i = some o) : zn G ≤ zn o.2.2.1 ∧ zs G ≤ zs o.2.2.1 := by
  have same : ∀ {a : Nat} {b : List Value} {J : zI}, some (a, b, G, J) = some o → zn G ≤ zn o.2.2.1 ∧ zs G ≤ zs o.2.2.1 := fun h => by cases h; exact ⟨Nat.le_refl _, Nat.le_refl _⟩
  have newc : ∀ {a kd len : Nat} {b : List Value} {J : zI} {r : Nat → Option Nat}, some (a, b, z_new G kd len r, J) = some o → zn G ≤ zn o.2.2.1 ∧ zs G ≤ zs o.2.2.1 := fun h => by cases h; exact ⟨Nat.le_succ _, Nat.le_add_right _ _⟩
  cases i <;> simp only [z_prim] at h <;> first | (cases h; done) | skip
  all_goals
    repeat' (first | exact same h | exact newc h | (cases h; done) | split at h)
/-- a call, taken apart -/
def z_recv (kd own : Nat) (G : zG) (as : List Value) (np : Nat) : Prop := (∃ b tl, as = .ref b :: tl ∧ tl.length = np ∧ (kd = 1 → b < zn G ∧ zk G b = own ∧ own < 6)) ∨ (∃ j tl, as = .retAddr (j + 1) :: tl ∧ tl.length = np ∧ kd = 1 ∧ 2 ≤ j ∧ j < 15 ∧ own = 10)
theorem z_go_inv {own n : Nat} {st : List Value} {G : zG} {k1 k2 : Nat} {recv : Bool} {ix ν : Nat} {as rest : List Value} (h : z_go own n st G k1 k2 recv ix = some (ν, as, rest)) : ∃ kd q, ((own, ix), (kd, ν)) ∈ zC ∧ zM[ν]? = some q ∧ n = 3 ∧ (kd = k1 ∨ kd = k2) ∧ st = as.reverse ++ rest ∧ z_cat rest ≤ 8 ∧ as.length = z_np q recv ∧ z_who kd q.2.2.2.2.1 ν G recv as rest = some (ν, as, rest) := by
  unfold z_go at h
  cases hz : zLk zC own ix with
  | none => rw [hz] at h; cases h
  | some km =>
    rw [hz] at h
    dsimp only at h
    cases hq : zM[km.2]? with
    | none => rw [hq] at h; cases h
    | some q =>
      rw [hq] at h
      dsimp only at h
      by_cases hc : n = 3 ∧ (km.1 = k1 ∨ km.1 = k2) ∧ z_np q recv ≤ st.length ∧ z_cat (st.drop (z_np q recv)) ≤ 8
      · rw [if_pos hc] at h
        obtain ⟨hn, hk, hnp, hcat⟩ := hc
        have e : ν = km.2 ∧ as = (st.take (z_np q recv)).reverse ∧ rest = st.drop (z_np q recv) := by
          unfold z_who at h
          split at h
          · cases h; exact ⟨rfl, rfl, rfl⟩
          · split at h
            · split at h
              · cases h; exact ⟨rfl, rfl, rfl⟩
              · cases h
            · split at h
              · cases h; exact ⟨rfl, rfl, rfl⟩
              · cases h
            · cases h
        obtain ⟨e1, e2, e3⟩ := e
        subst e1
        rw [← e2, ← e3] at h
        refine ⟨km.1, q, zLk_mem hz, hq, hn, hk, by rw [e2, e3, List.reverse_reverse, List.take_append_drop], by rw [e3]; exact hcat, by rw [e2, List.length_reverse, List.length_take]; omega, h⟩
      · rw [if_neg hc] at h; cases h
theorem z_who_recv {kd own μ np : Nat} {G : zG} {as rest : List Value} {o : Nat × List Value × List Value} (h : z_who kd own μ G true as rest = some o) (hl : as.length = np + 1) : z_recv kd own G as np := by
  unfold z_who at h
  dsimp only at h
  split at h
  · rename_i b tl
    split at h
    · rename_i hk
      exact Or.inl ⟨b, tl, rfl, by simpa using hl, hk⟩
    · cases h
  · rename_i j tl
    split at h
    · rename_i hk
      exact Or.inr ⟨j, tl, rfl, by simpa using hl, hk⟩
    · cases h
  · cases h
theorem z_call_inv {own n : Nat} {st : List Value} {G : zG} {i : Instr} {ν : Nat} {as rest : List Value} (h : z_call own n st G i = some (ν, as, rest)) : ∃ ix kd q, ((own, ix), (kd, ν)) ∈ zC ∧ zM[ν]? = some q ∧ n = 3 ∧ st = as.reverse ++ rest ∧ z_cat rest ≤ 8 ∧
    ((i = .invokestatic ix ∧ (kd = 0 ∨ kd = 3) ∧ as.length = q.2.2.2.2.2) ∨ (i = .invokevirtual ix ∧ kd = 1 ∧ z_recv kd q.2.2.2.2.1 G as q.2.2.2.2.2) ∨ (i = .invokespecial ix ∧ (kd = 2 ∨ kd = 4) ∧ z_recv kd q.2.2.2.2.1 G as q.2.2.2.2.2)) := by
  cases i <;> simp only [z_call] at h <;> first | (cases h; done) | skip
  case invokestatic ix =>
    obtain ⟨kd, q, a1, a2, a3, a4, a5, a6, a7, a8⟩ := z_go_inv h
    exact ⟨ix, kd, q, a1, a2, a3, a5, a6, Or.inl ⟨rfl, a4, a7⟩⟩
  case invokevirtual ix =>
    obtain ⟨kd, q, a1, a2, a3, a4, a5, a6, a7, a8⟩ := z_go_inv h
    exact ⟨ix, kd, q, a1, a2, a3, a5, a6, Or.inr (Or.inl ⟨rfl, a4.elim id id, z_who_recv a8 a7⟩)⟩
  case invokespecial ix =>
    obtain ⟨kd, q, a1, a2, a3, a4, a5, a6, a7, a8⟩ := z_go_inv h
    exact ⟨ix, kd, q, a1, a2, a3, a5, a6, Or.inr (Or.inr ⟨rfl, a4, z_who_recv a8 a7⟩)⟩
section ZC
variable {p : Program} {l : Launch} {e : Env} {R : Room} {s : State} {m : MethodId} {args : Array Value} {below : List Frame} {meth : Method} {c : Code} {H : Heap} {locs : List Loc} {cells slots : Nat} {Q : State → Prop}
variable {pc : Nat} {ls : Array Slot} {D : va_G} {cy : Nat → ClassId} {N0 : Nat} {E : Nat → Value}
/-- behind a call -/
theorem z_after {mc ms : Nat} {st0 rest : List Value} {r : Option Value} {G1 : zG} {I1 : zI} {a : Array Value} (hr : va_Run p l e R s m args below meth c H locs cells slots mc ms (F0 m pc ls st0) rest (z_Qc E D cy N0 r G1 I1 a) (fun q => N0 ≤ q)) (hS : va_S (fun q => N0 ≤ q) s.heap H locs)
    (kk : ∀ (H' : Heap) (locs' : List Loc), z_hp D cy N0 s locs' G1 I1 H' → W p l e R s m args below meth c H' locs' (cells + mc) (slots + ms) Q (F0 m (pc + 3) ls ((r.map (z_rv N0 E)).toList ++ rest))) : W p l e R s m args below meth c H locs cells slots Q (F0 m pc ls st0) := by
  intro T hT X
  obtain ⟨v, st₀, t, T', L, h0, X', hL, e1, e2, ⟨hv, hz, hP, hF1, hF2⟩, st⟩ := hr T hT X
  cases hv
  rw [h0] at hF1 hF2
  obtain ⟨t2, a1, b1⟩ := kk T'.heap (locs ++ L) ⟨by rw [e1]; exact hz, by rw [e1]; exact hP, ⟨Nat.le_trans hS.1 (by rw [e1]; exact hF1), fun q h1 h2 => by rw [e1, hF2 q (Nat.lt_of_lt_of_le h1 hS.1) h2]; exact hS.2.1 q h1 h2, fun q hq => by
      rcases List.mem_append.mp hq with h | h
      · exact hS.2.2 q h
      · exact hL q h⟩⟩ T' rfl X'
  exact ⟨t2, st t2 a1, b1⟩
set_option maxHeartbeats 4000000 in
/-- a call of a method that meets its contract -/
theorem z_call_ok {X : Nat × (Nat → Int32)} {own nL d : Nat} {cc : ByteArray} {G G1 : zG} {I I1 : zI} {i : Instr} {n ν : Nat} {st as rest : List Value} {r : Option Value} {q : zMT} (hexec : p.tables.exec = Jvm.exec) (hb : c.code = cc) (hml : c.maxLocals = nL) (hown : s.vm.findClass (zR own) = some m.cls)
    (hC : z_cx s args E X D cy N0) (hnw : z_nw s) (hstr : z_str s E) (hdg : decode cc pc = .ok (i, n)) (h : z_call own n st G i = some (ν, as, rest)) (hq : zM[ν]? = some q) (hx : q.1 ≠ x) (hp : z_hp D cy N0 s locs G I H) (hsz : ls.size = nL) (hfr : d + 1 ≤ R.frames) (hlo : 60 * (d + 1) ≤ R.locals)
    (hM : Met l q.1 (zWs q) (zRm d (zn G1 - zn G) (zs G1 - zs G)) (z_Pc E X D cy N0 G I as) (z_Qc E D cy N0 r G1 I1) (zn G1 - zn G) (zs G1 - zs G) (fun a => N0 ≤ a)) (hf : cells + (zn G1 - zn G) ≤ R.cells ∧ slots + (zs G1 - zs G) ≤ R.slots)
    (kk : ∀ (H' : Heap) (locs' : List Loc), z_hp D cy N0 s locs' G1 I1 H' → W p l e R s m args below meth c H' locs' (cells + (zn G1 - zn G)) (slots + (zs G1 - zs G)) Q (F0 m (pc + 3) ls ((r.toList ++ rest).map (z_rv N0 E)))) : W p l e R s m args below meth c H locs cells slots Q (F0 m pc ls (st.map (z_rv N0 E))) := by
  obtain ⟨hts, hw, hE, hK, hAo, hAA, hL, hO⟩ := hC
  obtain ⟨ix, kd, q2, hmem, hq2, rfl, hst, hcat, hkind⟩ := z_call_inv h
  cases hq.symm.trans hq2
  obtain ⟨hlk1, hlk2, hck⟩ := zC_at hmem
  obtain ⟨rr, hr1, hr2⟩ := zM_at hq
  have hmn : zMn ν = q.1 := by unfold zMn; rw [hq]
  unfold zMw at hr2
  by_cases h9 : rr.2.2.2.2 = 9
  · rw [if_pos h9] at hr2
    exact absurd (of_decide_eq_true hr2) hx
  rw [if_neg h9] at hr2
  simp only [Bool.and_eq_true, decide_eq_true_eq] at hr2
  obtain ⟨⟨⟨⟨⟨hini, hsi⟩, hcls⟩, hpl⟩, hdd⟩, h40⟩ := hr2
  have hini := hts _ (z_has_in hini)
  have hG := zWs_good (List.mem_of_getElem? hq) hx
  have hK' : rr.2.2.2.2 = 0 ∨ rr.2.2.2.2 = 1 ∨ rr.2.2.2.2 = 2 := by
    unfold zCk at hck
    dsimp only at hck
    rw [hr1] at hck
    rcases hkind with ⟨-, hk, -⟩ | ⟨-, hk, -⟩ | ⟨-, hk, -⟩
    · rcases hk with hk | hk <;> subst hk <;> simp at hck <;> exact Or.inl hck
    · subst hk; simp at hck; exact Or.inr (Or.inl hck)
    · rcases hk with hk | hk <;> subst hk <;> simp at hck <;> exact Or.inr (Or.inr hck)
  have hckr : (if kd = 0 ∨ kd = 3 then decide (rr.2.2.2.2 = 0) else if kd = 1 then decide (rr.2.2.2.2 = 1) else if kd = 2 ∨ kd = 4 then decide (rr.2.2.2.2 = 2) else true) = true := by
    unfold zCk at hck
    dsimp only at hck
    rw [hr1] at hck
    exact hck
  have hroom : (zRm d (zn G1 - zn G) (zs G1 - zs G)).frames + 1 ≤ R.frames ∧ 8 + (q.2.2.1 + 11) + (zRm d (zn G1 - zn G) (zs G1 - zs G)).locals ≤ R.locals := ⟨hfr, by show 8 + (q.2.2.1 + 11) + 60 * d ≤ _; omega⟩
  have hPs : ∀ U : State, U.heap = H → s.WarmedH U.vm → z_Pc E X D cy N0 G I as (as.map (z_rv N0 E)).toArray U := fun U hU hW => ⟨rfl, fun t ht => by
      obtain ⟨a, e1, e2⟩ := hstr t ht
      exact ⟨a, e1, e2.warm hW⟩, ⟨fun o i kd μ hm hk => (hnw.1 o i kd μ hm hk).warmM hW, hnw.2.warmC hW⟩, hK.moved hW.alike, hAo.moved hW.alike, hAA.moved hW.alike, hO.go hW.alike (fun a h1 h2 => by rw [hU]; exact hp.2.2.2.1 a h1 h2), by rw [hU]; exact hp.1, by rw [hU]; exact hp.2.1⟩
  have hkk : ∀ (H' : Heap) (locs' : List Loc), z_hp D cy N0 s locs' G1 I1 H' → W p l e R s m args below meth c H' locs' (cells + (zn G1 - zn G)) (slots + (zs G1 - zs G)) Q (F0 m (pc + 3) ls ((r.map (z_rv N0 E)).toList ++ rest.map (z_rv N0 E))) := fun H' locs' hp' => by
    have := kk H' locs' hp'
    rw [List.map_append, ← z_rv_toList] at this
    exact this
  have hrest : ((rest.map (z_rv N0 E)).map fun v => v.category).sum ≤ 8 := by rw [z_cat_rv hE]; exact hcat
  have hS : CallFix p m c cc nL s args zGW (zR own) := ⟨hexec, hb, hml, hown, hts⟩
  rcases hkind with ⟨rfl, hk, hlen⟩ | ⟨rfl, rfl, hrc⟩ | ⟨rfl, hk, hrc⟩
  · have h0 : rr.2.2.2.2 = 0 := by rcases hk with hk | hk <;> subst hk <;> simpa using hckr
    rw [if_pos h0] at hsi
    have hstat := hts _ (z_has_in hsi)
    have hstk : (F0 m pc ls (st.map (z_rv N0 E))).stack = (as.map (z_rv N0 E)).reverse ++ rest.map (z_rv N0 E) := by
      show st.map _ = _
      rw [hst, List.map_append, List.map_reverse]
    rcases hk with hk | hk <;> subst hk
    · have hl := hts _ (hlk2 (by decide) (by decide))
      rw [hmn] at hl
      exact z_after (va_runS hS hM ⟨callB_of q.2.2.2.2.2 hts hG rfl rfl rfl hini hl hdd hroom, hstat⟩ ⟨z_Pc_blind, hPs⟩ rfl (by rw [List.length_map]; exact hlen) hsz hstk (lv_room hrest) hdg hf) hp.2.2 hkk
    · have hl := hnw.1 _ _ _ _ hmem (Or.inl rfl)
      rw [hmn] at hl
      exact z_after (va_runSN hS hM ⟨va_cnB q.2.2.2.2.2 hts hG rfl rfl rfl hl hini hdd hroom, hstat, trivial⟩ ⟨z_Pc_blind, hPs⟩ rfl (by rw [List.length_map]; exact hlen) hsz hstk (lv_room hrest) hdg hf) hp.2.2 hkk
  · have h1 : rr.2.2.2.2 = 1 := by simpa using hckr
    rw [if_neg (by omega), if_pos h1] at hsi
    simp only [Bool.and_eq_true] at hsi
    have hin := hts _ (z_has_in hsi.1)
    have hsel := hts _ (z_has_in hsi.2)
    have hl := hts _ (hlk2 (by decide) (by decide))
    rw [hmn] at hl
    rcases hrc with ⟨b, tl, rfl, htl, hkd⟩ | ⟨j, tl, rfl, htl, -, h2, h15, h10⟩
    · obtain ⟨hb2, hkb, h6⟩ := hkd rfl
      obtain ⟨cq, hcq⟩ := zCl_lt h6
      obtain ⟨g1, g2, g3, g4, g5⟩ := zCl_ty _ _ hcq
      have hrecv := va_recv (cl := zCl) (D := D) (tys := z_tys cy) hK hp.2.1 (ci := q.2.2.2.2.1) (q0 := b) hcq ((z_lay_get hb2).trans (by rw [z_ce_obj hkb h6]))
      rw [g5, ← hcls] at hrecv
      have hstk : (F0 m pc ls (st.map (z_rv N0 E))).stack = (tl.map (z_rv N0 E)).reverse ++ .ref (N0 + b) :: rest.map (z_rv N0 E) := by
        show st.map _ = _
        rw [hst, List.map_append, List.map_reverse, List.map_cons, List.reverse_cons, List.append_assoc]
        rfl
      exact z_after (va_runV hS hM ⟨callB_of q.2.2.2.2.2 hts hG rfl rfl rfl hini hl hdd hroom, hin, hsel⟩ ⟨z_Pc_blind, hrecv, hPs⟩ rfl (by rw [List.length_map]; exact htl) hsz hstk (lv_room hrest) hdg hf) hp.2.2 hkk
    · obtain ⟨t, t2, e1, e2, k1, k2, k3⟩ := hO.2.2.2.2.2 j h2 h15
      have hrecv : ∃ cell : Cell, H[t]? = some cell ∧ cell.vm.isStatics = false ∧ s.vm.findClass "java/lang/String" = some cell.cls := by
        obtain ⟨cell, h1, h2, h3, -⟩ := k1.kept hp.2.2.2.1
        exact ⟨cell, h1, h2, h3⟩
      have hcs : q.1.cls = "java/lang/String" := by rw [hcls, h10]; rfl
      have hsel2 : (Cond.selects "java/lang/String" q.1 q.1).before args s = true := by rw [← hcs]; exact hsel
      have hstk : (F0 m pc ls (st.map (z_rv N0 E))).stack = (tl.map (z_rv N0 E)).reverse ++ .ref t :: rest.map (z_rv N0 E) := by
        show st.map _ = _
        rw [hst, List.map_append, List.map_reverse, List.map_cons, List.reverse_cons, List.append_assoc, ← e1]
        rfl
      exact z_after (va_runV hS hM ⟨callB_of q.2.2.2.2.2 hts hG rfl rfl rfl hini hl hdd hroom, hin, hsel2⟩ ⟨z_Pc_blind, hrecv, fun U hU hW => by have := hPs U hU hW; rw [List.map_cons, show z_rv N0 E (.retAddr (j + 1)) = E j from rfl, e1] at this; exact this⟩ rfl (by rw [List.length_map]; exact htl) hsz hstk (lv_room hrest) hdg hf) hp.2.2 hkk
  · have h2 : rr.2.2.2.2 = 2 := by rcases hk with hk | hk <;> subst hk <;> simpa using hckr
    rw [if_neg (by omega), if_neg (by omega)] at hsi
    simp only [Bool.and_eq_true, decide_eq_true_eq] at hsi
    obtain ⟨⟨hin, hnm⟩, hret⟩ := hsi
    have hin := hts _ (z_has_in hin)
    rcases hrc with ⟨b, tl, rfl, htl, -⟩ | ⟨j, tl, rfl, htl, h1, -⟩
    · have hstk : (F0 m pc ls (st.map (z_rv N0 E))).stack = (tl.map (z_rv N0 E)).reverse ++ .ref (N0 + b) :: rest.map (z_rv N0 E) := by
        show st.map _ = _
        rw [hst, List.map_append, List.map_reverse, List.map_cons, List.reverse_cons, List.append_assoc]
        rfl
      have hwe : zWs q = Cond.code q.1 q.2.1 q.2.2.1 none :: zGW := by unfold zWs; rw [hret]
      rcases hk with hk | hk <;> subst hk
      · have hl := hts _ (hlk2 (by decide) (by decide))
        rw [hmn] at hl
        exact z_after (va_runI hS hM ⟨callB_of q.2.2.2.2.2 hts hG hwe rfl rfl hini hl hdd hroom, hnm, hin⟩ ⟨z_Pc_blind, hPs⟩ rfl (by rw [List.length_map]; exact htl) hsz hstk (lv_room hrest) hdg hf) hp.2.2 hkk
      · have hl := hnw.1 _ _ _ _ hmem (Or.inr rfl)
        rw [hmn] at hl
        exact z_after (va_runIN hS hM ⟨va_cnB q.2.2.2.2.2 hts hG hwe rfl rfl hl hini hdd hroom, hnm, hin⟩ ⟨z_Pc_blind, hPs⟩ rfl (by rw [List.length_map]; exact htl) hsz hstk (lv_room hrest) hdg hf) hp.2.2 hkk
    · rcases hk with hk | hk <;> subst hk <;> cases h1
end ZC
theorem zM_nx {μ : Nat} {q : zMT} (h : zM[μ]? = some q) (h0 : μ ≠ 0) : q.1 ≠ x := by
  have hd : (zM.drop 1).all (fun q => decide (q.1 ≠ x)) = true := by decide +kernel
  have h1 : (zM.drop 1)[μ - 1]? = some q := by rw [List.getElem?_drop, show 1 + (μ - 1) = μ by omega]; exact h
  exact of_decide_eq_true (List.all_eq_true.mp hd q (List.mem_of_getElem? h1))
set_option maxHeartbeats 4000000 in
/-- THE PICTURE IS THE MACHINE -/
theorem z_sound {X : Nat × (Nat → Int32)} {l : Launch} : ∀ (f d μ pc : Nat) (lo st : List Value) (G : zG) (I : zI) (r : Option Value) (G' : zG) (I' : zI), evF X f d μ pc lo st G I = some (r, G', I') → zn G ≤ zn G' ∧ zs G ≤ zs G' ∧ z_goes X l d μ pc lo st G I r G' I' := by
  intro f
  induction f with
  | zero => intro d μ pc lo st G I r G' I' h; simp [evF] at h
  | succ f ih =>
    intro d μ pc lo st G I r G' I' h
    rw [evF] at h
    cases hzm : zM[μ]? with
    | none => rw [hzm] at h; cases h
    | some q0 =>
    rw [hzm] at h
    dsimp only at h
    cases hdc : decode q0.2.1 pc with
    | error x => rw [hdc] at h; cases h
    | ok v =>
    obtain ⟨i, n⟩ := v
    rw [hdc] at h
    dsimp only at h
    cases hpu : z_pure q0.2.2.2.2.1 n pc lo st i with
    | some o =>
      obtain ⟨pc1, lo1, st1⟩ := o
      rw [hpu] at h
      obtain ⟨m1, m2, m3⟩ := ih _ _ _ _ _ _ _ _ _ _ h
      refine ⟨m1, m2, ?_⟩
      intro q hq p e R s m args below meth c H locs cells slots Q ls D cy N0 E hx hb hml hown hname hC hnw hstr hN hp hl hfr hlo hr1 hr2 hc1 hc2 hret
      cases hzm.symm.trans hq
      exact z_pure_ok hx hb hown hC.2.2.1 hC.2.1 hdc hpu hl (fun ls' hl' => m3 q0 hq p e R s m args below meth c H locs cells slots Q ls' D cy N0 E hx hb hml hown hname hC hnw hstr hN hp hl' hfr hlo hr1 hr2 hc1 hc2 hret)
    | none =>
    rw [hpu] at h
    dsimp only at h
    cases hhe : z_heap X q0.1 q0.2.2.2.2.1 n pc st G I i with
    | some o =>
      obtain ⟨pc1, st1, G1, I1⟩ := o
      rw [hhe] at h
      obtain ⟨m1, m2, m3⟩ := ih _ _ _ _ _ _ _ _ _ _ h
      obtain ⟨k1, k2⟩ := z_heap_mono hhe
      dsimp only at k1 k2
      refine ⟨Nat.le_trans k1 m1, Nat.le_trans k2 m2, ?_⟩
      intro q hq p e R s m args below meth c H locs cells slots Q ls D cy N0 E hx hb hml hown hname hC hnw hstr hN hp hl hfr hlo hr1 hr2 hc1 hc2 hret
      cases hzm.symm.trans hq
      exact z_heap_ok hx hb hown hC hname hdc hhe hp (by dsimp only; omega) (by dsimp only; omega) (fun H' locs' c' s' hp' e1 e2 => by
        dsimp only at e1 e2 hp'
        exact m3 q0 hq p e R s m args below meth c H' locs' c' s' Q ls D cy N0 E hx hb hml hown hname hC hnw hstr hN hp' hl hfr hlo (by omega) (by omega) (by omega) (by omega) (fun H2 locs2 c2 s2 pc2 ls2 st2 i2 n2 g1 g2 g3 g4 g5 => hret H2 locs2 c2 s2 pc2 ls2 st2 i2 n2 g1 g2 g3 (by omega) (by omega)))
    | none =>
    rw [hhe] at h
    dsimp only at h
    cases hre : z_ret q0.2.2.2.1 n st i with
    | some r0 =>
      rw [hre] at h
      cases h
      refine ⟨Nat.le_refl _, Nat.le_refl _, ?_⟩
      intro q hq p e R s m args below meth c H locs cells slots Q ls D cy N0 E hx hb hml hown hname hC hnw hstr hN hp hl hfr hlo hr1 hr2 hc1 hc2 hret
      cases hzm.symm.trans hq
      exact hret H locs cells slots pc ls st i n hdc hre hp rfl rfl
    | none =>
    rw [hre] at h
    dsimp only at h
    cases d with
    | zero => cases h
    | succ d =>
    dsimp only at h
    cases hpr : z_prim q0.2.2.2.2.1 n pc st G I i with
    | some o =>
      obtain ⟨pc1, st1, G1, I1⟩ := o
      rw [hpr] at h
      obtain ⟨m1, m2, m3⟩ := ih _ _ _ _ _ _ _ _ _ _ h
      obtain ⟨k1, k2⟩ := z_prim_mono hpr
      dsimp only at k1 k2
      refine ⟨Nat.le_trans k1 m1, Nat.le_trans k2 m2, ?_⟩
      intro q hq p e R s m args below meth c H locs cells slots Q ls D cy N0 E hx hb hml hown hname hC hnw hstr hN hp hl hfr hlo hr1 hr2 hc1 hc2 hret
      cases hzm.symm.trans hq
      exact z_prim_ok hx hb (hml.trans hl.1.symm) hown hC hnw (by omega) (by omega) hdc hpr hp ⟨hc1, hc2⟩ (by dsimp only; omega) (by dsimp only; omega) (fun H' locs' c' s' hp' e1 e2 => by
        dsimp only at e1 e2 hp'
        exact m3 q0 hq p e R s m args below meth c H' locs' c' s' Q ls D cy N0 E hx hb hml hown hname hC hnw hstr hN hp' hl hfr hlo (by omega) (by omega) (by omega) (by omega) (fun H2 locs2 c2 s2 pc2 ls2 st2 i2 n2 g1 g2 g3 g4 g5 => hret H2 locs2 c2 s2 pc2 ls2 st2 i2 n2 g1 g2 g3 (by omega) (by omega)))
    | none =>
    rw [hpr] at h
    dsimp only at h
    cases hca : z_call q0.2.2.2.2.1 n st G i with
    | none => rw [hca] at h; cases h
    | some o =>
    obtain ⟨ν, as, rest⟩ := o
    rw [hca] at h
    dsimp only at h
    cases hzn : zM[ν]? with
    | none => rw [hzn] at h; cases h
    | some q1 =>
    rw [hzn] at h
    dsimp only at h
    by_cases hlen : (z_ea as).length ≤ q1.2.2.1
    · rw [if_pos hlen] at h
      cases hev : evF X f d ν 0 (z_ent q1.2.2.1 as) [] G I with
      | none => rw [hev] at h; cases h
      | some w =>
      obtain ⟨r1, G1, I1⟩ := w
      rw [hev] at h
      dsimp only at h
      obtain ⟨k1, k2, k3⟩ := ih _ _ _ _ _ _ _ _ _ _ hev
      obtain ⟨m1, m2, m3⟩ := ih _ _ _ _ _ _ _ _ _ _ h
      refine ⟨Nat.le_trans k1 m1, Nat.le_trans k2 m2, ?_⟩
      intro q hq p e R s m args below meth c H locs cells slots Q ls D cy N0 E hx hb hml hown hname hC hnw hstr hN hp hl hfr hlo hr1 hr2 hc1 hc2 hret
      cases hzm.symm.trans hq
      have hxx : q1.1 ≠ x := by
        obtain ⟨ix, kd, q2, hmem, hq2, -, -, -, hk⟩ := z_call_inv hca
        cases hzn.symm.trans hq2
        refine zM_nx hzn (fun h0 => ?_)
        subst h0
        have hck := (zC_at hmem).2.2
        have hkd : kd < 5 := by
          rcases hk with ⟨-, hk, -⟩ | ⟨-, hk, -⟩ | ⟨-, hk, -⟩
          · rcases hk with hk | hk <;> omega
          · omega
          · rcases hk with hk | hk <;> omega
        have : ∀ k, k < 5 → zCk ((0, 0), (k, 0)) = false := by decide +kernel
        exact absurd hck (by rw [show zCk ((q0.2.2.2.2.1, ix), (kd, 0)) = zCk ((0, 0), (kd, 0)) from rfl, this kd hkd]; decide)
      exact z_call_ok hx hb hml hown hC hnw hstr hdc hca hzn hxx hp hl.1 hfr hlo (z_met hzn hxx hlen k1 k2 hC.2.2.1 k3) ⟨by omega, by omega⟩ (fun H' locs' hp' => m3 q0 hq p e R s m args below meth c H' locs' _ _ Q ls D cy N0 E hx hb hml hown hname hC hnw hstr hN hp' hl hfr hlo (by omega) (by omega) (by omega) (by omega) (fun H2 locs2 c2 s2 pc2 ls2 st2 i2 n2 g1 g2 g3 g4 g5 => hret H2 locs2 c2 s2 pc2 ls2 st2 i2 n2 g1 g2 g3 (by omega) (by omega)))
    · rw [if_neg hlen] at h; cases h
