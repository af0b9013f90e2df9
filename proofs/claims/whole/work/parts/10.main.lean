theorem z_rv_toList {N0 : Nat} {E : Nat → Value} (r : Option Value) : (r.map (z_rv N0 E)).toList = r.toList.map (z_rv N0 E) := by cases r <;> rfl
section ZMain
variable {l : Launch} {D : va_G} {cy : Nat → ClassId} {N0 : Nat} {E : Nat → Value}
/-- the end of a method's walk -/
theorem z_ret_ok {p : Program} {e : Env} {R : Room} {s : State} {m : MethodId} {args : Array Value} {below : List Frame} {meth : Method} {c : Code} {H : Heap} {locs : List Loc} {cells slots : Nat} {cc : ByteArray} {pc : Nat} {ls : Array Slot} (hexec : p.tables.exec = Jvm.exec) (hb : c.code = cc) (hlocks : meth.locks = false)
    {rt : Option FieldType} (hr : meth.sig.returnType = rt) {i : Instr} {n : Nat} {st : List Value} {r : Option Value} {G : zG} {I : zI} (hdg : decode cc pc = .ok (i, n)) (h : z_ret rt n st i = some r) (hp : z_hp D cy N0 s locs G I H) :
    W p l e R s m args below meth c H locs cells slots (MQ below (z_Qc E D cy N0 r G I) args s cells slots (fun q => N0 ≤ q)) (F0 m pc ls (st.map (z_rv N0 E))) := by
  have hq : ∀ t : State, t.heap = H → s.WarmedH t.vm → z_Qc E D cy N0 r G I args s (.returned (r.map (z_rv N0 E))) t := fun t ht _ => ⟨rfl, by rw [ht]; exact hp.1, by rw [ht]; exact hp.2.1, hp.2.2.F ht⟩
  have hf : ∀ q ∈ locs, N0 ≤ q.base := hp.2.2.2.2
  cases i with
  | ireturn =>
    simp only [z_ret] at h
    split at h
    · split at h
      · split at h
        · rename_i v ty hc
          obtain ⟨rfl, hn⟩ := hc
          cases h
          exact W.zret hexec hb hr hn hq hf hdg hlocks
        · cases h
      · cases h
    · cases h
  | lreturn =>
    simp only [z_ret] at h
    split at h
    · split at h
      · rename_i v hc
        obtain ⟨rfl, hn⟩ := hc
        cases h
        exact W.lret hexec hb (by rw [hr, hn]) hq hf hdg hlocks
      · cases h
    · cases h
  | areturn =>
    simp only [z_ret] at h
    split at h
    · split at h
      · rename_i a nm
        split at h
        · rename_i hn
          subst hn
          cases h
          exact W.aret hexec hb hr (Or.inl ⟨_, rfl⟩) (Or.inr ⟨_, rfl⟩) hq hf hdg hlocks
        · cases h
      · rename_i a nm
        split at h
        · rename_i hn
          subst hn
          cases h
          exact W.aret hexec hb hr (Or.inr ⟨_, rfl⟩) (Or.inr ⟨_, rfl⟩) hq hf hdg hlocks
        · cases h
      · cases h
    · cases h
  | return_ =>
    simp only [z_ret] at h
    split at h
    · split at h
      · rename_i hc
        obtain ⟨rfl, hn⟩ := hc
        cases h
        exact W.vret hexec hb (by rw [hr, hn]) hq hf hdg hlocks
      · cases h
    · cases h
  | _ => simp [z_ret] at h
/-- the room of a method at depth d -/
abbrev zRm (d mc ms : Nat) : Room := { frames := d, cells := mc, slots := ms, locals := 60 * d }
/-- what a frame's walk says -/
def z_goes (X : Nat × (Nat → Int32)) (l : Launch) (d μ pc : Nat) (lo st : List Value) (G : zG) (I : zI) (r : Option Value) (G' : zG) (I' : zI) : Prop :=
  ∀ (q : zMT), zM[μ]? = some q → ∀ (p : Program) (e : Env) (R : Room) (s : State) (m : MethodId) (args : Array Value) (below : List Frame) (meth : Method) (c : Code) (H : Heap) (locs : List Loc) (cells slots : Nat) (Q : State → Prop) (ls : Array Slot) (D : va_G) (cy : Nat → ClassId) (N0 : Nat) (E : Nat → Value),
    p.tables.exec = Jvm.exec → c.code = q.2.1 → c.maxLocals = q.2.2.1 → s.vm.findClass (zR q.2.2.2.2.1) = some m.cls → meth.name = q.1.name → z_cx s args E X D cy N0 → z_nw s → z_str s E → N0 ≤ s.heap.size → z_hp D cy N0 s locs G I H → z_lr N0 E ls lo q.2.2.1 → d ≤ R.frames → 60 * d ≤ R.locals →
    cells + zn G' ≤ R.cells + zn G → slots + zs G' ≤ R.slots + zs G → cells ≤ R.cells → slots ≤ R.slots →
    (∀ (H' : Heap) (locs' : List Loc) (c' s' pc' : Nat) (ls' : Array Slot) (st' : List Value) (i : Instr) (n : Nat), decode q.2.1 pc' = .ok (i, n) → z_ret q.2.2.2.1 n st' i = some r → z_hp D cy N0 s locs' G' I' H' → c' + zn G = cells + zn G' → s' + zs G = slots + zs G' → W p l e R s m args below meth c H' locs' c' s' Q (F0 m pc' ls' (st'.map (z_rv N0 E)))) →
    W p l e R s m args below meth c H locs cells slots Q (F0 m pc ls (st.map (z_rv N0 E)))
set_option maxHeartbeats 4000000 in
/-- a method meets its contract, if its walk is known -/
theorem z_met {X : Nat × (Nat → Int32)} {d ν : Nat} {as : List Value} {G G' : zG} {I I' : zI} {r : Option Value} {q : zMT} (hq : zM[ν]? = some q) (hx : q.1 ≠ x) (hlen : (z_ea as).length ≤ q.2.2.1) (hn : zn G ≤ zn G') (hs : zs G ≤ zs G') (hE : z_Eok E)
    (h : z_goes X l d ν 0 (z_ent q.2.2.1 as) [] G I r G' I') : Met l q.1 (zWs q) (zRm d (zn G' - zn G) (zs G' - zs G)) (z_Pc E X D cy N0 G I as) (z_Qc E D cy N0 r G' I') (zn G' - zn G) (zs G' - zs G) (fun a => N0 ≤ a) := by
  obtain ⟨rr, hr1, hr2⟩ := zM_at hq
  unfold zMw at hr2
  by_cases h9 : rr.2.2.2.2 = 9
  · rw [if_pos h9] at hr2
    exact absurd (of_decide_eq_true hr2) hx
  rw [if_neg h9] at hr2
  simp only [Bool.and_eq_true, decide_eq_true_eq] at hr2
  obtain ⟨⟨⟨⟨⟨-, -⟩, hcls⟩, hpl⟩, -⟩, -⟩ := hr2
  refine Met.ofW (cc := q.2.1) (maxL := q.2.2.1) (ret := q.2.2.2.1) hpl rfl ?_
  intro p e s m args below meth c s₁ B hml hv
  obtain ⟨rfl, hstr, hnw, hK, hAo, hAA, hO, hsz, hP⟩ := hv
  have hx := B.exec
  have hb := B.bytes
  have hr := B.returns
  have hts0 : ∀ w ∈ zWs q, w.before _ s = true := atoms_spec (ws := zWs q) B.pre
  have hts : ∀ w ∈ zGW, w.before (as.map (z_rv N0 E)).toArray s = true := fun w hw => hts0 w (List.mem_cons_of_mem _ hw)
  have hown : s.vm.findClass (zR q.2.2.2.2.1) = some m.cls := by rw [← hcls]; exact findClass_of_methodNamed B.named
  have hlocks := B.notSynchronized
  have hname : meth.name = q.1.name := (name_of_methodNamed B.named B.method).1
  have hl := lv_entry (as.map (z_rv N0 E)) (n := q.2.2.1) (by rw [z_ea_len hE]; exact hlen)
  rw [lg_entry_eq]
  generalize (lg_sl (as.map (z_rv N0 E)) ++ List.replicate (q.2.2.1 - (lg_sl (as.map (z_rv N0 E))).length) Slot.unset).toArray = ls at hl ⊢
  refine h q hq p e _ s m _ below meth c s.heap [] 0 0 _ ls D cy N0 E hx hb hml hown hname ⟨hts, z_words_of hts hstr, hE, hK, hAo, hAA, z_links_of hts, hO⟩ hnw hstr (by omega) ⟨hsz, hP, va_S.rf⟩ (z_ent_ok hE hlen hl) (Nat.le_refl _) (Nat.le_refl _) ?_ ?_ (Nat.zero_le _) (Nat.zero_le _) ?_
  · show 0 + zn G' ≤ (zn G' - zn G) + zn G
    omega
  · show 0 + zs G' ≤ (zs G' - zs G) + zs G
    omega
  · intro H' locs' c' s' pc' ls' st' i n hdg hz hp hc1 hc2
    have e1 : c' = zn G' - zn G := by omega
    have e2 : s' = zs G' - zs G := by omega
    subst e1; subst e2
    exact z_ret_ok hx hb hlocks hr hdg hz hp
end ZMain
