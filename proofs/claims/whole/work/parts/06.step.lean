section ZS
variable {p : Program} {l : Launch} {e : Env} {R : Room} {s : State} {m : MethodId} {args : Array Value} {below : List Frame} {meth : Method} {c : Code} {H : Heap} {locs : List Loc} {cells slots : Nat} {Q : State → Prop}
variable {cc : ByteArray} {pc : Nat} {ls : Array Slot} {D : va_G} {cy : Nat → ClassId} {N0 : Nat} {G : zG} {I : zI}
/-- all that a frame knows from its start -/
def z_cx (s : State) (args : Array Value) (E : Nat → Value) (X : Nat × (Nat → Int32)) (D : va_G) (cy : Nat → ClassId) (N0 : Nat) : Prop :=
  (∀ w ∈ zGW, w.before args s = true) ∧ z_words s args E ∧ z_Eok E ∧ va_K D zCl (z_tys cy) s ∧ va_AO "TooHotTooCold$Law" s ∧ z_AA s ∧ z_links s args ∧ z_out s E X N0
set_option maxHeartbeats 8000000 in
/-- a step that reads, writes or makes cells -/
theorem z_heap_ok (hexec : p.tables.exec = Jvm.exec) (hb : c.code = cc) {own : Nat} (hown : s.vm.findClass (zR own) = some m.cls) {E : Nat → Value} {X : Nat × (Nat → Int32)} (hC : z_cx s args E X D cy N0) {y : MethodName} (hname : meth.name = y.name)
    {i : Instr} {n : Nat} {st : List Value} {o : Nat × List Value × zG × zI} (hdg : decode cc pc = .ok (i, n)) (h : z_heap X y own n pc st G I i = some o) (hp : z_hp D cy N0 s locs G I H)
    (hr1 : cells + zn o.2.2.1 ≤ R.cells + zn G) (hr2 : slots + zs o.2.2.1 ≤ R.slots + zs G)
    (kk : ∀ (H' : Heap) (locs' : List Loc) (c' s' : Nat), z_hp D cy N0 s locs' o.2.2.1 o.2.2.2 H' → c' + zn G = cells + zn o.2.2.1 → s' + zs G = slots + zs o.2.2.1 → W p l e R s m args below meth c H' locs' c' s' Q (F0 m o.1 ls (o.2.1.map (z_rv N0 E)))) :
    W p l e R s m args below meth c H locs cells slots Q (F0 m pc ls (st.map (z_rv N0 E))) := by
  obtain ⟨hts, hw, hE, hK, hAo, hAA, hL, hO⟩ := hC
  cases i with
  | getfield ix =>
    simp only [z_heap] at h
    split at h
    · rename_i a r
      split at h
      · rename_i ci k hf
        split at h
        · rename_i hc
          obtain ⟨rfl, ha, hk, hkk⟩ := hc
          refine z_getf hexec hb hown hts hK hL hp (zLk_mem hf) ha hk hkk hdg ?_
          split at h
          · rename_i hr
            rw [if_pos hr]
            split at h
            · rename_i b hb2
              cases h
              rw [hb2]
              exact kk H locs cells slots hp rfl rfl
            · rename_i hb2
              cases h
              rw [hb2]
              exact kk H locs cells slots hp rfl rfl
          · rename_i hr
            rw [if_neg hr]
            cases h
            exact kk H locs cells slots hp rfl rfl
        · cases h
      · cases h
    · rename_i j r
      split at h
      · rename_i hc
        obtain ⟨rfl, rfl, h2, h15⟩ := hc
        obtain ⟨t, t2, e1, e2, k1, k2, k3⟩ := hO.2.2.2.2.2 j h2 h15
        have hst : ((Value.retAddr (j + 1) :: r).map (z_rv N0 E)) = .ref t :: r.map (z_rv N0 E) := by rw [← e1]; rfl
        rw [hst]
        split at h
        · rename_i h9
          subst h9
          cases h
          have K := kk H locs cells slots hp rfl rfl
          rw [show ((zX (j + 18) :: r).map (z_rv N0 E)) = E (j + 18) :: r.map (z_rv N0 E) from rfl, e2] at K
          exact vk_getf hexec hb k3 hp.2.2 hown hL.2.2.2.2.2.1 (fun _ h => h) hdg K
        · split at h
          · rename_i h9
            subst h9
            cases h
            exact vk_getf hexec hb k2 hp.2.2 hown hL.2.2.2.2.2.2.1 (fun _ h => h) hdg (kk H locs cells slots hp rfl rfl)
          · cases h
      · cases h
    · cases h
  | putfield ix =>
    simp only [z_heap] at h
    split at h
    · rename_i v a r
      split at h
      · rename_i ci k hf
        split at h
        · rename_i hc
          obtain ⟨rfl, ha, hk, hkk, hfin⟩ := hc
          have hfin2 : zFin ci k = true → meth.name = "<init>" ∧ own = ci := fun z => ⟨by rw [hname]; exact beq_iff_eq.mp (hfin z).1, (hfin z).2⟩
          have h6 := zCl_6 hkk
          split at h
          · rename_i hr
            split at h
            · rename_i b
              cases h
              refine z_putf hexec hb hown hts hK hL hp (zLk_mem hf) ha hk hkk hfin2 (v := .ref (N0 + b)) ?_ ?_ hdg (fun H' locs' e1 e2 e3 e4 => ?_)
              · cases zTy ci k <;> rfl
              · unfold zIsR at hr
                cases ht : zTy ci k <;> rw [ht] at hr <;> first | (cases hr; done) | rfl
              · refine kk H' locs' cells slots (z_hp_put (a := a) hp rfl e1 e2 ?_ (fun b hb => z_ce_otherR hb) e4) rfl rfl
                rw [z_ce_obj (G := (zn G, zs G, zk G, zl G, z_upR (zr G) a k (some b))) hk h6, z_fs_setR (by rw [hk]; exact hr)]
                exact e3
            · cases h
          · rename_i hr
            split at h
            · rename_i x
              split at h
              · rename_i hbo
                cases h
                refine z_putf hexec hb hown hts hK hL hp (zLk_mem hf) ha hk hkk hfin2 (v := .int x) ?_ ?_ hdg (fun H' locs' e1 e2 e3 e4 => ?_)
                · have hty := zTy_ok ci h6 k hkk
                  cases ht : zTy ci k <;> rw [ht] at hty hbo <;> first | (cases hty; done) | rfl | (rcases hbo rfl with rfl | rfl <;> rfl)
                · have hty := zTy_ok ci h6 k hkk
                  unfold zIsR at hr
                  cases ht : zTy ci k <;> rw [ht] at hty hbo hr <;> first | (cases hty; done) | rfl | (rcases hbo rfl with rfl | rfl <;> rfl) | exact absurd rfl hr
                · refine kk H' locs' cells slots (z_hp_put (a := a) hp rfl e1 e2 ?_ (fun b hb => z_ce_otherI hb) e4) rfl rfl
                  rw [z_ce_obj hk h6, z_fs_setI (by rw [hk]; exact Bool.eq_false_iff.mpr hr)]
                  exact e3
              · cases h
            · cases h
        · cases h
      · cases h
    · cases h
  | iaload =>
    simp only [z_heap] at h
    split at h
    · rename_i ix a r
      split at h
      · rename_i hc
        obtain ⟨rfl, ha, hk, hin⟩ := hc
        cases h
        exact va_iald (D := D) (cl := zCl) hexec hb hK hp.2.1 a 0 ((z_lay_get ha).trans (by rw [z_ce_int hk])) rfl (z_vp hin) hdg (kk H locs cells slots hp rfl rfl)
      · cases h
    · rename_i ix j r
      split at h
      · rename_i q hq
        split at h
        · rename_i hc
          obtain ⟨rfl, hin⟩ := hc
          obtain ⟨t, e1, k1⟩ := hO.1 j q hq
          have hst : ((Value.int ix :: Value.retAddr (j + 1) :: r).map (z_rv N0 E)) = .int ix :: .ref t :: r.map (z_rv N0 E) := by rw [← e1]; rfl
          rw [hst]
          cases h
          exact va_ti hexec hb k1 hp.2.2 (z_vp hin) rfl hdg (kk H locs cells slots hp rfl rfl)
        · cases h
      · cases h
    · cases h
  | baload =>
    simp only [z_heap] at h
    split at h
    · rename_i ix j r
      split at h
      · rename_i q hq
        split at h
        · rename_i hc
          obtain ⟨rfl, hin⟩ := hc
          obtain ⟨t, e1, k1⟩ := hO.2.1 j q hq
          have hst : ((Value.int ix :: Value.retAddr (j + 1) :: r).map (z_rv N0 E)) = .int ix :: .ref t :: r.map (z_rv N0 E) := by rw [← e1]; rfl
          rw [hst]
          cases h
          exact va_tb hexec hb k1 hp.2.2 (z_vp hin) rfl hdg (kk H locs cells slots hp rfl rfl)
        · cases h
      · cases h
    · cases h
  | iastore =>
    simp only [z_heap] at h
    split at h
    · rename_i x ix a r
      split at h
      · rename_i hc
        obtain ⟨rfl, ha, hk, hin⟩ := hc
        cases h
        exact z_iast hexec hb hK hp ha hk hin hdg (fun H' locs' hp' => kk H' locs' cells slots hp' rfl rfl)
      · cases h
    · cases h
  | aaload =>
    simp only [z_heap] at h
    split at h
    · rename_i ix a r
      split at h
      · rename_i hc
        obtain ⟨rfl, ha, hk, hin⟩ := hc
        split at h
        · rename_i b hb2
          cases h
          refine z_aald hexec hb hK hp ha hk hin hdg ?_
          rw [hb2]
          exact kk H locs cells slots hp rfl rfl
        · cases h
      · cases h
    · cases h
  | aastore =>
    simp only [z_heap] at h
    split at h
    · rename_i b ix a r
      split at h
      · rename_i hc
        obtain ⟨rfl, ha, hk, hin, hb2, hkb⟩ := hc
        cases h
        exact z_aast hexec hb hK hp ha hk hin hb2 hkb hdg (fun H' locs' hp' => kk H' locs' cells slots hp' rfl rfl)
      · cases h
    · cases h
  | arraylength =>
    simp only [z_heap] at h
    split at h
    · rename_i a r
      split at h
      · rename_i hc
        obtain ⟨rfl, ha, h6, h8⟩ := hc
        cases h
        have K := kk H locs cells slots hp rfl rfl
        rcases (show zk G a = 6 ∨ zk G a = 7 ∨ zk G a = 8 by omega) with hk | hk | hk
        · exact va_alen (D := D) (cl := zCl) hexec hb hK hp.2.1 a 0 (x := (zl G a, .inl (I a))) (v := Int32.ofNat (zl G a)) ((z_lay_get ha).trans (by rw [z_ce_int hk])) rfl rfl hdg K
        · exact va_alen (D := D) (cl := zCl) hexec hb hK hp.2.1 a 1 (x := (zl G a, .inr (.inr (.inr (.inr (fun j => (zr G a j).map (fun b => N0 + b))))))) (v := Int32.ofNat (zl G a)) ((z_lay_get ha).trans (by rw [z_ce_ref hk (by decide)])) rfl rfl hdg K
        · exact va_alen (D := D) (cl := zCl) hexec hb hK hp.2.1 a 2 (x := (zl G a, .inr (.inr (.inr (.inr (fun j => (zr G a j).map (fun b => N0 + b))))))) (v := Int32.ofNat (zl G a)) ((z_lay_get ha).trans (by rw [z_ce_ref hk (by decide)])) rfl rfl hdg K
      · cases h
    · rename_i j r
      split at h
      · rename_i q hq
        split at h
        · rename_i hn
          subst hn
          obtain ⟨t, e1, k1⟩ := hO.1 j q hq
          have hst : ((Value.retAddr (j + 1) :: r).map (z_rv N0 E)) = .ref t :: r.map (z_rv N0 E) := by rw [← e1]; rfl
          rw [hst]
          cases h
          exact va_tlen hexec hb k1 hp.2.2 rfl hdg (kk H locs cells slots hp rfl rfl)
        · cases h
      · split at h
        · rename_i q hq
          split at h
          · rename_i hn
            subst hn
            obtain ⟨t, e1, k1⟩ := hO.2.1 j q hq
            have hst : ((Value.retAddr (j + 1) :: r).map (z_rv N0 E)) = .ref t :: r.map (z_rv N0 E) := by rw [← e1]; rfl
            rw [hst]
            cases h
            exact va_tlen hexec hb k1 hp.2.2 rfl hdg (kk H locs cells slots hp rfl rfl)
          · cases h
        · cases h
    · cases h
  | newarray t =>
    simp only [z_heap] at h
    split at h
    · rename_i k r
      split at h
      · rename_i hc
        obtain ⟨rfl, ht, h0, h1⟩ := hc
        cases h
        simp only [zn, zs, z_new] at hr1 hr2
        exact z_newi hexec hb hK hL.2.2.2.2.2.2.2.1 hp ht h0 h1 (by omega) (by omega) hdg (fun H' hp' => kk H' locs _ _ hp' (by simp only [zn, z_new]; omega) (by simp only [zs, z_new]; omega))
      · cases h
    · cases h
  | anewarray ix =>
    simp only [z_heap] at h
    split at h
    · rename_i k r
      split at h
      · rename_i hc
        obtain ⟨rfl, ht, h0, h1⟩ := hc
        cases h
        simp only [zn, zs, z_new] at hr1 hr2
        cases hz : zLk zN own ix with
        | none => rw [hz] at ht; cases ht
        | some q =>
          rw [hz] at ht
          have hq := zLk_mem hz
          have h7 := (zN_ok _ hq).1 (Option.some.inj ht)
          have hcl := hL.2.1 _ hq
          rw [h7] at hcl
          exact z_newl hexec hb hown hK hAo hp h0 h1 hcl (by omega) (by omega) hdg (fun H' hp' => kk H' locs _ _ hp' (by simp only [zn, z_new]; omega) (by simp only [zs, z_new]; omega))
      · cases h
    · cases h
  | multianewarray ix d =>
    simp only [z_heap] at h
    split at h
    · rename_i k n2 r
      split at h
      · rename_i hc
        obtain ⟨rfl, rfl, ht, h0, h1, h2, h3⟩ := hc
        cases h
        have hn2 := z_many_n (G := z_new G 8 n2.toNatClampNeg (fun j => if j < n2.toNatClampNeg then some (zn G + 1 + j) else none)) (I := z_newI G I (fun _ => 0)) k.toNatClampNeg n2.toNatClampNeg
        have e1 : zn (z_new G 8 n2.toNatClampNeg (fun j => if j < n2.toNatClampNeg then some (zn G + 1 + j) else none)) = zn G + 1 := rfl
        have e2 : zs (z_new G 8 n2.toNatClampNeg (fun j => if j < n2.toNatClampNeg then some (zn G + 1 + j) else none)) = zs G + n2.toNatClampNeg := rfl
        rw [e1, e2] at hn2
        dsimp only at hr1 hr2
        rw [hn2.1] at hr1
        rw [hn2.2] at hr2
        cases hz : zLk zN own ix with
        | none => rw [hz] at ht; cases ht
        | some q =>
          rw [hz] at ht
          have hq := zLk_mem hz
          have h7 := (zN_ok _ hq).2.2.1 (Option.some.inj ht)
          have hcl := hL.2.1 _ hq
          rw [h7] at hcl
          exact z_multi hexec hb hown hK hL.2.2.2.2.2.2.2.1 hAA hp h0 h1 h2 h3 hcl (by omega) (by omega) hdg (fun H' hp' => kk H' locs _ _ hp' (by dsimp only; rw [hn2.1]; omega) (by dsimp only; rw [hn2.2]; omega))
      · cases h
    · cases h
  | new ix =>
    simp only [z_heap] at h
    split at h
    · rename_i q hz
      split at h
      · rename_i hc
        obtain ⟨rfl, h6⟩ := hc
        cases h
        simp only [zn, zs, z_new] at hr1 hr2
        have hq := zLk_mem hz
        have hcl := hL.2.1 _ hq
        rw [(zN_ok _ hq).2.2.2 h6] at hcl
        exact z_newo hexec hb hown hts hK hL hp h6 hcl (by omega) (by omega) hdg (fun H' hp' => kk H' locs _ _ hp' (by simp only [zn, z_new]; omega) (by simp only [zs, z_new]; omega))
      · cases h
    · cases h
  | checkcast ix =>
    simp only [z_heap] at h
    split at h
    · rename_i a r
      split at h
      · rename_i hc
        obtain ⟨rfl, ha, hk, ht⟩ := hc
        cases h
        cases hz : zLk zN own ix with
        | none => rw [hz] at ht; cases ht
        | some q =>
          rw [hz] at ht
          have hq := zLk_mem hz
          have h7 := (zN_ok _ hq).2.1 (Option.some.inj ht)
          have hcl := hL.2.1 _ hq
          rw [h7] at hcl
          exact va_castA (D := D) (cl := zCl) hexec hb hown hcl hp.2.1 a ((z_lay_get ha).trans (by rw [z_ce_int hk])) (hK.2 0 _ rfl).2 hdg (kk H locs cells slots hp rfl rfl)
      · cases h
    · cases h
  | getstatic ix =>
    simp only [z_heap] at h
    split at h
    · rename_i hn
      subst hn
      split at h
      · rename_i hc
        obtain ⟨rfl, rfl⟩ := hc
        cases h
        exact va_gets hexec hb hO.2.2.1 hp.2.2 hown hL.2.2.1 (fun _ h => h) hdg (kk H locs cells slots hp rfl rfl)
      · split at h
        · rename_i hc
          obtain ⟨rfl, rfl⟩ := hc
          cases h
          exact va_gets hexec hb hO.2.2.2.1 hp.2.2 hown hL.2.2.2.1 (fun _ h => h) hdg (kk H locs cells slots hp rfl rfl)
        · split at h
          · rename_i hc
            obtain ⟨rfl, rfl⟩ := hc
            cases h
            exact va_gets hexec hb hO.2.2.2.2.1 hp.2.2 hown hL.2.2.2.2.1 (fun _ h => h) hdg (kk H locs cells slots hp rfl rfl)
          · cases h
    · cases h
  | _ => simp [z_heap] at h
end ZS
