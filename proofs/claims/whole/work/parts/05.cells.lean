def zTyOk (t : FieldType) : Bool := match t with
  | .int => true
  | .boolean => true
  | .array _ => true
  | .object _ => true
  | _ => false
theorem zTy_ok : ∀ ci, ci < 6 → ∀ j, j < zNF ci → zTyOk (zTy ci j) = true := by decide +kernel
section ZH
variable {p : Program} {l : Launch} {e : Env} {R : Room} {s : State} {m : MethodId} {args : Array Value} {below : List Frame} {meth : Method} {c : Code} {H : Heap} {locs : List Loc} {cells slots : Nat} {Q : State → Prop}
variable {cc : ByteArray} {pc : Nat} {ls : Array Slot} {rest : List Value} {D : va_G} {cy : Nat → ClassId} {N0 : Nat} {G : zG} {I : zI}
theorem z_ce_obj {a ci : Nat} (hk : zk G a = ci) (h : ci < 6) : z_ce cy N0 G I a = .inr (ci, z_fs N0 G I a) := by
  unfold z_ce
  rw [if_pos (by rw [hk]; exact h), hk]
theorem z_ce_int {a : Nat} (hk : zk G a = 6) : z_ce cy N0 G I a = .inl (cy 6, zl G a, .inl (I a)) := by
  unfold z_ce
  rw [if_neg (by rw [hk]; decide), if_pos hk]
theorem z_ce_ref {a k : Nat} (hk : zk G a = k) (h : 6 < k) : z_ce cy N0 G I a = .inl (cy k, zl G a, .inr (.inr (.inr (.inr (fun j => (zr G a j).map (fun b => N0 + b)))))) := by
  unfold z_ce
  rw [if_neg (by rw [hk]; omega), if_neg (by rw [hk]; omega), hk]
theorem z_fs_get {a ci k : Nat} (hk : zk G a = ci) (h : k < zNF ci) : (z_fs N0 G I a)[k]? = some (if zIsR ci k = true then va_rf ((zr G a k).map (fun b => N0 + b)) else .int (I a k)) := by
  unfold z_fs
  rw [hk, List.getElem?_map, List.getElem?_range h]
  rfl
theorem z_fs_len {a ci : Nat} (hk : zk G a = ci) : (z_fs N0 G I a).length = zNF ci := by
  unfold z_fs
  rw [List.length_map, List.length_range, hk]
theorem z_getf (hexec : p.tables.exec = Jvm.exec) (hb : c.code = cc) {own : Nat} (hown : s.vm.findClass (zR own) = some m.cls) (hts : ∀ w ∈ zGW, w.before args s = true) (hK : va_K D zCl (z_tys cy) s) (hL : z_links s args) (hp : z_hp D cy N0 s locs G I H)
    {a k ci ix : Nat} (hf : ((own, ix), (ci, k)) ∈ zF) (ha : a < zn G) (hk : zk G a = ci) (hkk : k < zNF ci) (hdg : decode cc pc = .ok (.getfield ix, 3))
    (kk : W p l e R s m args below meth c H locs cells slots Q (F0 m (pc + 3) ls ((if zIsR ci k = true then va_rf ((zr G a k).map (fun b => N0 + b)) else .int (I a k)) :: rest))) : W p l e R s m args below meth c H locs cells slots Q (F0 m pc ls (.ref (N0 + a) :: rest)) := by
  have h6 := zCl_6 hkk
  obtain ⟨q, hq⟩ := zCl_lt h6
  obtain ⟨g1, g2, g3, g4, g5⟩ := zCl_ty _ _ hq
  exact va_get (D := D) (ci := ci) (C := q.1) (T := q.2.1) (N := q.2.2) (ref := q.1) hexec hb hts (zCl_in _ _ hq) hown hK hp.2.1 a ((z_lay_get ha).trans (by rw [z_ce_obj hk h6])) hq k (by rw [g3]; exact hkk)
    (hL.1 _ hf q hq) (by rw [g4 k (by rw [g3]; exact hkk)]; exact fun _ h => h) (z_fs_get hk hkk) hdg kk
theorem z_putf (hexec : p.tables.exec = Jvm.exec) (hb : c.code = cc) {own : Nat} (hown : s.vm.findClass (zR own) = some m.cls) (hts : ∀ w ∈ zGW, w.before args s = true) (hK : va_K D zCl (z_tys cy) s) (hL : z_links s args) (hp : z_hp D cy N0 s locs G I H)
    {a k ci ix : Nat} (hf : ((own, ix), (ci, k)) ∈ zF) (ha : a < zn G) (hk : zk G a = ci) (hkk : k < zNF ci) (hin2 : zFin ci k = true → meth.name = "<init>" ∧ own = ci) {v : Value} (hn : narrow (zTy ci k) v = v) (hfit : fits (zTy ci k) v = true) (hdg : decode cc pc = .ok (.putfield ix, 3))
    (kk : ∀ (H' : Heap) (locs' : List Loc), H'.size = H.size → (∀ q : Nat, q ≠ N0 + a → H'[q]? = H[q]?) → va_at D zCl (N0 + a, .inr (ci, (z_fs N0 G I a).set k v)) H' → (∀ q ∈ locs', q ∈ locs ∨ q.base = N0 + a) →
      W p l e R s m args below meth c H' locs' cells slots Q (F0 m (pc + 3) ls rest)) : W p l e R s m args below meth c H locs cells slots Q (F0 m pc ls (v :: .ref (N0 + a) :: rest)) := by
  have h6 := zCl_6 hkk
  obtain ⟨q, hq⟩ := zCl_lt h6
  obtain ⟨g1, g2, g3, g4, g5⟩ := zCl_ty _ _ hq
  have hkN : k < q.2.2 := by rw [g3]; exact hkk
  have hin := zCl_in _ _ hq
  have hap := va_apart (own := zR own) hts hin (zTy ci) g1 g2 hK hq
  obtain ⟨r, h1, cell, q1, q2, q3, q4⟩ := hp.2.1 a _ ((z_lay_get ha).trans (by rw [z_ce_obj hk h6]))
  have hr : r = q := Option.some.inj (h1.symm.trans hq)
  subst hr
  obtain ⟨hS, hfc, kC, hkC, hkind⟩ := hK.1 ci _ hq
  obtain ⟨cf, kf, fi, f, hi, hsl⟩ := hS k hkN
  have hlay := hts _ (hin _ (u_in_lay hkN))
  unfold u_lay at hlay
  have hst := (u_facts hfc hkC (u_lays hts hin hkN) hi).1
  have hlen : k < (z_fs N0 G I a).length := by rw [z_fs_len hk]; exact hkk
  have hsame : ∀ x, s.fieldFound? (r.2.1 k).1 (r.2.1 k).2.1 (r.2.1 k).2.2.1 = some x → s.fieldFound? r.1 (r.2.1 k).2.1 (r.2.1 k).2.2.1 = some x := by rw [g4 k hkN]; exact fun _ h => h
  have fin : ∀ (H' : Heap) (slot : Nat), H'[N0 + a]? = some (cell.setSlot (D.2 ci k) v) → H'.size = H.size → (∀ q : Nat, q ≠ N0 + a → H'[q]? = H[q]?) → W p l e R s m args below meth c H' (locs ++ [⟨N0 + a, slot⟩]) cells slots Q (F0 m (pc + 3) ls rest) := by
    intro H' slot e1 e2 e3
    refine kk H' _ e2 e3 ⟨_, hq, t_OB.to (V := updV (vp_V (z_fs N0 G I a)) k v) ⟨_, e1, q2, q3, t_set q4 hap hkN v⟩ (fun j _ => vp_updV_set hlen v j)⟩ (fun x hx => ?_)
    rcases List.mem_append.mp hx with h | h
    · exact Or.inl h
    · rw [List.mem_singleton.mp h]; exact Or.inr rfl
  by_cases hfin : (r.2.1 k).2.2.2 = true
  · rw [if_pos hfin] at hlay
    obtain ⟨hin3, hdecl⟩ := hin2 (by unfold zFin; rw [hq]; exact hfin)
    have hcf : m.cls = cf := by
      obtain ⟨_, _, c', _, _, _, -, -, hf', -, -, -, hown2, -⟩ := Cond.laysFinal_spec hlay
      have e1 : c' = cf := by have := hi.symm.trans hf'; simp at this; exact this.1.symm
      rw [g4 k hkN, g5, ← hdecl] at hown2
      rw [← e1]; exact Option.some.inj (hown.symm.trans hown2)
    have h7 := u_fits hfc hkC hkind (Or.inr hlay) hi (g1 k hkN) hn hfit
    refine W.putFinK hexec hb hown (hL.1 _ hf r hq) (hsame _ hi) hst hcf hin3 (by rw [q2]; exact h7) q1 q3 (by rw [hsl]; exact k2_hasslot (q4 k hkN)) rfl rfl hdg fun H' e1 e2 e3 => ?_
    rw [hsl] at e1
    exact fin H' _ e1 e2 e3
  · rw [if_neg hfin] at hlay
    have h7 := u_store hfc hkC hkind hlay hi (g1 k hkN) hn hfit
    refine W.putK hexec hb (f := f) ⟨hown, hL.1 _ hf r hq, ⟨_, _, _, hsame _ hi⟩, hst⟩ (by rw [q2]; exact h7) q1 q3 (by rw [hsl]; exact k2_hasslot (q4 k hkN)) rfl rfl hdg fun H' e1 e2 e3 => ?_
    rw [hsl] at e1
    exact fin H' _ e1 e2 e3
theorem z_fs_setI {a k : Nat} {x : Int32} (hr : zIsR (zk G a) k = false) : z_fs N0 G (z_up I a k x) a = (z_fs N0 G I a).set k (.int x) := by
  apply List.ext_getElem?
  intro j
  by_cases hj : j < zNF (zk G a)
  · by_cases e : j = k
    · subst e
      rw [List.getElem?_set_self (by rw [z_fs_len rfl]; exact hj), z_fs_get rfl hj, hr]
      simp [z_up]
    · rw [List.getElem?_set_ne (Ne.symm e), z_fs_get rfl hj, z_fs_get rfl hj]
      simp [z_up, e]
  · rw [List.getElem?_eq_none (by rw [z_fs_len rfl]; omega), List.getElem?_eq_none (by rw [List.length_set, z_fs_len rfl]; omega)]
theorem z_fs_setR {a k b : Nat} (hr : zIsR (zk G a) k = true) : z_fs N0 (zn G, zs G, zk G, zl G, z_upR (zr G) a k (some b)) I a = (z_fs N0 G I a).set k (.ref (N0 + b)) := by
  have hg : ∀ j, j < zNF (zk G a) → (z_fs N0 (zn G, zs G, zk G, zl G, z_upR (zr G) a k (some b)) I a)[j]? = some (if zIsR (zk G a) j = true then va_rf ((z_upR (zr G) a k (some b) a j).map (fun b => N0 + b)) else .int (I a j)) := fun j hj => z_fs_get (G := (zn G, zs G, zk G, zl G, z_upR (zr G) a k (some b))) rfl hj
  apply List.ext_getElem?
  intro j
  by_cases hj : j < zNF (zk G a)
  · rw [hg j hj]
    by_cases e : j = k
    · subst e
      rw [List.getElem?_set_self (by rw [z_fs_len rfl]; exact hj), hr]
      simp [z_upR, va_rf]
    · rw [List.getElem?_set_ne (Ne.symm e), z_fs_get rfl hj]
      simp [z_upR, e]
  · rw [List.getElem?_eq_none (by rw [z_fs_len (G := (zn G, zs G, zk G, zl G, z_upR (zr G) a k (some b))) rfl]; exact Nat.not_lt.mp hj), List.getElem?_eq_none (by rw [List.length_set, z_fs_len rfl]; omega)]
theorem z_ce_otherI {a b k : Nat} {x : Int32} (h : b ≠ a) : z_ce cy N0 G (z_up I a k x) b = z_ce cy N0 G I b := by
  have h2 : z_up I a k x b = I b := by funext j; simp [z_up, h]
  simp only [z_ce, z_fs, h2]
theorem z_ce_otherR {a b k : Nat} {x : Option Nat} (h : b ≠ a) : z_ce cy N0 (zn G, zs G, zk G, zl G, z_upR (zr G) a k x) I b = z_ce cy N0 G I b := by
  have h2 : z_upR (zr G) a k x b = zr G b := by funext j; simp [z_upR, h]
  simp only [z_ce, z_fs, h2, zk, zl, zr]
theorem z_up_row {a k : Nat} {x : Int32} : z_up I a k x a = upd (I a) k x := by
  funext j
  simp [z_up, upd]
theorem z_hp_size (hp : z_hp D cy N0 s locs G I H) : H.size = N0 + zn G := hp.1
theorem z_iast (hexec : p.tables.exec = Jvm.exec) (hb : c.code = cc) (hK : va_K D zCl (z_tys cy) s) (hp : z_hp D cy N0 s locs G I H) {a : Nat} {i x : Int32} (ha : a < zn G) (hk : zk G a = 6) (hin : z_inr i (zl G a)) (hdg : decode cc pc = .ok (.iastore, 1))
    (kk : ∀ (H' : Heap) (locs' : List Loc), z_hp D cy N0 s locs' G (z_up I a i.toNatClampNeg x) H' → W p l e R s m args below meth c H' locs' cells slots Q (F0 m (pc + 1) ls rest)) : W p l e R s m args below meth c H locs cells slots Q (F0 m pc ls (.int x :: .int i :: .ref (N0 + a) :: rest)) := by
  have hat : va_at D zCl (N0 + a, z_ce cy N0 G I a) H := hp.2.1 a _ (z_lay_get ha)
  rw [z_ce_int hk] at hat
  refine W.iast hexec hb hat ((hK.2 0 _ rfl).1 (zl G a) (fun j => .int (I a j))) (fun q => by cases q) (by show ¬ (i < 0 ∨ (arrV _ _ _).slots.size ≤ _); rw [arrV_size]; exact z_vp hin) rfl rfl hdg fun H1 e z oq => ?_
  refine kk H1 _ (z_hp_put (a := a) hp rfl z oq ?_ (fun b hb => z_ce_otherI hb) (fun q hq => ?_))
  · rw [z_ce_int hk, z_up_row]
    show H1[N0 + a]? = some (vp_cell _ _)
    rw [e]
    rw [vp_cell_i, vp_cell_i, arrV_store]
    congr 2
    funext q
    by_cases hq : q = i.toNatClampNeg
    · subst hq
      simp [updV, upd]
    · simp [updV, upd, hq]
  · rcases List.mem_append.mp hq with h | h
    · exact Or.inl h
    · rw [List.mem_singleton.mp h]; exact Or.inr rfl
theorem z_aald (hexec : p.tables.exec = Jvm.exec) (hb : c.code = cc) (hK : va_K D zCl (z_tys cy) s) (hp : z_hp D cy N0 s locs G I H) {a : Nat} {i : Int32} (ha : a < zn G) (hk : zk G a = 7 ∨ zk G a = 8) (hin : z_inr i (zl G a)) (hdg : decode cc pc = .ok (.aaload, 1))
    (kk : W p l e R s m args below meth c H locs cells slots Q (F0 m (pc + 1) ls (va_rf ((zr G a i.toNatClampNeg).map (fun b => N0 + b)) :: rest))) : W p l e R s m args below meth c H locs cells slots Q (F0 m pc ls (.int i :: .ref (N0 + a) :: rest)) := by
  have hat : va_at D zCl (N0 + a, z_ce cy N0 G I a) H := hp.2.1 a _ (z_lay_get ha)
  have go : ∀ (t : Nat) (ty : FieldType) (k : Nat), zk G a = k → 6 < k → (z_tys cy)[t]? = some (cy k, ty) → ty.isReference = true → W p l e R s m args below meth c H locs cells slots Q (F0 m pc ls (.int i :: .ref (N0 + a) :: rest)) := by
    intro t ty k hk h6 ht hr
    rw [z_ce_ref hk h6] at hat
    have hat : H[N0 + a]? = some (vp_cell (cy k) (zl G a, .inr (.inr (.inr (.inr (fun j => (zr G a j).map (fun b => N0 + b))))))) := hat
    exact W.aald (v := va_rf ((zr G a i.toNatClampNeg).map (fun b => N0 + b))) (ty := ty) hexec hb hat ((hK.2 t _ ht).1 (zl G a) (fun j => va_rf ((zr G a j).map (fun b => N0 + b)))) hr (fun q => by cases q) (by show ¬ (i < 0 ∨ (arrV _ _ _).slots.size ≤ _); rw [arrV_size]; exact z_vp hin) (by show (arrV _ _ _).slots[_]? = _; rw [arrV_read _ _ hin.2]) rfl rfl hdg kk
  rcases hk with hk | hk
  · exact go 1 _ 7 hk (by decide) rfl rfl
  · exact go 2 _ 8 hk (by decide) rfl rfl
theorem z_aast (hexec : p.tables.exec = Jvm.exec) (hb : c.code = cc) (hK : va_K D zCl (z_tys cy) s) (hp : z_hp D cy N0 s locs G I H) {a b : Nat} {i : Int32} (ha : a < zn G) (hk : zk G a = 7) (hin : z_inr i (zl G a)) (hb2 : b < zn G) (hkb : zk G b = 1) (hdg : decode cc pc = .ok (.aastore, 1))
    (kk : ∀ (H' : Heap) (locs' : List Loc), z_hp D cy N0 s locs' (zn G, zs G, zk G, zl G, z_upR (zr G) a i.toNatClampNeg (some b)) I H' → W p l e R s m args below meth c H' locs' cells slots Q (F0 m (pc + 1) ls rest)) : W p l e R s m args below meth c H locs cells slots Q (F0 m pc ls (.ref (N0 + b) :: .int i :: .ref (N0 + a) :: rest)) := by
  have hat : va_at D zCl (N0 + a, z_ce cy N0 G I a) H := hp.2.1 a _ (z_lay_get ha)
  rw [z_ce_ref hk (by decide)] at hat
  have hatb : va_at D zCl (N0 + b, z_ce cy N0 G I b) H := hp.2.1 b _ (z_lay_get hb2)
  rw [z_ce_obj hkb (by decide)] at hatb
  obtain ⟨r', hr', cellV, g1, g2, g3, -⟩ := hatb
  have hq : zCl[1]? = some (RX1, TX1, 4) := rfl
  have hcls := (hK.1 1 _ hq).2
  obtain ⟨kA, comp, k1, k2, k3, -⟩ := (hK.2 1 _ rfl).2
  have hcomp : comp = D.1 1 := Option.some.inj (k3.symm.trans hcls.1)
  subst hcomp
  obtain ⟨kC, hkC, -⟩ := hcls.2
  refine W.aast hexec hb hat (fun q h => by cases h) (fun h => by cases h) k1 k2 rfl hkC ⟨z_n0 hin.1, by show _ < (arrV _ _ _).slots.size; rw [arrV_size]; exact hin.2⟩ g1 (fun q h => by rw [g3] at h; cases h) (by rw [g2]; exact hkC) (by rw [g2]; exact va_assign hcls) rfl rfl hdg fun H1 e z oq => ?_
  refine kk H1 _ (z_hp_put (a := a) hp rfl z oq ?_ (fun b hb => z_ce_otherR hb) (fun q hq => ?_))
  · rw [z_ce_ref (G := (zn G, zs G, zk G, zl G, z_upR (zr G) a i.toNatClampNeg (some b))) hk (by decide)]
    show H1[N0 + a]? = some (vp_cell _ _)
    rw [e]
    rw [vp_cell_q, vp_cell_q, arrV_store]
    congr 2
    funext q
    by_cases hq : q = i.toNatClampNeg
    · subst hq
      simp [updV, zr, z_upR, va_rf]
    · simp [updV, zr, z_upR, hq]
  · rcases List.mem_append.mp hq with h | h
    · exact Or.inl h
    · rw [List.mem_singleton.mp h]; exact Or.inr rfl
theorem z_newi (hexec : p.tables.exec = Jvm.exec) (hb : c.code = cc) (hK : va_K D zCl (z_tys cy) s) (hAc : (Cond.arrayClass .int).before args s = true) (hp : z_hp D cy N0 s locs G I H) {t : ArrayType} (ht : newarray.typeOf t = .int) {k : Int32} (h0 : 0 ≤ k) (h1 : k.toNatClampNeg ≤ 100000)
    (hcells : cells + 1 ≤ R.cells) (hslots : slots + k.toNatClampNeg ≤ R.slots) (hdg : decode cc pc = .ok (.newarray t, 2))
    (kk : ∀ (H' : Heap), z_hp D cy N0 s locs (z_new G 6 k.toNatClampNeg (fun _ => none)) (z_newI G I (fun _ => 0)) H' → W p l e R s m args below meth c H' locs (cells + 1) (slots + k.toNatClampNeg) Q (F0 m (pc + 2) ls (.ref (N0 + zn G) :: rest))) : W p l e R s m args below meth c H locs cells slots Q (F0 m pc ls (.int k :: rest)) := by
  refine va_newaK hexec hb (by rw [ht]; exact hAc) rfl hdg rfl (z_n0 h0) rfl (by rw [ht]; show k.toNatClampNeg * 4 ≤ _; omega) hcells hslots hp.1 fun H1 cA e1 z1 o1 hAr hNm => ?_
  rw [ht] at e1 hNm
  have hcA : cA = cy 6 := Option.some.inj (hNm.symm.trans (hK.2 0 _ rfl).2)
  subst hcA
  refine kk H1 (z_hp_new hp rfl (by rw [z1, hp.1]) (fun q hq => o1 q (by rw [← hp.1]; exact hq)) ?_ (fun b hb => z_new_ce hb))
  rw [z_ce_int (by simp [zk, z_new, va_up_self])]
  show H1[N0 + zn G]? = some (vp_cell _ _)
  rw [e1]
  simp [zl, z_new, z_newI, va_up_self, vp_cell, defaultValue]
theorem z_newl (hexec : p.tables.exec = Jvm.exec) (hb : c.code = cc) {own : Nat} (hown : s.vm.findClass (zR own) = some m.cls) (hK : va_K D zCl (z_tys cy) s) (hAo : va_AO "TooHotTooCold$Law" s) (hp : z_hp D cy N0 s locs G I H) {ix : Nat} {k : Int32} (h0 : 0 ≤ k) (h1 : k.toNatClampNeg ≤ 100000)
    (hcl : (Cond.classLink (zR own) ix "TooHotTooCold$Law").before args s = true) (hcells : cells + 1 ≤ R.cells) (hslots : slots + k.toNatClampNeg ≤ R.slots) (hdg : decode cc pc = .ok (.anewarray ix, 3))
    (kk : ∀ (H' : Heap), z_hp D cy N0 s locs (z_new G 7 k.toNatClampNeg (fun _ => none)) (z_newI G I (fun _ => 0)) H' → W p l e R s m args below meth c H' locs (cells + 1) (slots + k.toNatClampNeg) Q (F0 m (pc + 3) ls (.ref (N0 + zn G) :: rest))) : W p l e R s m args below meth c H locs cells slots Q (F0 m pc ls (.int k :: rest)) := by
  refine W.anew hexec hb hown hcl (va_AO.use hAo) rfl hdg rfl (z_n0 h0) (by omega) hcells hslots fun cA kA comp f1 f2 f3 f4 => ?_
  generalize hH1 : H.push ({ cls := cA, slots := Array.replicate k.toNatClampNeg .null, vm := .none } : Cell) = H1
  have z1 : H1.size = H.size + 1 := by rw [← hH1, Array.size_push]
  have e1 : H1[H.size]? = some (arrV cA k.toNatClampNeg (fun _ => .null)) := by rw [← hH1, Array.getElem?_push_size, ← arrV_new]
  have o1 : ∀ q : Nat, q < H.size → H1[q]? = H[q]? := fun q hq => by rw [← hH1, Array.getElem?_push, if_neg (Nat.ne_of_lt hq)]
  obtain ⟨kB, compB, k1, k2, k3, k4⟩ := (hK.2 1 _ rfl).2
  have hcA : cA = cy 7 := Option.some.inj (f1.symm.trans k4)
  subst hcA
  have K := kk H1 (z_hp_new hp rfl z1 o1 (by
    rw [z_ce_ref (k := 7) (by simp [zk, z_new, va_up_self]) (by decide)]
    show H1[N0 + zn G]? = some (vp_cell _ _)
    rw [← hp.1, e1]
    simp [zl, zr, z_new, va_up_self, vp_cell, va_rf]) (fun b hb => z_new_ce hb))
  rw [← hp.1] at K
  exact K
theorem z_newo (hexec : p.tables.exec = Jvm.exec) (hb : c.code = cc) {own : Nat} (hown : s.vm.findClass (zR own) = some m.cls) (hts : ∀ w ∈ zGW, w.before args s = true) (hK : va_K D zCl (z_tys cy) s) (hL : z_links s args) (hp : z_hp D cy N0 s locs G I H) {ix ci : Nat} (h6 : ci < 6)
    (hcl : (Cond.classLink (zR own) ix (zR ci)).before args s = true) (hcells : cells + 1 ≤ R.cells) (hslots : slots + zNF ci ≤ R.slots) (hdg : decode cc pc = .ok (.new ix, 3))
    (kk : ∀ (H' : Heap), z_hp D cy N0 s locs (z_new G ci (zNF ci) (fun _ => none)) (z_newI G I (fun _ => 0)) H' → W p l e R s m args below meth c H' locs (cells + 1) (slots + zNF ci) Q (F0 m (pc + 3) ls (.ref (N0 + zn G) :: rest))) : W p l e R s m args below meth c H locs cells slots Q (F0 m pc ls rest) := by
  obtain ⟨q, hq⟩ := zCl_lt h6
  obtain ⟨g1, g2, g3, g4, g5⟩ := zCl_ty _ _ hq
  have hini := hL.2.2.2.2.2.2.2.2 ci q hq
  have hKn := hK.1 ci _ hq
  rw [← g5] at hcl
  refine W.newcK hexec hb hown hcl (by rw [← g3]; exact hini.1) hini.2 rfl hdg hcells hslots hKn.2.1 hp.1 fun H1 kC hkC e1 z1 o1 => ?_
  refine kk H1 (z_hp_new hp rfl (by rw [z1, hp.1]) (fun q hq => o1 q (by rw [← hp.1]; exact hq)) ?_ (fun b hb => z_new_ce hb))
  rw [z_ce_obj (ci := ci) (by simp [zk, z_new, va_up_self]) h6]
  refine ⟨_, hq, (u_born (zTy ci) hts (zCl_in _ _ hq) hKn hkC e1 g1).to (fun j hj => ?_)⟩
  have hj2 : j < zNF ci := by rw [← g3]; exact hj
  show _ = ((z_fs N0 (z_new G ci (zNF ci) (fun _ => none)) (z_newI G I (fun _ => 0)) (zn G)).getD j .null)
  rw [List.getD_eq_getElem?_getD, z_fs_get (ci := ci) (by simp [zk, z_new, va_up_self]) hj2]
  simp only [zr, z_new, z_newI, va_up_self, Option.map_none, Option.getD_some]
  unfold zIsR
  have hty := zTy_ok ci h6 j hj2
  cases h : zTy ci j <;> rw [h] at hty <;> first | (cases hty; done) | simp [defaultValue, va_rf]
theorem z_many_n (len : Nat) : ∀ k : Nat, zn (z_many G I len k).1 = zn G + k ∧ zs (z_many G I len k).1 = zs G + k * len
  | 0 => ⟨rfl, by simp [z_many]⟩
  | k + 1 => by
    obtain ⟨h1, h2⟩ := z_many_n len k
    refine ⟨by show zn (z_many G I len k).1 + 1 = _; rw [h1]; rfl, by show zs (z_many G I len k).1 + len = _; rw [h2, Nat.succ_mul, Nat.add_assoc]⟩
theorem z_many_old (len : Nat) {b : Nat} (h : b < zn G) : ∀ k : Nat, z_ce cy N0 (z_many G I len k).1 (z_many G I len k).2 b = z_ce cy N0 G I b
  | 0 => rfl
  | k + 1 => by
    have h1 := (z_many_n (G := G) (I := I) len k).1
    show z_ce cy N0 (z_new _ 6 len (fun _ => none)) (z_newI _ _ (fun _ => 0)) b = _
    rw [z_new_ce (by rw [h1]; omega), z_many_old len h k]
theorem z_many_row (len : Nat) : ∀ (k j : Nat), j < k → z_ce cy N0 (z_many G I len k).1 (z_many G I len k).2 (zn G + j) = .inl (cy 6, len, .inl (fun _ => 0))
  | 0, j, h => absurd h (Nat.not_lt_zero j)
  | k + 1, j, h => by
    have h1 := (z_many_n (G := G) (I := I) len k).1
    show z_ce cy N0 (z_new _ 6 len (fun _ => none)) (z_newI _ _ (fun _ => 0)) (zn G + j) = _
    rcases Nat.lt_or_ge j k with q | q
    · rw [z_new_ce (by rw [h1]; omega), z_many_row len k j q]
    · have hj : j = k := by omega
      subst hj
      rw [← h1, z_ce_int (by simp [zk, z_new, va_up_self])]
      simp [zl, z_new, z_newI, va_up_self]
theorem z_outer (c : ClassId) (N h0 : Nat) : ∀ i : Nat, Jvm.Free.Multi.outerC c N h0 i = arrV c N (fun j => va_rf (if j < i then some (h0 + 1 + j) else none))
  | 0 => by
    show ({ cls := c, slots := Array.replicate N .null, vm := .none } : Cell) = _
    rw [arrV_new]
    refine congrArg (arrV c N) (funext fun j => ?_)
    simp [va_rf]
  | i + 1 => by
    show (Jvm.Free.Multi.outerC c N h0 i).setSlot i (.ref (h0 + 1 + i)) = _
    rw [z_outer c N h0 i, arrV_store]
    refine congrArg (arrV c N) (funext fun j => ?_)
    by_cases e : j = i
    · subst e
      simp [updV, va_rf]
    · by_cases h : j < i
      · simp [updV, e, h, Nat.lt_succ_of_lt h]
      · simp [updV, e, h, show ¬ j < i + 1 by omega]
theorem z_multi (hexec : p.tables.exec = Jvm.exec) (hb : c.code = cc) {own : Nat} (hown : s.vm.findClass (zR own) = some m.cls) (hK : va_K D zCl (z_tys cy) s) (hAc : (Cond.arrayClass .int).before args s = true) (hAA : z_AA s) (hp : z_hp D cy N0 s locs G I H) {ix : Nat} {k n : Int32} (h0 : 0 ≤ k) (h1 : k.toNatClampNeg ≤ 1000) (h2 : 0 ≤ n) (h3 : n.toNatClampNeg ≤ 1000)
    (hcl : (Cond.classLink (zR own) ix "[[I").before args s = true) (hcells : cells + (1 + n.toNatClampNeg) ≤ R.cells) (hslots : slots + (n.toNatClampNeg + n.toNatClampNeg * k.toNatClampNeg) ≤ R.slots) (hdg : decode cc pc = .ok (.multianewarray ix 2, 4))
    (kk : ∀ (H' : Heap), z_hp D cy N0 s locs (z_many (z_new G 8 n.toNatClampNeg (fun j => if j < n.toNatClampNeg then some (zn G + 1 + j) else none)) (z_newI G I (fun _ => 0)) k.toNatClampNeg n.toNatClampNeg).1 (z_many (z_new G 8 n.toNatClampNeg (fun j => if j < n.toNatClampNeg then some (zn G + 1 + j) else none)) (z_newI G I (fun _ => 0)) k.toNatClampNeg n.toNatClampNeg).2 H' →
      W p l e R s m args below meth c H' locs (cells + 1 + n.toNatClampNeg) (slots + n.toNatClampNeg + n.toNatClampNeg * k.toNatClampNeg) Q (F0 m (pc + 4) ls (.ref (N0 + zn G) :: rest))) : W p l e R s m args below meth c H locs cells slots Q (F0 m pc ls (.int k :: .int n :: rest)) := by
  obtain ⟨kB8, compB8, k81, k82⟩ := ((hK.2 2 _ rfl).1 0 (fun _ => .null)).2
  intro T hT Xs
  obtain ⟨vm₁, cA, comp, -, fA, fC, hO, -, X', step⟩ := Xs.multianewarray2F (ty := .int) hexec hown hcl hAA hAc (g := F0 m pc ls (.int k :: .int n :: rest)) rfl (by rw [hb]; exact hdg) rfl (z_n0 h2) (z_n0 h0) (by omega) (by show _ * 4 ≤ _; omega) (by omega) rfl rfl hcells hslots
  have ec : cy 6 = comp := Option.some.inj ((hK.2 0 _ rfl).2.symm.trans fC)
  subst ec
  have ea : cA = cy 8 := Option.some.inj (fA.symm.trans (hK.2 2 _ rfl).2)
  subst ea
  generalize hF : Jvm.Free.Multi.fill (T.setVm vm₁) (cy 8) (cy 6) n.toNatClampNeg k.toNatClampNeg (defaultValue .int) n.toNatClampNeg = F at X' step
  have hTh : (T.setVm vm₁).heap = H := hT
  obtain ⟨f1, f2, -, -⟩ := Jvm.Free.Multi.fill_facts (T.setVm vm₁) (cy 8) (cy 6) n.toNatClampNeg k.toNatClampNeg (defaultValue .int) n.toNatClampNeg
  rw [hF, hTh] at f1 f2
  have hold : ∀ x : Nat, x < H.size → F.heap[x]? = H[x]? := fun x hx => by
    have := Jvm.Free.Multi.fill_old (T.setVm vm₁) (cy 8) (cy 6) n.toNatClampNeg k.toNatClampNeg (defaultValue .int) (a := x) (by rw [hTh]; exact hx) n.toNatClampNeg
    rw [hF, hTh] at this
    exact this
  have hrow : ∀ j : Nat, j < n.toNatClampNeg → F.heap[H.size + 1 + j]? = some (vp_cell (cy 6) (k.toNatClampNeg, .inl (fun _ => 0))) := fun j hj => by
    have := Jvm.Free.Multi.fill_inner (T.setVm vm₁) (cy 8) (cy 6) n.toNatClampNeg k.toNatClampNeg (defaultValue .int) n.toNatClampNeg j hj
    rw [hF, hTh] at this
    rw [this]
    refine congrArg some ?_
    show ({ cls := cy 6, slots := Array.replicate k.toNatClampNeg (defaultValue .int), vm := .none } : Cell) = _
    rw [arrV_new]
    rfl
  rw [z_outer] at f2
  have hn2 := z_many_n (G := z_new G 8 n.toNatClampNeg (fun j => if j < n.toNatClampNeg then some (zn G + 1 + j) else none)) (I := z_newI G I (fun _ => 0)) k.toNatClampNeg n.toNatClampNeg
  have K := kk F.heap ⟨?_, fun a q hq => ?_, ⟨?_, fun q g1 g2 => ?_, hp.2.2.2.2⟩⟩
  · obtain ⟨t, a1, b1⟩ := K F rfl X'
    refine ⟨t, step t ?_, b1⟩
    rw [hT, hp.1]
    exact a1
  · rw [hn2.1, f1]
    show _ = N0 + (zn G + 1 + _)
    rw [hp.1]
    omega
  · obtain ⟨ha, rfl⟩ := z_lay_inv hq
    rw [hn2.1] at ha
    have ha : a < zn G + 1 + n.toNatClampNeg := ha
    rcases Nat.lt_or_ge a (zn G) with q | q
    · rw [z_many_old _ (show a < zn G + 1 by omega), z_new_ce q]
      exact (hp.2.1 a _ (z_lay_get q)).kept (hold _ (by show N0 + a < H.size; rw [hp.1]; omega))
    · rcases Nat.lt_or_ge a (zn G + 1) with q2 | q2
      · have e : a = zn G := by omega
        subst e
        rw [z_many_old _ (show zn G < zn G + 1 by omega), z_ce_ref (k := 8) (by simp [zk, z_new, va_up_self]) (by decide)]
        show F.heap[N0 + zn G]? = some (vp_cell _ _)
        rw [← hp.1, f2, vp_cell_q]
        refine congrArg some ?_
        simp only [zl, zr, z_new, va_up_self]
        refine congrArg (arrV _ _) (funext fun j => ?_)
        by_cases h : j < n.toNatClampNeg
        · simp only [h, if_true, Option.map_some, va_rf]
          exact congrArg Value.ref (by show H.size + 1 + j = N0 + (zn G + 1 + j); rw [hp.1]; omega)
        · simp [h]
      · obtain ⟨j, rfl⟩ : ∃ j, a = zn G + 1 + j := ⟨a - (zn G + 1), by omega⟩
        have hj : j < n.toNatClampNeg := by omega
        rw [show z_ce cy N0 (z_many (z_new G 8 n.toNatClampNeg (fun j => if j < n.toNatClampNeg then some (zn G + 1 + j) else none)) (z_newI G I (fun _ => 0)) k.toNatClampNeg n.toNatClampNeg).1 (z_many (z_new G 8 n.toNatClampNeg (fun j => if j < n.toNatClampNeg then some (zn G + 1 + j) else none)) (z_newI G I (fun _ => 0)) k.toNatClampNeg n.toNatClampNeg).2 (zn G + 1 + j) = _ from z_many_row _ _ j hj]
        show F.heap[N0 + (zn G + 1 + j)]? = some (vp_cell _ _)
        rw [show N0 + (zn G + 1 + j) = H.size + 1 + j by rw [hp.1]; omega]
        exact hrow j hj
  · rw [f1]; have := hp.2.2.1; omega
  · rw [hold q (Nat.lt_of_lt_of_le g1 hp.2.2.1)]; exact hp.2.2.2.1 q g1 g2
end ZH
