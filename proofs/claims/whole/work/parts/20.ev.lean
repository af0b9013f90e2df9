/-! ONE STEP OF THE PICTURE, goal first: a row an instruction. -/
/-- from a frame the picture comes to res -/
def Ev (X : Nat × (Nat → Int32)) (d μ pc : Nat) (lo st : List Value) (G : zG) (I : zI) (res : Option Value × zG × zI) : Prop := ∃ f, evF X f d μ pc lo st G I = some res
theorem evF_mono {X : Nat × (Nat → Int32)} : ∀ (f d μ pc : Nat) (lo st : List Value) (G : zG) (I : zI) (res : Option Value × zG × zI), evF X f d μ pc lo st G I = some res → ∀ f' d', f ≤ f' → d ≤ d' → evF X f' d' μ pc lo st G I = some res := by
  intro f
  induction f with
  | zero => intro d μ pc lo st G I res h; simp [evF] at h
  | succ f ih =>
    intro d μ pc lo st G I res h f' d' hf hd
    obtain ⟨f', rfl⟩ : ∃ k, f' = k + 1 := ⟨f' - 1, by omega⟩
    have hf' : f ≤ f' := by omega
    rw [evF] at h ⊢
    cases hzm : zM[μ]? with
    | none => rw [hzm] at h; cases h
    | some q0 =>
    rw [hzm] at h
    dsimp only at h ⊢
    cases hdc : decode q0.2.1 pc with
    | error x => rw [hdc] at h; cases h
    | ok v =>
    obtain ⟨i, n⟩ := v
    rw [hdc] at h
    dsimp only at h ⊢
    cases hpu : z_pure q0.2.2.2.2.1 n pc lo st i with
    | some o =>
      rw [hpu] at h
      exact ih _ _ _ _ _ _ _ _ h _ _ hf' hd
    | none =>
    rw [hpu] at h
    dsimp only at h ⊢
    cases hhe : z_heap X q0.1 q0.2.2.2.2.1 n pc st G I i with
    | some o =>
      rw [hhe] at h
      exact ih _ _ _ _ _ _ _ _ h _ _ hf' hd
    | none =>
    rw [hhe] at h
    dsimp only at h ⊢
    cases hre : z_ret q0.2.2.2.1 n st i with
    | some r0 => rw [hre] at h; exact h
    | none =>
    rw [hre] at h
    dsimp only at h ⊢
    cases d with
    | zero => cases h
    | succ d =>
    obtain ⟨d', rfl⟩ : ∃ k, d' = k + 1 := ⟨d' - 1, by omega⟩
    dsimp only at h ⊢
    cases hpr : z_prim q0.2.2.2.2.1 n pc st G I i with
    | some o =>
      rw [hpr] at h
      exact ih _ _ _ _ _ _ _ _ h _ _ hf' hd
    | none =>
    rw [hpr] at h
    dsimp only at h ⊢
    cases hca : z_call q0.2.2.2.2.1 n st G i with
    | none => rw [hca] at h; cases h
    | some o =>
    obtain ⟨ν, as, rest⟩ := o
    rw [hca] at h
    dsimp only at h ⊢
    cases hzn : zM[ν]? with
    | none => rw [hzn] at h; cases h
    | some q1 =>
    rw [hzn] at h
    dsimp only at h ⊢
    by_cases hlen : (z_ea as).length ≤ q1.2.2.1
    · rw [if_pos hlen] at h ⊢
      cases hev : evF X f d ν 0 (z_ent q1.2.2.1 as) [] G I with
      | none => rw [hev] at h; cases h
      | some w =>
      rw [hev] at h
      rw [ih _ _ _ _ _ _ _ _ hev f' d' hf' (by omega)]
      exact ih _ _ _ _ _ _ _ _ h _ _ hf' hd
    · rw [if_neg hlen] at h; cases h
/-- a method's run, from its arguments to its answer -/
def Cv (X : Nat × (Nat → Int32)) (d ν : Nat) (as : List Value) (G : zG) (I : zI) (res : Option Value × zG × zI) : Prop := ∃ q, zM[ν]? = some q ∧ (z_ea as).length ≤ q.2.2.1 ∧ Ev X d ν 0 (z_ent q.2.2.1 as) [] G I res
section EV
variable {X : Nat × (Nat → Int32)} {d μ pc : Nat} {lo st : List Value} {G : zG} {I : zI} {res : Option Value × zG × zI} {nm : MethodName} {cd : ByteArray} {ml : Nat} {rt : Option FieldType} {ow np : Nat}
theorem Ev.deep {d' : Nat} (h : Ev X d μ pc lo st G I res) (hd : d ≤ d') : Ev X d' μ pc lo st G I res := by
  obtain ⟨f, hf⟩ := h
  exact ⟨f, evF_mono _ _ _ _ _ _ _ _ _ hf _ _ (Nat.le_refl _) hd⟩
theorem Cv.deep {d' ν : Nat} {as : List Value} (h : Cv X d ν as G I res) (hd : d ≤ d') : Cv X d' ν as G I res := by
  obtain ⟨q, h1, h2, h3⟩ := h
  exact ⟨q, h1, h2, h3.deep hd⟩
theorem Ev_p {i : Instr} {n pc' : Nat} {lo' st' : List Value} (hq : zM[μ]? = some (nm, cd, ml, rt, ow, np)) (hd : decode cd pc = .ok (i, n)) (h : z_pure ow n pc lo st i = some (pc', lo', st')) (k : Ev X d μ pc' lo' st' G I res) : Ev X d μ pc lo st G I res := by
  obtain ⟨f, hf⟩ := k
  refine ⟨f + 1, ?_⟩
  rw [evF, hq]
  dsimp only
  rw [hd]
  dsimp only
  rw [h]
  exact hf
theorem Ev_h {i : Instr} {n pc' : Nat} {st' : List Value} {G' : zG} {I' : zI} (hq : zM[μ]? = some (nm, cd, ml, rt, ow, np)) (hd : decode cd pc = .ok (i, n)) (hp : z_pure ow n pc lo st i = none) (h : z_heap X nm ow n pc st G I i = some (pc', st', G', I')) (k : Ev X d μ pc' lo st' G' I' res) : Ev X d μ pc lo st G I res := by
  obtain ⟨f, hf⟩ := k
  refine ⟨f + 1, ?_⟩
  rw [evF, hq]
  dsimp only
  rw [hd]
  dsimp only
  rw [hp]
  dsimp only
  rw [h]
  exact hf
theorem Ev_r {i : Instr} {n : Nat} {r : Option Value} (hq : zM[μ]? = some (nm, cd, ml, rt, ow, np)) (hd : decode cd pc = .ok (i, n)) (hp : z_pure ow n pc lo st i = none) (hh : z_heap X nm ow n pc st G I i = none) (h : z_ret rt n st i = some r) (k : res = (r, G, I)) : Ev X d μ pc lo st G I res := by
  refine ⟨1, ?_⟩
  rw [evF, hq]
  dsimp only
  rw [hd]
  dsimp only
  rw [hp]
  dsimp only
  rw [hh]
  dsimp only
  rw [h, k]
theorem Ev_m {i : Instr} {n pc' : Nat} {st' : List Value} {G' : zG} {I' : zI} (hq : zM[μ]? = some (nm, cd, ml, rt, ow, np)) (hd : decode cd pc = .ok (i, n)) (hp : z_pure ow n pc lo st i = none) (hh : z_heap X nm ow n pc st G I i = none) (hr : z_ret rt n st i = none) (h : z_prim ow n pc st G I i = some (pc', st', G', I')) (k : Ev X (d + 1) μ pc' lo st' G' I' res) : Ev X (d + 1) μ pc lo st G I res := by
  obtain ⟨f, hf⟩ := k
  refine ⟨f + 1, ?_⟩
  rw [evF, hq]
  dsimp only
  rw [hd]
  dsimp only
  rw [hp]
  dsimp only
  rw [hh]
  dsimp only
  rw [hr]
  dsimp only
  rw [h]
  exact hf
theorem Ev_c {i : Instr} {n ν : Nat} {as rest : List Value} {r : Option Value} {G' : zG} {I' : zI} (hq : zM[μ]? = some (nm, cd, ml, rt, ow, np)) (hd : decode cd pc = .ok (i, n)) (hp : z_pure ow n pc lo st i = none) (hh : z_heap X nm ow n pc st G I i = none) (hr : z_ret rt n st i = none) (hm : z_prim ow n pc st G I i = none) (h : z_call ow n st G i = some (ν, as, rest))
    (hc : Cv X d ν as G I (r, G', I')) (k : Ev X (d + 1) μ (pc + 3) lo (r.toList ++ rest) G' I' res) : Ev X (d + 1) μ pc lo st G I res := by
  obtain ⟨f, hf⟩ := k
  obtain ⟨q, h1, h2, f2, h3⟩ := hc
  refine ⟨f + f2 + 1, ?_⟩
  rw [evF, hq]
  dsimp only
  rw [hd]
  dsimp only
  rw [hp]
  dsimp only
  rw [hh]
  dsimp only
  rw [hr]
  dsimp only
  rw [hm]
  dsimp only
  rw [h]
  dsimp only
  rw [h1]
  dsimp only
  rw [if_pos h2, evF_mono _ _ _ _ _ _ _ _ _ h3 (f + f2) d (by omega) (Nat.le_refl _)]
  exact evF_mono _ _ _ _ _ _ _ _ _ hf (f + f2) (d + 1) (by omega) (Nat.le_refl _)
/-- a method's run begins at its entry -/
theorem Cv.of {ν : Nat} {as : List Value} {lo0 : List Value} (hq : zM[ν]? = some (nm, cd, ml, rt, ow, np)) (hl : (z_ea as).length ≤ ml) (he : z_ent ml as = lo0) (h : Ev X d ν 0 lo0 [] G I res) : Cv X d ν as G I res := ⟨_, hq, hl, by rw [he]; exact h⟩

theorem Ev_iconst {n : Int} {v : Int32} (hq : zM[μ]? = some (nm, cd, ml, rt, ow, np)) (hd : decode cd pc = .ok (.iconst n, 1)) (hv : Int32.ofInt n = v) (k : Ev X d μ (pc + 1) lo (.int v :: st) G I res) : Ev X d μ pc lo (st) G I res := Ev_p hq hd (by rw [← hv]; rfl) k
theorem Ev_bipush {n : Int} {v : Int32} (hq : zM[μ]? = some (nm, cd, ml, rt, ow, np)) (hd : decode cd pc = .ok (.bipush n, 2)) (hv : (Int8.ofInt n).toInt32 = v) (k : Ev X d μ (pc + 2) lo (.int v :: st) G I res) : Ev X d μ pc lo (st) G I res := Ev_p hq hd (by rw [← hv]; rfl) k
theorem Ev_sipush {n : Int} {v : Int32} (hq : zM[μ]? = some (nm, cd, ml, rt, ow, np)) (hd : decode cd pc = .ok (.sipush n, 3)) (hv : (Int16.ofInt n).toInt32 = v) (k : Ev X d μ (pc + 3) lo (.int v :: st) G I res) : Ev X d μ pc lo (st) G I res := Ev_p hq hd (by rw [← hv]; rfl) k
theorem Ev_lconst {n : Fin 2} {v : Int64} (hq : zM[μ]? = some (nm, cd, ml, rt, ow, np)) (hd : decode cd pc = .ok (.lconst n, 1)) (hv : Int64.ofNat (n : Nat) = v) (k : Ev X d μ (pc + 1) lo (.long v :: st) G I res) : Ev X d μ pc lo (st) G I res := Ev_p hq hd (by rw [← hv]; rfl) k
theorem Ev_ldc {i : Nat} {v : Int32} (hq : zM[μ]? = some (nm, cd, ml, rt, ow, np)) (hd : decode cd pc = .ok (.ldc i, 2)) (hv : zLk zK ow i = some v) (k : Ev X d μ (pc + 2) lo (.int v :: st) G I res) : Ev X d μ pc lo (st) G I res := Ev_p hq hd (by simp only [z_pure, hv]; rfl) k
theorem Ev_ldcs {i : Nat} {q : Nat × String} (hq : zM[μ]? = some (nm, cd, ml, rt, ow, np)) (hd : decode cd pc = .ok (.ldc i, 2)) (h0 : zLk zK ow i = none) (hv : zLk zS ow i = some q) (k : Ev X d μ (pc + 2) lo (zX (q.1 + 2) :: st) G I res) : Ev X d μ pc lo (st) G I res := Ev_p hq hd (by simp only [z_pure, h0, hv]; rfl) k
theorem Ev_ldcw {i : Nat} {v : Int32} (hq : zM[μ]? = some (nm, cd, ml, rt, ow, np)) (hd : decode cd pc = .ok (.ldc_w i, 3)) (hv : zLk zK ow i = some v) (k : Ev X d μ (pc + 3) lo (.int v :: st) G I res) : Ev X d μ pc lo (st) G I res := Ev_p hq hd (by simp only [z_pure, hv]; rfl) k
theorem Ev_ldc2 {i : Nat} {v : Int64} (hq : zM[μ]? = some (nm, cd, ml, rt, ow, np)) (hd : decode cd pc = .ok (.ldc2_w i, 3)) (hv : zLk zKL ow i = some v) (k : Ev X d μ (pc + 3) lo (.long v :: st) G I res) : Ev X d μ pc lo (st) G I res := Ev_p hq hd (by simp only [z_pure, hv]; rfl) k
theorem Ev_iload {i : Nat} {x : Int32} (hq : zM[μ]? = some (nm, cd, ml, rt, ow, np)) (hd : decode cd pc = .ok (.iload i, 2)) (hl : lo[i]? = some (.int x)) (k : Ev X d μ (pc + 2) lo (.int x :: st) G I res) : Ev X d μ pc lo (st) G I res := Ev_p hq hd (by simp only [z_pure, z_ld, hl]; rfl) k
theorem Ev_iload_n {i : Fin 4} {x : Int32} (hq : zM[μ]? = some (nm, cd, ml, rt, ow, np)) (hd : decode cd pc = .ok (.iload_n i, 1)) (hl : lo[(i : Nat)]? = some (.int x)) (k : Ev X d μ (pc + 1) lo (.int x :: st) G I res) : Ev X d μ pc lo (st) G I res := Ev_p hq hd (by simp only [z_pure, z_ld, hl]; rfl) k
theorem Ev_lload {i : Nat} {x : Int64} (hq : zM[μ]? = some (nm, cd, ml, rt, ow, np)) (hd : decode cd pc = .ok (.lload i, 2)) (hl : lo[i]? = some (.long x)) (k : Ev X d μ (pc + 2) lo (.long x :: st) G I res) : Ev X d μ pc lo (st) G I res := Ev_p hq hd (by simp only [z_pure, z_ldl, hl]; rfl) k
theorem Ev_lload_n {i : Fin 4} {x : Int64} (hq : zM[μ]? = some (nm, cd, ml, rt, ow, np)) (hd : decode cd pc = .ok (.lload_n i, 1)) (hl : lo[(i : Nat)]? = some (.long x)) (k : Ev X d μ (pc + 1) lo (.long x :: st) G I res) : Ev X d μ pc lo (st) G I res := Ev_p hq hd (by simp only [z_pure, z_ldl, hl]; rfl) k
theorem Ev_aload {i : Nat} {x : Nat} (hq : zM[μ]? = some (nm, cd, ml, rt, ow, np)) (hd : decode cd pc = .ok (.aload i, 2)) (hl : lo[i]? = some (.ref x)) (k : Ev X d μ (pc + 2) lo (.ref x :: st) G I res) : Ev X d μ pc lo (st) G I res := Ev_p hq hd (by simp only [z_pure, z_lda, hl]; rfl) k
theorem Ev_aload_n {i : Fin 4} {x : Nat} (hq : zM[μ]? = some (nm, cd, ml, rt, ow, np)) (hd : decode cd pc = .ok (.aload_n i, 1)) (hl : lo[(i : Nat)]? = some (.ref x)) (k : Ev X d μ (pc + 1) lo (.ref x :: st) G I res) : Ev X d μ pc lo (st) G I res := Ev_p hq hd (by simp only [z_pure, z_lda, hl]; rfl) k
theorem Ev_aloadx {i : Nat} {j : Nat} (hq : zM[μ]? = some (nm, cd, ml, rt, ow, np)) (hd : decode cd pc = .ok (.aload i, 2)) (hj : j < 40) (hl : lo[i]? = some (.retAddr (j + 1))) (k : Ev X d μ (pc + 2) lo (.retAddr (j + 1) :: st) G I res) : Ev X d μ pc lo (st) G I res := Ev_p hq hd (by simp only [z_pure, z_lda, hl, if_pos hj]; rfl) k
theorem Ev_aloadx_n {i : Fin 4} {j : Nat} (hq : zM[μ]? = some (nm, cd, ml, rt, ow, np)) (hd : decode cd pc = .ok (.aload_n i, 1)) (hj : j < 40) (hl : lo[(i : Nat)]? = some (.retAddr (j + 1))) (k : Ev X d μ (pc + 1) lo (.retAddr (j + 1) :: st) G I res) : Ev X d μ pc lo (st) G I res := Ev_p hq hd (by simp only [z_pure, z_lda, hl, if_pos hj]; rfl) k
theorem Ev_istore {i : Nat} {x : Int32} {lo2 : List Value} (hq : zM[μ]? = some (nm, cd, ml, rt, ow, np)) (hd : decode cd pc = .ok (.istore i, 2)) (hl : i < lo.length) (h2 : z_s1 lo i (.int x) = lo2) (k : Ev X d μ (pc + 2) lo2 (st) G I res) : Ev X d μ pc lo (.int x :: st) G I res := Ev_p hq hd (by simp only [z_pure, z_sto, if_pos hl, h2]; rfl) k
theorem Ev_istore_n {i : Fin 4} {x : Int32} {lo2 : List Value} (hq : zM[μ]? = some (nm, cd, ml, rt, ow, np)) (hd : decode cd pc = .ok (.istore_n i, 1)) (hl : (i : Nat) < lo.length) (h2 : z_s1 lo i (.int x) = lo2) (k : Ev X d μ (pc + 1) lo2 (st) G I res) : Ev X d μ pc lo (.int x :: st) G I res := Ev_p hq hd (by simp only [z_pure, z_sto, if_pos hl, h2]; rfl) k
theorem Ev_astore {i : Nat} {x : Nat} {lo2 : List Value} (hq : zM[μ]? = some (nm, cd, ml, rt, ow, np)) (hd : decode cd pc = .ok (.astore i, 2)) (hl : i < lo.length) (h2 : z_s1 lo i (.ref x) = lo2) (k : Ev X d μ (pc + 2) lo2 (st) G I res) : Ev X d μ pc lo (.ref x :: st) G I res := Ev_p hq hd (by simp only [z_pure, z_sta, if_pos hl, h2]; rfl) k
theorem Ev_astore_n {i : Fin 4} {x : Nat} {lo2 : List Value} (hq : zM[μ]? = some (nm, cd, ml, rt, ow, np)) (hd : decode cd pc = .ok (.astore_n i, 1)) (hl : (i : Nat) < lo.length) (h2 : z_s1 lo i (.ref x) = lo2) (k : Ev X d μ (pc + 1) lo2 (st) G I res) : Ev X d μ pc lo (.ref x :: st) G I res := Ev_p hq hd (by simp only [z_pure, z_sta, if_pos hl, h2]; rfl) k
theorem Ev_lstore {i : Nat} {x : Int64} {lo2 : List Value} (hq : zM[μ]? = some (nm, cd, ml, rt, ow, np)) (hd : decode cd pc = .ok (.lstore i, 2)) (hl : i + 1 < lo.length) (h2 : z_s2 lo i (.long x) = lo2) (k : Ev X d μ (pc + 2) lo2 (st) G I res) : Ev X d μ pc lo (.long x :: st) G I res := Ev_p hq hd (by simp only [z_pure, z_stl, if_pos hl, h2]; rfl) k
theorem Ev_lstore_n {i : Fin 4} {x : Int64} {lo2 : List Value} (hq : zM[μ]? = some (nm, cd, ml, rt, ow, np)) (hd : decode cd pc = .ok (.lstore_n i, 1)) (hl : (i : Nat) + 1 < lo.length) (h2 : z_s2 lo i (.long x) = lo2) (k : Ev X d μ (pc + 1) lo2 (st) G I res) : Ev X d μ pc lo (.long x :: st) G I res := Ev_p hq hd (by simp only [z_pure, z_stl, if_pos hl, h2]; rfl) k
theorem Ev_iinc {i : Nat} {n : Int} {x v : Int32} {lo2 : List Value} (hq : zM[μ]? = some (nm, cd, ml, rt, ow, np)) (hd : decode cd pc = .ok (.iinc i n, 3)) (hl : lo[i]? = some (.int x)) (hv : x + Int32.ofInt n = v) (h2 : z_s1 lo i (.int v) = lo2) (k : Ev X d μ (pc + 3) lo2 (st) G I res) : Ev X d μ pc lo (st) G I res := Ev_p hq hd (by simp only [z_pure, hl, hv, h2]; rfl) k
theorem Ev_iadd {x y : Int32} (hq : zM[μ]? = some (nm, cd, ml, rt, ow, np)) (hd : decode cd pc = .ok (.iadd, 1)) (k : Ev X d μ (pc + 1) lo (.int (x + y) :: st) G I res) : Ev X d μ pc lo (.int y :: .int x :: st) G I res := Ev_p hq hd rfl k
theorem Ev_isub {x y : Int32} (hq : zM[μ]? = some (nm, cd, ml, rt, ow, np)) (hd : decode cd pc = .ok (.isub, 1)) (k : Ev X d μ (pc + 1) lo (.int (x - y) :: st) G I res) : Ev X d μ pc lo (.int y :: .int x :: st) G I res := Ev_p hq hd rfl k
theorem Ev_imul {x y : Int32} (hq : zM[μ]? = some (nm, cd, ml, rt, ow, np)) (hd : decode cd pc = .ok (.imul, 1)) (k : Ev X d μ (pc + 1) lo (.int (x * y) :: st) G I res) : Ev X d μ pc lo (.int y :: .int x :: st) G I res := Ev_p hq hd rfl k
theorem Ev_iand {x y : Int32} (hq : zM[μ]? = some (nm, cd, ml, rt, ow, np)) (hd : decode cd pc = .ok (.iand, 1)) (k : Ev X d μ (pc + 1) lo (.int (x &&& y) :: st) G I res) : Ev X d μ pc lo (.int y :: .int x :: st) G I res := Ev_p hq hd rfl k
theorem Ev_ior {x y : Int32} (hq : zM[μ]? = some (nm, cd, ml, rt, ow, np)) (hd : decode cd pc = .ok (.ior, 1)) (k : Ev X d μ (pc + 1) lo (.int (x ||| y) :: st) G I res) : Ev X d μ pc lo (.int y :: .int x :: st) G I res := Ev_p hq hd rfl k
theorem Ev_ixor {x y : Int32} (hq : zM[μ]? = some (nm, cd, ml, rt, ow, np)) (hd : decode cd pc = .ok (.ixor, 1)) (k : Ev X d μ (pc + 1) lo (.int (x ^^^ y) :: st) G I res) : Ev X d μ pc lo (.int y :: .int x :: st) G I res := Ev_p hq hd rfl k
theorem Ev_ishl {x y : Int32} (hq : zM[μ]? = some (nm, cd, ml, rt, ow, np)) (hd : decode cd pc = .ok (.ishl, 1)) (k : Ev X d μ (pc + 1) lo (.int (x <<< (y &&& 31)) :: st) G I res) : Ev X d μ pc lo (.int y :: .int x :: st) G I res := Ev_p hq hd rfl k
theorem Ev_ishr {x y : Int32} (hq : zM[μ]? = some (nm, cd, ml, rt, ow, np)) (hd : decode cd pc = .ok (.ishr, 1)) (k : Ev X d μ (pc + 1) lo (.int (x >>> (y &&& 31)) :: st) G I res) : Ev X d μ pc lo (.int y :: .int x :: st) G I res := Ev_p hq hd rfl k
theorem Ev_iushr {x y : Int32} (hq : zM[μ]? = some (nm, cd, ml, rt, ow, np)) (hd : decode cd pc = .ok (.iushr, 1)) (k : Ev X d μ (pc + 1) lo (.int ((x.toUInt32 >>> (y.toUInt32 &&& Int32.toUInt32 31)).toInt32) :: st) G I res) : Ev X d μ pc lo (.int y :: .int x :: st) G I res := Ev_p hq hd rfl k
theorem Ev_idiv {x y : Int32} (hq : zM[μ]? = some (nm, cd, ml, rt, ow, np)) (hd : decode cd pc = .ok (.idiv, 1)) (hy : ¬ y = 0) (k : Ev X d μ (pc + 1) lo (.int (x / y) :: st) G I res) : Ev X d μ pc lo (.int y :: .int x :: st) G I res := Ev_p hq hd (by simp only [z_pure, z_d2, if_neg hy]; rfl) k
theorem Ev_irem {x y : Int32} (hq : zM[μ]? = some (nm, cd, ml, rt, ow, np)) (hd : decode cd pc = .ok (.irem, 1)) (hy : ¬ y = 0) (k : Ev X d μ (pc + 1) lo (.int (x - x / y * y) :: st) G I res) : Ev X d μ pc lo (.int y :: .int x :: st) G I res := Ev_p hq hd (by simp only [z_pure, z_d2, if_neg hy]; rfl) k
theorem Ev_ineg {x : Int32} (hq : zM[μ]? = some (nm, cd, ml, rt, ow, np)) (hd : decode cd pc = .ok (.ineg, 1)) (k : Ev X d μ (pc + 1) lo (.int (-x) :: st) G I res) : Ev X d μ pc lo (.int x :: st) G I res := Ev_p hq hd rfl k
theorem Ev_i2b {x : Int32} (hq : zM[μ]? = some (nm, cd, ml, rt, ow, np)) (hd : decode cd pc = .ok (.i2b, 1)) (k : Ev X d μ (pc + 1) lo (.int (x.toInt8.toInt32) :: st) G I res) : Ev X d μ pc lo (.int x :: st) G I res := Ev_p hq hd rfl k
theorem Ev_i2s {x : Int32} (hq : zM[μ]? = some (nm, cd, ml, rt, ow, np)) (hd : decode cd pc = .ok (.i2s, 1)) (k : Ev X d μ (pc + 1) lo (.int (x.toInt16.toInt32) :: st) G I res) : Ev X d μ pc lo (.int x :: st) G I res := Ev_p hq hd rfl k
theorem Ev_i2c {x : Int32} (hq : zM[μ]? = some (nm, cd, ml, rt, ow, np)) (hd : decode cd pc = .ok (.i2c, 1)) (k : Ev X d μ (pc + 1) lo (.int ((x.toUInt32 % 65536).toInt32) :: st) G I res) : Ev X d μ pc lo (.int x :: st) G I res := Ev_p hq hd rfl k
theorem Ev_i2l {x : Int32} (hq : zM[μ]? = some (nm, cd, ml, rt, ow, np)) (hd : decode cd pc = .ok (.i2l, 1)) (k : Ev X d μ (pc + 1) lo (.long x.toInt64 :: st) G I res) : Ev X d μ pc lo (.int x :: st) G I res := Ev_p hq hd rfl k
theorem Ev_l2i {x : Int64} (hq : zM[μ]? = some (nm, cd, ml, rt, ow, np)) (hd : decode cd pc = .ok (.l2i, 1)) (k : Ev X d μ (pc + 1) lo (.int x.toInt32 :: st) G I res) : Ev X d μ pc lo (.long x :: st) G I res := Ev_p hq hd rfl k
theorem Ev_ladd {x y : Int64} (hq : zM[μ]? = some (nm, cd, ml, rt, ow, np)) (hd : decode cd pc = .ok (.ladd, 1)) (k : Ev X d μ (pc + 1) lo (.long (x + y) :: st) G I res) : Ev X d μ pc lo (.long y :: .long x :: st) G I res := Ev_p hq hd rfl k
theorem Ev_lmul {x y : Int64} (hq : zM[μ]? = some (nm, cd, ml, rt, ow, np)) (hd : decode cd pc = .ok (.lmul, 1)) (k : Ev X d μ (pc + 1) lo (.long (x * y) :: st) G I res) : Ev X d μ pc lo (.long y :: .long x :: st) G I res := Ev_p hq hd rfl k
theorem Ev_ldiv {x y : Int64} (hq : zM[μ]? = some (nm, cd, ml, rt, ow, np)) (hd : decode cd pc = .ok (.ldiv, 1)) (hy : ¬ y = 0) (k : Ev X d μ (pc + 1) lo (.long (x / y) :: st) G I res) : Ev X d μ pc lo (.long y :: .long x :: st) G I res := Ev_p hq hd (by simp only [z_pure, z_m2, if_neg hy]; rfl) k
theorem Ev_lrem {x y : Int64} (hq : zM[μ]? = some (nm, cd, ml, rt, ow, np)) (hd : decode cd pc = .ok (.lrem, 1)) (hy : ¬ y = 0) (k : Ev X d μ (pc + 1) lo (.long (x - x / y * y) :: st) G I res) : Ev X d μ pc lo (.long y :: .long x :: st) G I res := Ev_p hq hd (by simp only [z_pure, z_m2, if_neg hy]; rfl) k
theorem Ev_lcmp {x y : Int64} (hq : zM[μ]? = some (nm, cd, ml, rt, ow, np)) (hd : decode cd pc = .ok (.lcmp, 1)) (k : Ev X d μ (pc + 1) lo (.int (lg_cmp x y) :: st) G I res) : Ev X d μ pc lo (.long y :: .long x :: st) G I res := Ev_p hq hd rfl k
theorem Ev_dup {v : Value} (hq : zM[μ]? = some (nm, cd, ml, rt, ow, np)) (hd : decode cd pc = .ok (.dup, 1)) (hv : v.category = 1) (k : Ev X d μ (pc + 1) lo (v :: v :: st) G I res) : Ev X d μ pc lo (v :: st) G I res := Ev_p hq hd (by simp only [z_pure, if_pos hv]; rfl) k
theorem Ev_dup_x1 {v w : Value} (hq : zM[μ]? = some (nm, cd, ml, rt, ow, np)) (hd : decode cd pc = .ok (.dup_x1, 1)) (hv : v.category = 1 ∧ w.category = 1) (k : Ev X d μ (pc + 1) lo (v :: w :: v :: st) G I res) : Ev X d μ pc lo (v :: w :: st) G I res := Ev_p hq hd (by simp only [z_pure, if_pos hv]; rfl) k
theorem Ev_dup2 {v w : Value} (hq : zM[μ]? = some (nm, cd, ml, rt, ow, np)) (hd : decode cd pc = .ok (.dup2, 1)) (hv : v.category = 1 ∧ w.category = 1) (k : Ev X d μ (pc + 1) lo (v :: w :: v :: w :: st) G I res) : Ev X d μ pc lo (v :: w :: st) G I res := Ev_p hq hd (by simp only [z_pure, if_pos hv]; rfl) k
theorem Ev_pop {v : Value} (hq : zM[μ]? = some (nm, cd, ml, rt, ow, np)) (hd : decode cd pc = .ok (.pop, 1)) (hv : v.category = 1) (k : Ev X d μ (pc + 1) lo (st) G I res) : Ev X d μ pc lo (v :: st) G I res := Ev_p hq hd (by simp only [z_pure, if_pos hv]; rfl) k
theorem zj_ok {len pc : Nat} {off : Int} {lo st : List Value} {tgt : Nat} (ht : (pc : Int) + off = (tgt : Int)) : zj len len pc off lo st = some (tgt, lo, st) := by
  have h1 : ((pc : Int) + off).toNat = tgt := by omega
  unfold zj
  rw [if_pos ⟨rfl, by omega⟩, h1]
theorem Ev_goto {off : Int} {tgt : Nat} (hq : zM[μ]? = some (nm, cd, ml, rt, ow, np)) (hd : decode cd pc = .ok (.goto off, 3)) (ht : (pc : Int) + off = (tgt : Int)) (k : Ev X d μ tgt lo st G I res) : Ev X d μ pc lo st G I res := Ev_p hq hd (zj_ok ht) k
theorem Ev_ifnonnull {a : Nat} {off : Int} {tgt : Nat} (hq : zM[μ]? = some (nm, cd, ml, rt, ow, np)) (hd : decode cd pc = .ok (.ifnonnull off, 3)) (ht : (pc : Int) + off = (tgt : Int)) (k : Ev X d μ tgt lo st G I res) : Ev X d μ pc lo (.ref a :: st) G I res := Ev_p hq hd (zj_ok ht) k
theorem z_br_t {c : ClassFile.Cond} {x y : Int32} {off : Int} {pc tgt : Nat} {lo r : List Value} (ht : (pc : Int) + off = (tgt : Int)) (h : z_cmp c x y) : z_br c x y off 3 pc lo r = some (tgt, lo, r) := by
  have h1 : ((pc : Int) + off).toNat = tgt := by omega
  unfold z_br
  rw [if_pos ⟨rfl, by omega⟩, if_pos h, h1]
theorem z_br_f {c : ClassFile.Cond} {x y : Int32} {off : Int} {pc tgt : Nat} {lo r : List Value} (ht : (pc : Int) + off = (tgt : Int)) (h : ¬ z_cmp c x y) : z_br c x y off 3 pc lo r = some (pc + 3, lo, r) := by
  unfold z_br
  rw [if_pos ⟨rfl, by omega⟩, if_neg h]
theorem Ev_icmp_eq {x y : Int32} {off : Int} {tgt : Nat} (hq : zM[μ]? = some (nm, cd, ml, rt, ow, np)) (hd : decode cd pc = .ok (.if_icmp .eq off, 3)) (ht : (pc : Int) + off = (tgt : Int)) (kt : x = y → Ev X d μ tgt lo st G I res) (kf : ¬ (x = y) → Ev X d μ (pc + 3) lo st G I res) : Ev X d μ pc lo (.int y :: .int x :: st) G I res := by
  by_cases h : x = y
  · exact Ev_p hq hd (z_br_t (c := .eq) ht h) (kt h)
  · exact Ev_p hq hd (z_br_f (c := .eq) ht h) (kf h)
theorem Ev_if_eq {x : Int32} {off : Int} {tgt : Nat} (hq : zM[μ]? = some (nm, cd, ml, rt, ow, np)) (hd : decode cd pc = .ok (.ifCond .eq off, 3)) (ht : (pc : Int) + off = (tgt : Int)) (kt : x = 0 → Ev X d μ tgt lo st G I res) (kf : ¬ (x = 0) → Ev X d μ (pc + 3) lo st G I res) : Ev X d μ pc lo (.int x :: st) G I res := by
  by_cases h : x = 0
  · exact Ev_p hq hd (z_br_t (c := .eq) ht h) (kt h)
  · exact Ev_p hq hd (z_br_f (c := .eq) ht h) (kf h)
theorem Ev_icmp_ne {x y : Int32} {off : Int} {tgt : Nat} (hq : zM[μ]? = some (nm, cd, ml, rt, ow, np)) (hd : decode cd pc = .ok (.if_icmp .ne off, 3)) (ht : (pc : Int) + off = (tgt : Int)) (kt : ¬ x = y → Ev X d μ tgt lo st G I res) (kf : ¬ (¬ x = y) → Ev X d μ (pc + 3) lo st G I res) : Ev X d μ pc lo (.int y :: .int x :: st) G I res := by
  by_cases h : ¬ x = y
  · exact Ev_p hq hd (z_br_t (c := .ne) ht h) (kt h)
  · exact Ev_p hq hd (z_br_f (c := .ne) ht h) (kf h)
theorem Ev_if_ne {x : Int32} {off : Int} {tgt : Nat} (hq : zM[μ]? = some (nm, cd, ml, rt, ow, np)) (hd : decode cd pc = .ok (.ifCond .ne off, 3)) (ht : (pc : Int) + off = (tgt : Int)) (kt : ¬ x = 0 → Ev X d μ tgt lo st G I res) (kf : ¬ (¬ x = 0) → Ev X d μ (pc + 3) lo st G I res) : Ev X d μ pc lo (.int x :: st) G I res := by
  by_cases h : ¬ x = 0
  · exact Ev_p hq hd (z_br_t (c := .ne) ht h) (kt h)
  · exact Ev_p hq hd (z_br_f (c := .ne) ht h) (kf h)
theorem Ev_icmp_lt {x y : Int32} {off : Int} {tgt : Nat} (hq : zM[μ]? = some (nm, cd, ml, rt, ow, np)) (hd : decode cd pc = .ok (.if_icmp .lt off, 3)) (ht : (pc : Int) + off = (tgt : Int)) (kt : x < y → Ev X d μ tgt lo st G I res) (kf : ¬ (x < y) → Ev X d μ (pc + 3) lo st G I res) : Ev X d μ pc lo (.int y :: .int x :: st) G I res := by
  by_cases h : x < y
  · exact Ev_p hq hd (z_br_t (c := .lt) ht h) (kt h)
  · exact Ev_p hq hd (z_br_f (c := .lt) ht h) (kf h)
theorem Ev_if_lt {x : Int32} {off : Int} {tgt : Nat} (hq : zM[μ]? = some (nm, cd, ml, rt, ow, np)) (hd : decode cd pc = .ok (.ifCond .lt off, 3)) (ht : (pc : Int) + off = (tgt : Int)) (kt : x < 0 → Ev X d μ tgt lo st G I res) (kf : ¬ (x < 0) → Ev X d μ (pc + 3) lo st G I res) : Ev X d μ pc lo (.int x :: st) G I res := by
  by_cases h : x < 0
  · exact Ev_p hq hd (z_br_t (c := .lt) ht h) (kt h)
  · exact Ev_p hq hd (z_br_f (c := .lt) ht h) (kf h)
theorem Ev_icmp_ge {x y : Int32} {off : Int} {tgt : Nat} (hq : zM[μ]? = some (nm, cd, ml, rt, ow, np)) (hd : decode cd pc = .ok (.if_icmp .ge off, 3)) (ht : (pc : Int) + off = (tgt : Int)) (kt : y ≤ x → Ev X d μ tgt lo st G I res) (kf : ¬ (y ≤ x) → Ev X d μ (pc + 3) lo st G I res) : Ev X d μ pc lo (.int y :: .int x :: st) G I res := by
  by_cases h : y ≤ x
  · exact Ev_p hq hd (z_br_t (c := .ge) ht h) (kt h)
  · exact Ev_p hq hd (z_br_f (c := .ge) ht h) (kf h)
theorem Ev_if_ge {x : Int32} {off : Int} {tgt : Nat} (hq : zM[μ]? = some (nm, cd, ml, rt, ow, np)) (hd : decode cd pc = .ok (.ifCond .ge off, 3)) (ht : (pc : Int) + off = (tgt : Int)) (kt : 0 ≤ x → Ev X d μ tgt lo st G I res) (kf : ¬ (0 ≤ x) → Ev X d μ (pc + 3) lo st G I res) : Ev X d μ pc lo (.int x :: st) G I res := by
  by_cases h : 0 ≤ x
  · exact Ev_p hq hd (z_br_t (c := .ge) ht h) (kt h)
  · exact Ev_p hq hd (z_br_f (c := .ge) ht h) (kf h)
theorem Ev_icmp_gt {x y : Int32} {off : Int} {tgt : Nat} (hq : zM[μ]? = some (nm, cd, ml, rt, ow, np)) (hd : decode cd pc = .ok (.if_icmp .gt off, 3)) (ht : (pc : Int) + off = (tgt : Int)) (kt : y < x → Ev X d μ tgt lo st G I res) (kf : ¬ (y < x) → Ev X d μ (pc + 3) lo st G I res) : Ev X d μ pc lo (.int y :: .int x :: st) G I res := by
  by_cases h : y < x
  · exact Ev_p hq hd (z_br_t (c := .gt) ht h) (kt h)
  · exact Ev_p hq hd (z_br_f (c := .gt) ht h) (kf h)
theorem Ev_if_gt {x : Int32} {off : Int} {tgt : Nat} (hq : zM[μ]? = some (nm, cd, ml, rt, ow, np)) (hd : decode cd pc = .ok (.ifCond .gt off, 3)) (ht : (pc : Int) + off = (tgt : Int)) (kt : 0 < x → Ev X d μ tgt lo st G I res) (kf : ¬ (0 < x) → Ev X d μ (pc + 3) lo st G I res) : Ev X d μ pc lo (.int x :: st) G I res := by
  by_cases h : 0 < x
  · exact Ev_p hq hd (z_br_t (c := .gt) ht h) (kt h)
  · exact Ev_p hq hd (z_br_f (c := .gt) ht h) (kf h)
theorem Ev_icmp_le {x y : Int32} {off : Int} {tgt : Nat} (hq : zM[μ]? = some (nm, cd, ml, rt, ow, np)) (hd : decode cd pc = .ok (.if_icmp .le off, 3)) (ht : (pc : Int) + off = (tgt : Int)) (kt : x ≤ y → Ev X d μ tgt lo st G I res) (kf : ¬ (x ≤ y) → Ev X d μ (pc + 3) lo st G I res) : Ev X d μ pc lo (.int y :: .int x :: st) G I res := by
  by_cases h : x ≤ y
  · exact Ev_p hq hd (z_br_t (c := .le) ht h) (kt h)
  · exact Ev_p hq hd (z_br_f (c := .le) ht h) (kf h)
theorem Ev_if_le {x : Int32} {off : Int} {tgt : Nat} (hq : zM[μ]? = some (nm, cd, ml, rt, ow, np)) (hd : decode cd pc = .ok (.ifCond .le off, 3)) (ht : (pc : Int) + off = (tgt : Int)) (kt : x ≤ 0 → Ev X d μ tgt lo st G I res) (kf : ¬ (x ≤ 0) → Ev X d μ (pc + 3) lo st G I res) : Ev X d μ pc lo (.int x :: st) G I res := by
  by_cases h : x ≤ 0
  · exact Ev_p hq hd (z_br_t (c := .le) ht h) (kt h)
  · exact Ev_p hq hd (z_br_f (c := .le) ht h) (kf h)
theorem Ev_tableOut {dflt lo' hi : Int} {offs : Array Int} {len : Nat} {x : Int32} {tgt : Nat} (hq : zM[μ]? = some (nm, cd, ml, rt, ow, np)) (hd : decode cd pc = .ok (.tableswitch dflt lo' hi offs, len)) (h : x.toInt < lo' ∨ hi < x.toInt) (ht : (pc : Int) + dflt = (tgt : Int)) (k : Ev X d μ tgt lo st G I res) : Ev X d μ pc lo (.int x :: st) G I res := Ev_p hq hd (by simp only [z_pure, if_pos h]; exact zj_ok ht) k
theorem Ev_tableIn {dflt lo' hi off : Int} {offs : Array Int} {len : Nat} {x : Int32} {tgt : Nat} (hq : zM[μ]? = some (nm, cd, ml, rt, ow, np)) (hd : decode cd pc = .ok (.tableswitch dflt lo' hi offs, len)) (h1 : ¬ x.toInt < lo') (h2 : ¬ hi < x.toInt) (ho : offs[(x.toInt - lo').toNat]? = some off) (ht : (pc : Int) + off = (tgt : Int)) (k : Ev X d μ tgt lo st G I res) : Ev X d μ pc lo (.int x :: st) G I res := Ev_p hq hd (by simp only [z_pure, if_neg (show ¬ (x.toInt < lo' ∨ hi < x.toInt) from fun z => z.elim h1 h2), ho]; exact zj_ok ht) k
theorem Ev_lookup {dflt off : Int} {ps : Array (Int × Int)} {len : Nat} {x : Int32} {tgt : Nat} (hq : zM[μ]? = some (nm, cd, ml, rt, ow, np)) (hd : decode cd pc = .ok (.lookupswitch dflt ps, len)) (hp : (ps.toList.zip (ps.toList.drop 1)).all (fun (a, next) => a.1 < next.1) = true) (ho : Op.lookupswitch.offset ps.toList dflt x.toInt = off) (ht : (pc : Int) + off = (tgt : Int)) (k : Ev X d μ tgt lo st G I res) : Ev X d μ pc lo (.int x :: st) G I res := Ev_p hq hd (by simp only [z_pure, if_pos hp, ho]; exact zj_ok ht) k
theorem Ev_getI {ix a ci j : Nat} (hq : zM[μ]? = some (nm, cd, ml, rt, ow, np)) (hd : decode cd pc = .ok (.getfield ix, 3)) (hf : zLk zF ow ix = some (ci, j)) (ha : a < zn G) (hk : zk G a = ci) (hj : j < zNF ci) (hr : zIsR ci j = false) (k : Ev X d μ (pc + 3) lo (.int (I a j) :: st) G I res) : Ev X d μ pc lo (.ref a :: st) G I res := Ev_h hq hd rfl (by simp only [z_heap, hf, ha, hk, hj, hr, and_self, true_and, and_true, if_true, Bool.false_eq_true, if_false, true_or, or_true, forall_const, implies_true, reduceCtorEq, ite_true]) k
theorem Ev_getR {ix a ci j b : Nat} (hq : zM[μ]? = some (nm, cd, ml, rt, ow, np)) (hd : decode cd pc = .ok (.getfield ix, 3)) (hf : zLk zF ow ix = some (ci, j)) (ha : a < zn G) (hk : zk G a = ci) (hj : j < zNF ci) (hr : zIsR ci j = true) (hb : zr G a j = some b) (k : Ev X d μ (pc + 3) lo (.ref b :: st) G I res) : Ev X d μ pc lo (.ref a :: st) G I res := Ev_h hq hd rfl (by simp only [z_heap, hf, ha, hk, hj, hr, hb, and_self, true_and, and_true, if_true, Bool.false_eq_true, if_false, true_or, or_true, forall_const, implies_true, reduceCtorEq, ite_true]) k
theorem Ev_putI {ix a ci j : Nat} {x : Int32} (hq : zM[μ]? = some (nm, cd, ml, rt, ow, np)) (hd : decode cd pc = .ok (.putfield ix, 3)) (hf : zLk zF ow ix = some (ci, j)) (ha : a < zn G) (hk : zk G a = ci) (hj : j < zNF ci) (hn : zFin ci j = true → z_isC nm = true ∧ ow = ci) (hr : zIsR ci j = false) (hb : zTy ci j = .boolean → x = 0 ∨ x = 1) (k : Ev X d μ (pc + 3) lo (st) G (z_up I a j x) res) : Ev X d μ pc lo (.int x :: .ref a :: st) G I res := Ev_h hq hd rfl (by simp only [z_heap, hf]; rw [if_pos ⟨trivial, ha, hk, hj, hn⟩, hr]; exact if_pos hb) k
theorem Ev_putR {ix a ci j b : Nat} (hq : zM[μ]? = some (nm, cd, ml, rt, ow, np)) (hd : decode cd pc = .ok (.putfield ix, 3)) (hf : zLk zF ow ix = some (ci, j)) (ha : a < zn G) (hk : zk G a = ci) (hj : j < zNF ci) (hn : zFin ci j = true → z_isC nm = true ∧ ow = ci) (hr : zIsR ci j = true) (k : Ev X d μ (pc + 3) lo (st) (zn G, zs G, zk G, zl G, z_upR (zr G) a j (some b)) I res) : Ev X d μ pc lo (.ref b :: .ref a :: st) G I res := Ev_h hq hd rfl (by simp only [z_heap, hf]; rw [if_pos ⟨trivial, ha, hk, hj, hn⟩, hr]; rfl) k
theorem Ev_iald {a : Nat} {i : Int32} (hq : zM[μ]? = some (nm, cd, ml, rt, ow, np)) (hd : decode cd pc = .ok (.iaload, 1)) (ha : a < zn G) (hk : zk G a = 6) (hi : z_inr i (zl G a)) (k : Ev X d μ (pc + 1) lo (.int (I a i.toNatClampNeg) :: st) G I res) : Ev X d μ pc lo (.int i :: .ref a :: st) G I res := Ev_h hq hd rfl (if_pos ⟨rfl, ha, hk, hi⟩) k
theorem Ev_ialdx {j : Nat} {i : Int32} {q : Nat × (Nat → Int32)} (hq : zM[μ]? = some (nm, cd, ml, rt, ow, np)) (hd : decode cd pc = .ok (.iaload, 1)) (hq2 : zXa X j = some q) (hi : z_inr i q.1) (k : Ev X d μ (pc + 1) lo (.int (q.2 i.toNatClampNeg) :: st) G I res) : Ev X d μ pc lo (.int i :: .retAddr (j + 1) :: st) G I res := Ev_h hq hd rfl (by simp only [z_heap, hq2]; exact if_pos ⟨trivial, hi⟩) k
theorem Ev_baldx {j : Nat} {i : Int32} {q : Nat × (Nat → Int32)} (hq : zM[μ]? = some (nm, cd, ml, rt, ow, np)) (hd : decode cd pc = .ok (.baload, 1)) (hq2 : zXb j = some q) (hi : z_inr i q.1) (k : Ev X d μ (pc + 1) lo (.int (q.2 i.toNatClampNeg) :: st) G I res) : Ev X d μ pc lo (.int i :: .retAddr (j + 1) :: st) G I res := Ev_h hq hd rfl (by simp only [z_heap, hq2]; exact if_pos ⟨trivial, hi⟩) k
theorem Ev_iast {a : Nat} {i x : Int32} (hq : zM[μ]? = some (nm, cd, ml, rt, ow, np)) (hd : decode cd pc = .ok (.iastore, 1)) (ha : a < zn G) (hk : zk G a = 6) (hi : z_inr i (zl G a)) (k : Ev X d μ (pc + 1) lo (st) G (z_up I a i.toNatClampNeg x) res) : Ev X d μ pc lo (.int x :: .int i :: .ref a :: st) G I res := Ev_h hq hd rfl (if_pos ⟨rfl, ha, hk, hi⟩) k
theorem Ev_aald {a b : Nat} {i : Int32} (hq : zM[μ]? = some (nm, cd, ml, rt, ow, np)) (hd : decode cd pc = .ok (.aaload, 1)) (ha : a < zn G) (hk : zk G a = 7 ∨ zk G a = 8) (hi : z_inr i (zl G a)) (hb : zr G a i.toNatClampNeg = some b) (k : Ev X d μ (pc + 1) lo (.ref b :: st) G I res) : Ev X d μ pc lo (.int i :: .ref a :: st) G I res := Ev_h hq hd rfl (by simp only [z_heap]; rw [if_pos ⟨trivial, ha, hk, hi⟩, hb]) k
theorem Ev_aast {a b : Nat} {i : Int32} (hq : zM[μ]? = some (nm, cd, ml, rt, ow, np)) (hd : decode cd pc = .ok (.aastore, 1)) (ha : a < zn G) (hk : zk G a = 7) (hi : z_inr i (zl G a)) (hb : b < zn G) (hkb : zk G b = 1) (k : Ev X d μ (pc + 1) lo (st) (zn G, zs G, zk G, zl G, z_upR (zr G) a i.toNatClampNeg (some b)) I res) : Ev X d μ pc lo (.ref b :: .int i :: .ref a :: st) G I res := Ev_h hq hd rfl (if_pos ⟨rfl, ha, hk, hi, hb, hkb⟩) k
theorem Ev_alen {a : Nat} (hq : zM[μ]? = some (nm, cd, ml, rt, ow, np)) (hd : decode cd pc = .ok (.arraylength, 1)) (ha : a < zn G) (hk : 6 ≤ zk G a) (hk2 : zk G a ≤ 8) (k : Ev X d μ (pc + 1) lo (.int (Int32.ofNat (zl G a)) :: st) G I res) : Ev X d μ pc lo (.ref a :: st) G I res := Ev_h hq hd rfl (if_pos ⟨rfl, ha, hk, hk2⟩) k
theorem Ev_alenx {j : Nat} {q : Nat × (Nat → Int32)} (hq : zM[μ]? = some (nm, cd, ml, rt, ow, np)) (hd : decode cd pc = .ok (.arraylength, 1)) (hq2 : zXa X j = some q) (k : Ev X d μ (pc + 1) lo (.int (Int32.ofNat q.1) :: st) G I res) : Ev X d μ pc lo (.retAddr (j + 1) :: st) G I res := Ev_h hq hd rfl (by simp only [z_heap, hq2, if_true]) k
theorem Ev_alenb {j : Nat} {q : Nat × (Nat → Int32)} (hq : zM[μ]? = some (nm, cd, ml, rt, ow, np)) (hd : decode cd pc = .ok (.arraylength, 1)) (h0 : zXa X j = none) (hq2 : zXb j = some q) (k : Ev X d μ (pc + 1) lo (.int (Int32.ofNat q.1) :: st) G I res) : Ev X d μ pc lo (.retAddr (j + 1) :: st) G I res := Ev_h hq hd rfl (by simp only [z_heap, h0, hq2, if_true]) k
theorem Ev_iret {v : Int32} {ty : FieldType} (hq : zM[μ]? = some (nm, cd, ml, some ty, ow, np)) (hd : decode cd pc = .ok (.ireturn, 1)) (hn : narrow ty (.int v) = .int v) (k : res = (some (.int v), G, I)) : Ev X d μ pc lo [.int v] G I res := Ev_r hq hd rfl rfl (if_pos ⟨rfl, hn⟩) k
theorem Ev_lret {v : Int64} (hq : zM[μ]? = some (nm, cd, ml, some .long, ow, np)) (hd : decode cd pc = .ok (.lreturn, 1)) (k : res = (some (.long v), G, I)) : Ev X d μ pc lo [.long v] G I res := Ev_r hq hd rfl rfl rfl k
theorem Ev_aretO {a : Nat} {t : String} (hq : zM[μ]? = some (nm, cd, ml, some (.object t), ow, np)) (hd : decode cd pc = .ok (.areturn, 1)) (k : res = (some (.ref a), G, I)) : Ev X d μ pc lo [.ref a] G I res := Ev_r hq hd rfl rfl rfl k
theorem Ev_aretA {a : Nat} {t : FieldType} (hq : zM[μ]? = some (nm, cd, ml, some (.array t), ow, np)) (hd : decode cd pc = .ok (.areturn, 1)) (k : res = (some (.ref a), G, I)) : Ev X d μ pc lo [.ref a] G I res := Ev_r hq hd rfl rfl rfl k
theorem Ev_vret (hq : zM[μ]? = some (nm, cd, ml, none, ow, np)) (hd : decode cd pc = .ok (.return_, 1)) (k : res = (none, G, I)) : Ev X d μ pc lo [] G I res := Ev_r hq hd rfl rfl rfl k
theorem Ev_max {ix ν : Nat} {x y : Int32} (hq : zM[μ]? = some (nm, cd, ml, rt, ow, np)) (hd : decode cd pc = .ok (.invokestatic ix, 3)) (hc : zLk zC ow ix = some (10, ν)) (hr : z_cat st ≤ 8) (k : Ev X (d + 1) μ (pc + 3) lo (.int (if x < y then y else x) :: st) G I res) : Ev X (d + 1) μ pc lo (.int y :: .int x :: st) G I res := Ev_m hq hd rfl rfl rfl (by simp only [z_prim, hc]; exact if_pos ⟨trivial, hr⟩) k
theorem Ev_min {ix ν : Nat} {x y : Int32} (hq : zM[μ]? = some (nm, cd, ml, rt, ow, np)) (hd : decode cd pc = .ok (.invokestatic ix, 3)) (hc : zLk zC ow ix = some (11, ν)) (hr : z_cat st ≤ 8) (k : Ev X (d + 1) μ (pc + 3) lo (.int (if y < x then y else x) :: st) G I res) : Ev X (d + 1) μ pc lo (.int y :: .int x :: st) G I res := Ev_m hq hd rfl rfl rfl (by simp only [z_prim, hc]; exact if_pos ⟨trivial, hr⟩) k
theorem Ev_abs {ix ν : Nat} {x : Int32} (hq : zM[μ]? = some (nm, cd, ml, rt, ow, np)) (hd : decode cd pc = .ok (.invokestatic ix, 3)) (hc : zLk zC ow ix = some (12, ν)) (hr : z_cat st ≤ 8) (k : Ev X (d + 1) μ (pc + 3) lo (.int (if 0 ≤ x then x else 0 - x) :: st) G I res) : Ev X (d + 1) μ pc lo (.int x :: st) G I res := Ev_m hq hd rfl rfl rfl (by simp only [z_prim, hc]; exact if_pos ⟨trivial, hr⟩) k
theorem Ev_copy {ix ν a b : Nat} {sp dp n : Int32} (hq : zM[μ]? = some (nm, cd, ml, rt, ow, np)) (hd : decode cd pc = .ok (.invokestatic ix, 3)) (hc : zLk zC ow ix = some (13, ν)) (hr : z_cat st ≤ 8 ∧ a < zn G ∧ b < zn G ∧ zk G a = 6 ∧ zk G b = 6 ∧ 0 ≤ sp ∧ 0 ≤ dp ∧ 0 ≤ n ∧ sp.toNatClampNeg + n.toNatClampNeg ≤ zl G a ∧ dp.toNatClampNeg + n.toNatClampNeg ≤ zl G b) (k : Ev X (d + 1) μ (pc + 3) lo st G (va_up I b (va_cpy (I a) (I b) sp.toNatClampNeg dp.toNatClampNeg n.toNatClampNeg)) res) : Ev X (d + 1) μ pc lo (.int n :: .int dp :: .ref b :: .int sp :: .ref a :: st) G I res := Ev_m hq hd rfl rfl rfl (by simp only [z_prim, hc]; exact if_pos ⟨trivial, hr⟩) k
theorem Ev_clone {ix ν a : Nat} (hq : zM[μ]? = some (nm, cd, ml, rt, ow, np)) (hd : decode cd pc = .ok (.invokevirtual ix, 3)) (hc : zLk zC ow ix = some (16, ν)) (hr : z_cat st ≤ 8 ∧ a < zn G ∧ zk G a = 6) (k : Ev X (d + 1) μ (pc + 3) lo (.ref (zn G) :: st) (z_new G 6 (zl G a) (fun _ => none)) (z_newI G I (I a)) res) : Ev X (d + 1) μ pc lo (.ref a :: st) G I res := Ev_m hq hd rfl rfl rfl (by simp only [z_prim, hc]; exact if_pos ⟨trivial, hr⟩) k
theorem Ev_obj {ix ν a : Nat} (hq : zM[μ]? = some (nm, cd, ml, rt, ow, np)) (hd : decode cd pc = .ok (.invokespecial ix, 3)) (hc : zLk zC ow ix = some (5, ν)) (hr : z_cat st ≤ 8) (k : Ev X (d + 1) μ (pc + 3) lo st G I res) : Ev X (d + 1) μ pc lo (.ref a :: st) G I res := Ev_m hq hd rfl rfl rfl (by simp only [z_prim, hc]; exact if_pos ⟨trivial, hr⟩) k
/-- a call of a static method -/
theorem Ev_stat {ix kd ν : Nat} {as : List Value} {q : zMT} {r : Option Value} {G' : zG} {I' : zI} (hq : zM[μ]? = some (nm, cd, ml, rt, ow, np)) (hd : decode cd pc = .ok (.invokestatic ix, 3)) (hc : zLk zC ow ix = some (kd, ν)) (hk : kd = 0 ∨ kd = 3) (hν : zM[ν]? = some q) (hn : as.length = q.2.2.2.2.2) (hr : z_cat st ≤ 8)
    (hcv : Cv X d ν as G I (r, G', I')) (k : Ev X (d + 1) μ (pc + 3) lo (r.toList ++ st) G' I' res) : Ev X (d + 1) μ pc lo (as.reverse ++ st) G I res := by
  have hm : z_prim ow 3 pc (as.reverse ++ st) G I (.invokestatic ix) = none := by
    rcases hk with hk | hk <;> subst hk <;> simp only [z_prim, hc]
  have e1 : (as.reverse ++ st).take (z_np q false) = as.reverse := by
    show (as.reverse ++ st).take q.2.2.2.2.2 = _
    rw [← hn, ← List.length_reverse, List.take_left]
  have e2 : (as.reverse ++ st).drop (z_np q false) = st := by
    show (as.reverse ++ st).drop q.2.2.2.2.2 = _
    rw [← hn, ← List.length_reverse, List.drop_left]
  refine Ev_c hq hd rfl rfl rfl hm (ν := ν) (as := as) (rest := st) ?_ hcv k
  show z_go ow 3 (as.reverse ++ st) G 0 3 false ix = _
  unfold z_go
  simp only [hc, hν]
  rw [if_pos ⟨trivial, hk, by show q.2.2.2.2.2 ≤ _; simp; omega, by rw [e2]; exact hr⟩, e1, e2, List.reverse_reverse]
  rfl
/-- a call on an object -/
theorem Ev_virt {ix ν b : Nat} {as : List Value} {q : zMT} {r : Option Value} {G' : zG} {I' : zI} (hq : zM[μ]? = some (nm, cd, ml, rt, ow, np)) (hd : decode cd pc = .ok (.invokevirtual ix, 3)) (hc : zLk zC ow ix = some (1, ν)) (hν : zM[ν]? = some q) (hn : as.length = q.2.2.2.2.2) (hr : z_cat st ≤ 8) (hb : b < zn G ∧ zk G b = q.2.2.2.2.1 ∧ q.2.2.2.2.1 < 6)
    (hcv : Cv X d ν (.ref b :: as) G I (r, G', I')) (k : Ev X (d + 1) μ (pc + 3) lo (r.toList ++ st) G' I' res) : Ev X (d + 1) μ pc lo (as.reverse ++ .ref b :: st) G I res := by
  have hm : z_prim ow 3 pc (as.reverse ++ .ref b :: st) G I (.invokevirtual ix) = none := by simp only [z_prim, hc]
  have e0 : as.reverse ++ .ref b :: st = (.ref b :: as).reverse ++ st := by simp
  rw [e0] at hm ⊢
  have e1 : ((Value.ref b :: as).reverse ++ st).take (z_np q true) = (Value.ref b :: as).reverse := by
    show _ = _
    rw [show z_np q true = ((Value.ref b :: as).reverse).length by simp [z_np, hn], List.take_left]
  have e2 : ((Value.ref b :: as).reverse ++ st).drop (z_np q true) = st := by
    rw [show z_np q true = ((Value.ref b :: as).reverse).length by simp [z_np, hn], List.drop_left]
  refine Ev_c hq hd rfl rfl rfl hm (ν := ν) (as := .ref b :: as) (rest := st) ?_ hcv k
  show z_go ow 3 _ G 1 1 true ix = _
  unfold z_go
  simp only [hc, hν]
  rw [if_pos ⟨trivial, Or.inl trivial, by rw [show z_np q true = ((Value.ref b :: as).reverse).length by simp [z_np, hn]]; simp, by rw [e2]; exact hr⟩, e1, e2, List.reverse_reverse]
  show (if (1 : Nat) = 1 → _ then _ else _) = _
  rw [if_pos (fun _ => hb)]
/-- a call on a String constant -/
theorem Ev_virtx {ix ν j : Nat} {as : List Value} {q : zMT} {r : Option Value} {G' : zG} {I' : zI} (hq : zM[μ]? = some (nm, cd, ml, rt, ow, np)) (hd : decode cd pc = .ok (.invokevirtual ix, 3)) (hc : zLk zC ow ix = some (1, ν)) (hν : zM[ν]? = some q) (hn : as.length = q.2.2.2.2.2) (hr : z_cat st ≤ 8) (hb : 2 ≤ j ∧ j < 15 ∧ q.2.2.2.2.1 = 10)
    (hcv : Cv X d ν (.retAddr (j + 1) :: as) G I (r, G', I')) (k : Ev X (d + 1) μ (pc + 3) lo (r.toList ++ st) G' I' res) : Ev X (d + 1) μ pc lo (as.reverse ++ .retAddr (j + 1) :: st) G I res := by
  have hm : z_prim ow 3 pc (as.reverse ++ .retAddr (j + 1) :: st) G I (.invokevirtual ix) = none := by simp only [z_prim, hc]
  have e0 : as.reverse ++ .retAddr (j + 1) :: st = (.retAddr (j + 1) :: as).reverse ++ st := by simp
  rw [e0] at hm ⊢
  have e1 : ((Value.retAddr (j + 1) :: as).reverse ++ st).take (z_np q true) = (Value.retAddr (j + 1) :: as).reverse := by
    rw [show z_np q true = ((Value.retAddr (j + 1) :: as).reverse).length by simp [z_np, hn], List.take_left]
  have e2 : ((Value.retAddr (j + 1) :: as).reverse ++ st).drop (z_np q true) = st := by
    rw [show z_np q true = ((Value.retAddr (j + 1) :: as).reverse).length by simp [z_np, hn], List.drop_left]
  refine Ev_c hq hd rfl rfl rfl hm (ν := ν) (as := .retAddr (j + 1) :: as) (rest := st) ?_ hcv k
  show z_go ow 3 _ G 1 1 true ix = _
  unfold z_go
  simp only [hc, hν]
  rw [if_pos ⟨trivial, Or.inl trivial, by rw [show z_np q true = ((Value.retAddr (j + 1) :: as).reverse).length by simp [z_np, hn]]; simp, by rw [e2]; exact hr⟩, e1, e2, List.reverse_reverse]
  show (if (1 : Nat) = 1 ∧ _ then _ else _) = _
  rw [if_pos ⟨rfl, hb⟩]
/-- a constructor's call -/
theorem Ev_spec {ix kd ν b : Nat} {as : List Value} {q : zMT} {r : Option Value} {G' : zG} {I' : zI} (hq : zM[μ]? = some (nm, cd, ml, rt, ow, np)) (hd : decode cd pc = .ok (.invokespecial ix, 3)) (hc : zLk zC ow ix = some (kd, ν)) (hk : kd = 2 ∨ kd = 4) (hν : zM[ν]? = some q) (hn : as.length = q.2.2.2.2.2) (hr : z_cat st ≤ 8)
    (hcv : Cv X d ν (.ref b :: as) G I (r, G', I')) (k : Ev X (d + 1) μ (pc + 3) lo (r.toList ++ st) G' I' res) : Ev X (d + 1) μ pc lo (as.reverse ++ .ref b :: st) G I res := by
  have hm : z_prim ow 3 pc (as.reverse ++ .ref b :: st) G I (.invokespecial ix) = none := by rcases hk with hk | hk <;> subst hk <;> simp only [z_prim, hc]
  have e0 : as.reverse ++ .ref b :: st = (.ref b :: as).reverse ++ st := by simp
  rw [e0] at hm ⊢
  have e1 : ((Value.ref b :: as).reverse ++ st).take (z_np q true) = (Value.ref b :: as).reverse := by
    rw [show z_np q true = ((Value.ref b :: as).reverse).length by simp [z_np, hn], List.take_left]
  have e2 : ((Value.ref b :: as).reverse ++ st).drop (z_np q true) = st := by
    rw [show z_np q true = ((Value.ref b :: as).reverse).length by simp [z_np, hn], List.drop_left]
  refine Ev_c hq hd rfl rfl rfl hm (ν := ν) (as := .ref b :: as) (rest := st) ?_ hcv k
  show z_go ow 3 _ G 2 4 true ix = _
  unfold z_go
  simp only [hc, hν]
  rw [if_pos ⟨trivial, hk, by rw [show z_np q true = ((Value.ref b :: as).reverse).length by simp [z_np, hn]]; simp, by rw [e2]; exact hr⟩, e1, e2, List.reverse_reverse]
  show (if kd = 1 → _ then _ else _) = _
  rw [if_pos (fun h => by rcases hk with hk | hk <;> omega)]
end EV
