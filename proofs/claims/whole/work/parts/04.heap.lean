/-! What reads, writes or makes cells: the picture's step is the machine's. -/
def z_tys (cy : Nat → ClassId) : List (ClassId × FieldType) := [(cy 6, .int), (cy 7, .object "TooHotTooCold$Law"), (cy 8, .array .int)]
def z_fs (N0 : Nat) (G : zG) (I : zI) (a : Nat) : List Value := (List.range (zNF (zk G a))).map (fun k => if zIsR (zk G a) k = true then va_rf ((zr G a k).map (fun b => N0 + b)) else .int (I a k))
def z_ce (cy : Nat → ClassId) (N0 : Nat) (G : zG) (I : zI) (a : Nat) : va_E :=
  if zk G a < 6 then .inr (zk G a, z_fs N0 G I a) else if zk G a = 6 then .inl (cy 6, zl G a, .inl (I a)) else .inl (cy (zk G a), zl G a, .inr (.inr (.inr (.inr (fun j => (zr G a j).map (fun b => N0 + b))))))
def z_lay (cy : Nat → ClassId) (N0 : Nat) (G : zG) (I : zI) : va_W := (List.range (zn G)).map (fun a => (N0 + a, z_ce cy N0 G I a))
theorem z_lay_get {cy : Nat → ClassId} {N0 : Nat} {G : zG} {I : zI} {a : Nat} (h : a < zn G) : (z_lay cy N0 G I)[a]? = some (N0 + a, z_ce cy N0 G I a) := by
  unfold z_lay
  rw [List.getElem?_map, List.getElem?_range h]
  rfl
theorem z_lay_inv {cy : Nat → ClassId} {N0 : Nat} {G : zG} {I : zI} {a : Nat} {q : Nat × va_E} (h : (z_lay cy N0 G I)[a]? = some q) : a < zn G ∧ q = (N0 + a, z_ce cy N0 G I a) := by
  have hl := (List.getElem?_eq_some_iff.mp h).1
  have h2 : a < zn G := by simpa [z_lay] using hl
  rw [z_lay_get h2] at h
  exact ⟨h2, (Option.some.inj h).symm⟩
theorem z_lay_D {cy : Nat → ClassId} {N0 : Nat} {G : zG} {I : zI} : va_D (fun q => N0 ≤ q) (z_lay cy N0 G I) := by
  refine ⟨fun i j p q hi hj h => ?_, fun k q hk => ?_⟩
  · obtain ⟨-, rfl⟩ := z_lay_inv hi
    obtain ⟨-, rfl⟩ := z_lay_inv hj
    have h : N0 + i = N0 + j := h
    omega
  · obtain ⟨-, rfl⟩ := z_lay_inv hk
    exact Nat.le_add_right _ _
/-- the heap holds the cells -/
def z_hp (D : va_G) (cy : Nat → ClassId) (N0 : Nat) (s : State) (locs : List Loc) (G : zG) (I : zI) (H : Heap) : Prop := H.size = N0 + zn G ∧ va_P D zCl (z_lay cy N0 G I) H ∧ va_S (fun q => N0 ≤ q) s.heap H locs
theorem z_hp_put {D : va_G} {cy : Nat → ClassId} {N0 : Nat} {s : State} {locs locs' : List Loc} {G G' : zG} {I I' : zI} {H H' : Heap} {a : Nat} (h : z_hp D cy N0 s locs G I H) (hn : zn G' = zn G) (hz : H'.size = H.size) (ho : ∀ q : Nat, q ≠ N0 + a → H'[q]? = H[q]?)
    (he : va_at D zCl (N0 + a, z_ce cy N0 G' I' a) H') (hs : ∀ b, b ≠ a → z_ce cy N0 G' I' b = z_ce cy N0 G I b) (hl : ∀ q ∈ locs', q ∈ locs ∨ q.base = N0 + a) : z_hp D cy N0 s locs' G' I' H' := by
  obtain ⟨h1, h2, h3⟩ := h
  refine ⟨by rw [hz, hn]; exact h1, fun k q hk => ?_, ⟨by rw [hz]; exact h3.1, fun q g1 g2 => ?_, fun q hq => ?_⟩⟩
  · obtain ⟨hk2, rfl⟩ := z_lay_inv hk
    rw [hn] at hk2
    by_cases e : k = a
    · subst e; exact he
    · rw [hs k e]
      exact (h2 k _ (z_lay_get hk2)).kept (ho _ (by show N0 + k ≠ N0 + a; omega))
  · rw [ho q (fun e => g2 (by rw [e]; exact Nat.le_add_right _ _))]
    exact h3.2.1 q g1 g2
  · rcases hl q hq with h | h
    · exact h3.2.2 q h
    · rw [h]; exact Nat.le_add_right _ _
theorem z_hp_new {D : va_G} {cy : Nat → ClassId} {N0 : Nat} {s : State} {locs : List Loc} {G G' : zG} {I I' : zI} {H H' : Heap} (h : z_hp D cy N0 s locs G I H) (hn : zn G' = zn G + 1) (hz : H'.size = H.size + 1) (ho : ∀ q : Nat, q < H.size → H'[q]? = H[q]?)
    (he : va_at D zCl (N0 + zn G, z_ce cy N0 G' I' (zn G)) H') (hs : ∀ b, b < zn G → z_ce cy N0 G' I' b = z_ce cy N0 G I b) : z_hp D cy N0 s locs G' I' H' := by
  obtain ⟨h1, h2, h3⟩ := h
  refine ⟨by rw [hz, hn, h1]; rfl, fun k q hk => ?_, ⟨by rw [hz]; exact Nat.le_succ_of_le h3.1, fun q g1 g2 => ?_, h3.2.2⟩⟩
  · obtain ⟨hk2, rfl⟩ := z_lay_inv hk
    rw [hn] at hk2
    by_cases e : k = zn G
    · subst e; exact he
    · have hk3 : k < zn G := by omega
      rw [hs k hk3]
      exact (h2 k _ (z_lay_get hk3)).kept (ho _ (by show N0 + k < H.size; omega))
  · rw [ho q (Nat.lt_of_lt_of_le g1 h3.1)]
    exact h3.2.1 q g1 g2
theorem z_vp {i : Int32} {n : Nat} (h : z_inr i n) : vp_in i n := fun q => by
  rcases q with q | q
  · exact absurd h.1 (Int32.not_le.mpr q)
  · exact absurd h.2 (Nat.not_lt.mpr q)
theorem z_n0 {i : Int32} (h : 0 ≤ i) : ¬ i < 0 := fun q => absurd h (Int32.not_le.mpr q)
theorem z_new_ce {cy : Nat → ClassId} {N0 : Nat} {G : zG} {I : zI} {kd len : Nat} {r : Nat → Option Nat} {f : Nat → Int32} {b : Nat} (h : b < zn G) : z_ce cy N0 (z_new G kd len r) (z_newI G I f) b = z_ce cy N0 G I b := by
  have hb : b ≠ zn G := by omega
  simp only [z_ce, z_fs, z_new, z_newI, zk, zl, zr, va_up_ne _ _ hb]
/-- the words that every method keeps -/
def zGW : List Cond := lw_tbl.filter goodWord
theorem zGW_in {w : Cond} {k : Nat} (h : lw_tbl[k]? = some w) (hg : goodWord w = true) : w ∈ zGW := List.mem_filter.mpr ⟨List.mem_of_getElem? h, hg⟩
/-- the words that the classes' fields are laid by -/
theorem zCl_in : ∀ (ci : Nat) (q : vw_C), zCl[ci]? = some q → ∀ w ∈ u_ws q.1 q.2.1 q.2.2, w ∈ zGW := by
  have h : (zCl.all (fun q => (u_ws q.1 q.2.1 q.2.2).all (fun w => decide (w ∈ lw_tbl) && goodWord w))) = true := by decide +kernel
  intro ci q hq w hw
  have h1 := List.all_eq_true.mp h q (List.mem_of_getElem? hq)
  have h2 := List.all_eq_true.mp h1 w hw
  simp only [Bool.and_eq_true, decide_eq_true_eq] at h2
  exact List.mem_filter.mpr h2
theorem zCl_ty : ∀ (ci : Nat) (q : vw_C), zCl[ci]? = some q → (∀ k, k < q.2.2 → parseFieldDescriptor (q.2.1 k).2.2.1 = some (zTy ci k)) ∧ (∀ a, a < q.2.2 → ∀ b, b < q.2.2 → a ≠ b → (q.2.1 a).2.1 ≠ (q.2.1 b).2.1) ∧ q.2.2 = zNF ci ∧ (∀ k, k < q.2.2 → (q.2.1 k).1 = q.1) ∧ q.1 = zR ci := by
  intro ci q hq
  match ci, hq with
  | 0, hq => cases hq; exact ⟨tyX0_ok, nmX0, rfl, by decide +kernel, rfl⟩
  | 1, hq => cases hq; exact ⟨tyX1_ok, nmX1, rfl, by decide +kernel, rfl⟩
  | 2, hq => cases hq; exact ⟨tyX2_ok, nmX2, rfl, by decide +kernel, rfl⟩
  | 3, hq => cases hq; exact ⟨tyX3_ok, nmX3, rfl, by decide +kernel, rfl⟩
  | 4, hq => cases hq; exact ⟨tyX4_ok, nmX4, rfl, by decide +kernel, rfl⟩
  | 5, hq => cases hq; exact ⟨tyX5_ok, nmX5, rfl, by decide +kernel, rfl⟩
  | k + 6, hq => simp [zCl] at hq
theorem zCl_lt {ci : Nat} (h : ci < 6) : ∃ q, zCl[ci]? = some q := ⟨_, List.getElem?_eq_getElem (show ci < zCl.length from h)⟩
theorem zCl_6 {ci k : Nat} (h : k < zNF ci) : ci < 6 := by
  rcases Nat.lt_or_ge ci 6 with q | q
  · exact q
  · exfalso
    unfold zNF at h
    rw [List.getElem?_eq_none (show zCl.length ≤ ci from q)] at h
    simp at h
/-- what the start and the tables say of things from outside -/
def z_out (s : State) (E : Nat → Value) (X : Nat × (Nat → Int32)) (N0 : Nat) : Prop :=
  (∀ (j : Nat) (q : Nat × (Nat → Int32)), zXa X j = some q → ∃ t, E j = .ref t ∧ va_T .int t q.1 (fun k => .int (q.2 k)) (fun a => N0 ≤ a) s s.heap) ∧
  (∀ (j : Nat) (q : Nat × (Nat → Int32)), zXb j = some q → ∃ t, E j = .ref t ∧ va_T .byte t q.1 (fun k => .int (q.2 k)) (fun a => N0 ≤ a) s s.heap) ∧
  va_Z "TooHotTooCold" "KIND_ABOVE" "[I" (E 1) (fun a => N0 ≤ a) s s.heap ∧ va_Z "java/lang/String" "COMPACT_STRINGS" "Z" (.int 1) (fun a => N0 ≤ a) s s.heap ∧
  va_Z "jdk/internal/util/Preconditions" "SIOOBE_FORMATTER" "Ljava/util/function/BiFunction;" (E 40) (fun a => N0 ≤ a) s s.heap ∧
  (∀ j, 2 ≤ j → j < 15 → ∃ t t2, E j = .ref t ∧ E (j + 18) = .ref t2 ∧ va_O "java/lang/String" t (fun a => N0 ≤ a) s s.heap ∧ va_OF "java/lang/String" "coder" "B" (.int 0) t (fun a => N0 ≤ a) s s.heap ∧ va_OF "java/lang/String" "value" "[B" (.ref t2) t (fun a => N0 ≤ a) s s.heap)
/-- arrays over rows of ints -/
def z_AA (U : State) : Prop := (Cond.arrayOver (.array .int)).before #[] U = true
/-- the links of the tables -/
def z_links (s : State) (args : Array Value) : Prop :=
  (∀ q ∈ zF, ∀ r : vw_C, zCl[q.2.1]? = some r → (Cond.fieldLink (zR q.1.1) q.1.2 r.1 (r.2.1 q.2.2).2.1 (r.2.1 q.2.2).2.2.1).before args s = true) ∧
  (∀ q ∈ zN, (Cond.classLink (zR q.1.1) q.1.2 q.2.2).before args s = true) ∧
  (Cond.fieldLink "TooHotTooCold" 178 "TooHotTooCold" "KIND_ABOVE" "[I").before args s = true ∧ (Cond.fieldLink "java/lang/String" 38 "java/lang/String" "COMPACT_STRINGS" "Z").before args s = true ∧
  (Cond.fieldLink "java/lang/String" 1053 "jdk/internal/util/Preconditions" "SIOOBE_FORMATTER" "Ljava/util/function/BiFunction;").before args s = true ∧ (Cond.fieldLink "java/lang/String" 9 "java/lang/String" "value" "[B").before args s = true ∧
  (Cond.fieldLink "java/lang/String" 15 "java/lang/String" "coder" "B").before args s = true ∧ (Cond.arrayClass .int).before args s = true ∧ (∀ (ci : Nat) (q : vw_C), zCl[ci]? = some q → (Cond.instantiable q.1 q.2.2).before args s = true ∧ (Cond.initialized q.1).before args s = true)
theorem zN_ok : ∀ q ∈ zN, (q.2.1 = 1 → q.2.2 = "TooHotTooCold$Law") ∧ (q.2.1 = 6 → q.2.2 = "[I") ∧ (q.2.1 = 8 → q.2.2 = "[[I") ∧ (q.2.1 < 6 → q.2.2 = zR q.2.1) := by decide +kernel
