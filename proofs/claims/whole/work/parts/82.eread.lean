/-! THE MODEL READS AS sy SAYS -/
def FS (m : Nat) (J J1 : zI) : Prop := (∀ c, c ≠ 57 → c ≠ 62 → c ≠ 70 → J1 c = J c) ∧ (∀ k, ¬ (24 ≤ k ∧ k ≤ 26) → J1 57 k = J 57 k) ∧ ∀ k, k < 200 * m → J1 62 k = J 62 k
theorem FS.rfl {m : Nat} {J : zI} : FS m J J := ⟨fun _ _ _ _ => Eq.refl _, fun _ _ => Eq.refl _, fun _ _ => Eq.refl _⟩
theorem FS.tr {m : Nat} {J J1 J2 : zI} (h : FS m J J1) (h2 : FS m J1 J2) : FS m J J2 := ⟨fun c a e f => (h2.1 c a e f).trans (h.1 c a e f), fun k a => (h2.2.1 k a).trans (h.2.1 k a), fun k a => (h2.2.2 k a).trans (h.2.2 k a)⟩
def HdL (J : zI) : List Nat → Prop
  | [] => True
  | h :: H => J 70 H.length = zi h ∧ (h = 0 ∨ (11 ≤ h ∧ h ≤ 19)) ∧ HdL J H
theorem HdL.fr {J J1 : zI} : ∀ {H : List Nat}, HdL J H → (∀ k, k < H.length → J1 70 k = J 70 k) → HdL J1 H := by
  intro H
  induction H with
  | nil => intro _ _; trivial
  | cons h H ih =>
    intro a e
    exact ⟨(e _ (Nat.lt_succ_self _)).trans a.1, a.2.1, ih a.2.2 fun k hk => e k (Nat.lt_succ_of_lt hk)⟩
/-- what the model holds: signs, and what came out -/
def Hz (m : Nat) (J : zI) (H out : List Nat) : Prop := J 57 8 = zi m ∧ J 57 24 = zi H.length ∧ J 57 25 = zi (cntH H) ∧ HdL J H ∧ J 57 26 = zi out.length ∧ ∀ k, k < out.length → J 62 (200 * m + k) = zi (out.getD k 0)
theorem cntH_le : ∀ H, cntH H ≤ H.length := by
  intro H
  induction H with
  | nil => exact Nat.le_refl _
  | cons h H ih => rw [cntH, List.length_cons]; split <;> omega
theorem Hz.fr {m : Nat} {J J1 : zI} {H out : List Nat} (h : Hz m J H out) (h8 : J1 57 8 = J 57 8) (h4 : J1 57 24 = J 57 24) (h5 : J1 57 25 = J 57 25) (h6 : J1 57 26 = J 57 26) (h70 : J1 70 = J 70) (h62 : J1 62 = J 62) : Hz m J1 H out :=
  ⟨h8.trans h.1, h4.trans h.2.1, h5.trans h.2.2.1, h.2.2.2.1.fr fun k _ => by rw [h70], h6.trans h.2.2.2.2.1, fun k hk => by rw [h62]; exact h.2.2.2.2.2 k hk⟩
theorem c_puts {X : Nat × (Nat → Int32)} {d : Nat} {G : zG} (hS : SG G) {m : Nat} {J : zI} {H out : List Nat} {c : Nat} {v : Int32} (hm : m < 6) (hH : Hz m J H out) (hl : out.length < 200) (hv : v = zi c) :
    ∃ J1 : zI, Cv X d 134 [.ref 57, .int v] G J (none, G, J1) ∧ FS m J J1 ∧ Hz m J1 H (out ++ [c]) := by
  obtain ⟨h8, h4, h5, hL, h6, ho⟩ := hH
  have e : (200 : Int32) * J 57 8 + J 57 26 = zi (200 * m + out.length) := by
    rw [h8, h6]
    show zi 200 * zi m + _ = _
    rw [zi_mul, zi_add]
  refine ⟨z_up (z_up J 62 (200 * m + out.length) v) 57 26 (zi (out.length + 1)), Cv.of hq_134 (z_le rfl) rfl (wp_Z_puts _ hS ?_), ⟨fun c a b _ => by rw [up_cell a, up_cell b], fun k hk => by rw [up_place (by omega), up_cell (by decide)], fun k hk => by rw [up_cell (by decide), up_place (by omega)]⟩, ?_, ?_, ?_, ?_, ?_, fun k hk => ?_⟩
  · rw [e]
    refine ⟨zi_inr (by omega) (by omega), fun A g B gB => ?_⟩
    rw [zi_nat (by omega)] at g
    rw [gB, g, up_cell (a := 62) (b := 57) (by decide), h6, zi1]
  · rw [up_place (by decide), up_cell (by decide)]; exact h8
  · rw [up_place (by decide), up_cell (by decide)]; exact h4
  · rw [up_place (by decide), up_cell (by decide)]; exact h5
  · exact hL.fr fun k _ => by rw [up_cell (by decide), up_cell (by decide)]
  · rw [up_same, List.length_append]; rfl
  · rw [List.length_append, List.length_singleton] at hk
    rw [up_cell (by decide)]
    by_cases q : k = out.length
    · subst q
      rw [up_same, hv]
      simp
    · rw [up_place (by omega), ho k (by omega), List.getD_eq_getElem?_getD, List.getD_eq_getElem?_getD, List.getElem?_append_left (by omega)]
theorem c_holds {X : Nat × (Nat → Int32)} {d : Nat} {G : zG} (hS : SG G) {m : Nat} {J J0 : zI} {H out : List Nat} {h : Nat} {v : Int32} (hH : Hz m J0 H out) (hl : H.length < 200) (hv : v = zi h) (hh : h = 0 ∨ (11 ≤ h ∧ h ≤ 19)) (hF : ∃ x, J = z_up J0 57 25 x ∧ x = zi (cntH (h :: H))) :
    ∃ J1 : zI, Cv X d 138 [.ref 57, .int v] G J (none, G, J1) ∧ FS m J0 J1 ∧ Hz m J1 (h :: H) out := by
  obtain ⟨x, rfl, hx⟩ := hF
  obtain ⟨h8, h4, h5, hL, h6, ho⟩ := hH
  have e4 : z_up J0 57 25 x 57 24 = zi H.length := by rw [up_place (by decide)]; exact h4
  refine ⟨z_up (z_up (z_up J0 57 25 x) 70 H.length v) 57 24 (zi (H.length + 1)), Cv.of hq_138 (z_le rfl) rfl (wp_Z_holds _ hS ?_), ⟨fun c a b e => by rw [up_cell a, up_cell e, up_cell a], fun k hk => by rw [up_place (by omega), up_cell (by decide), up_place (by omega)], fun k hk => by rw [up_cell (by decide), up_cell (by decide), up_cell (by decide)]⟩, ?_, ?_, ?_, ⟨?_, hh, ?_⟩, ?_, fun k hk => ?_⟩
  · rw [e4]
    refine ⟨zi_inr (by omega) (by omega), fun A g B gB => ?_⟩
    rw [zi_nat (by omega)] at g
    rw [gB, g, up_cell (a := 70) (b := 57) (by decide), e4, zi1]
  · rw [up_place (by decide), up_cell (by decide), up_place (by decide)]; exact h8
  · rw [up_same]; rfl
  · rw [up_place (by decide), up_cell (by decide), up_same]; exact hx
  · rw [up_cell (by decide), up_same]; exact hv
  · exact hL.fr fun k hk => by rw [up_cell (by decide), up_place (by omega), up_cell (by decide)]
  · rw [up_place (by decide), up_cell (by decide), up_place (by decide)]; exact h6
  · rw [up_cell (by decide), up_cell (by decide), up_cell (by decide)]; exact ho k hk
theorem rank_h : ∀ h, h < 20 → h = 0 ∨ 11 ≤ h → f_Z_rank (zi h) = zi (rk h) := by decide +kernel
theorem rk_le (h : Nat) : rk h ≤ 7 := by
  unfold rk
  repeat' split
  all_goals omega
theorem unw_loop {X : Nat × (Nat → Int32)} {d : Nat} {G : zG} (hS : SG G) {m : Nat} (hm : m < 6) {q : Nat} (hq1 : 1 ≤ q) (hq : q < 10) : ∀ (H : List Nat) (out : List Nat) (J : zI), Hz m J H out → H.length + out.length < 200 →
    ∃ J1 : zI, (((J 57 24) ≤ 0 → ((none : Option Value), G, J1) = (none, G, J)) ∧ (¬ (J 57 24) ≤ 0 → z_inr ((J 57 24) - 1) 200 ∧ (((f_Z_rank (J 70 ((J 57 24) - 1).toNatClampNeg)) < (zi q) → ((none : Option Value), G, J1) = (none, G, J)) ∧ (¬ (f_Z_rank (J 70 ((J 57 24) - 1).toNatClampNeg)) < (zi q) → (∀ I4 : zI, I4 = z_up J 57 24 ((J 57 24) - 1) → z_inr (I4 57 24) 200 ∧ (∀ y6 : Int32, y6 = (I4 70 (I4 57 24).toNatClampNeg) → (y6 = 13 → (∀ I8 : zI, I8 = z_up I4 57 25 ((I4 57 25) - 1) → ∃ (I9 : zI), Cv X d 134 [.ref 57, .int y6] G I8 (none, G, I9) ∧ (Ev X (d + 1) 135 0 [.ref 57, .int (zi q), .int y6] [] G I9 (none, G, J1)))) ∧ (¬ y6 = 13 → (¬ y6 = 19 → (∀ I12 : zI, I12 = z_up I4 57 25 ((I4 57 25) - 0) → ∃ (I13 : zI), Cv X d 134 [.ref 57, .int y6] G I12 (none, G, I13) ∧ (Ev X (d + 1) 135 0 [.ref 57, .int (zi q), .int y6] [] G I13 (none, G, J1)))) ∧ (y6 = 19 → (∀ I15 : zI, I15 = z_up I4 57 25 ((I4 57 25) - 1) → ∃ (I16 : zI), Cv X d 134 [.ref 57, .int y6] G I15 (none, G, I16) ∧ (Ev X (d + 1) 135 0 [.ref 57, .int (zi q), .int y6] [] G I16 (none, G, J1))))))))))) ∧ FS m J J1 ∧ Hz m J1 (unw q H out).1 (unw q H out).2 ∧ (unw q H out).1.length + (unw q H out).2.length = H.length + out.length := by
  intro H
  induction H with
  | nil =>
    intro out J hH hl
    exact ⟨J, ⟨fun _ => rfl, fun h => absurd (by rw [hH.2.1]; exact Int32.le_refl _) h⟩, FS.rfl, hH, rfl⟩
  | cons h H ih =>
    intro out J hH hl
    have hH0 := hH
    obtain ⟨h8, h4, h5, ⟨hL0, hh, hL⟩, h6, ho⟩ := hH
    rw [List.length_cons] at hl
    have h4' : J 57 24 = zi (H.length + 1) := h4
    have n0 : ¬ J 57 24 ≤ 0 := by rw [h4']; exact fun e => absurd ((zi_le (b := 0) (by omega) (by omega)).1 e) (by omega)
    have e1 : J 57 24 - 1 = zi H.length := by rw [h4']; exact (zi_sub (a := H.length + 1) (b := 1) (by omega)).trans (congrArg zi (by omega))
    have er : f_Z_rank (J 70 (J 57 24 - 1).toNatClampNeg) = zi (rk h) := by rw [e1, zi_nat (by omega), hL0]; exact rank_h h (by omega) (by omega)
    have r7 := rk_le h
    have ein : z_inr (J 57 24 - 1) 200 := by rw [e1]; exact zi_inr (by omega) (by omega)
    by_cases hr : q ≤ rk h
    · have nlt : ¬ f_Z_rank (J 70 (J 57 24 - 1).toNatClampNeg) < zi q := by rw [er]; exact fun e => absurd ((zi_lt (by omega) (by omega)).1 e) (by omega)
      rw [unw_pop hr]
      have hne : h ≠ 0 := fun e => by rw [e] at hr; exact absurd hr (by show ¬ q ≤ 0; omega)
      obtain ⟨J2, hJ2⟩ : ∃ J2 : zI, J2 = z_up (z_up J 57 24 (zi H.length)) 57 25 (zi (cntH H)) := ⟨_, rfl⟩
      have H2 : Hz m J2 H out := by
        rw [hJ2]
        refine ⟨?_, ?_, up_same, hL.fr fun k _ => by rw [up_cell (by decide), up_cell (by decide)], ?_, fun k hk => ?_⟩
        · rw [up_place (by decide), up_place (by decide)]; exact h8
        · rw [up_place (by decide), up_same]
        · rw [up_place (by decide), up_place (by decide)]; exact h6
        · rw [up_cell (by decide), up_cell (by decide)]; exact ho k hk
      have F2 : FS m J J2 := by
        rw [hJ2]
        exact ⟨fun c a _ _ => by rw [up_cell a, up_cell a], fun k hk => by rw [up_place (by omega), up_place (by omega)], fun k hk => by rw [up_cell (by decide), up_cell (by decide)]⟩
      obtain ⟨J3, k3, F3, H3⟩ := c_puts (X := X) (d := d) (c := h) hS hm H2 (by omega) rfl
      obtain ⟨J1, k1, F1, H1, l1⟩ := ih (out ++ [h]) J3 H3 (by rw [List.length_append]; show H.length + (out.length + 1) < 200; omega)
      have c5 := h5
      rw [cntH] at c5
      refine ⟨J1, ⟨fun e => absurd e n0, fun _ => ⟨ein, fun e => absurd e nlt, fun _ A g => ?_⟩⟩, (F2.tr F3).tr F1, H1, by rw [l1, List.length_append]; show H.length + (out.length + 1) = H.length + 1 + out.length; omega⟩
      have a4 : A 57 24 = zi H.length := by rw [g, up_same, e1]
      have a70 : A 70 (A 57 24).toNatClampNeg = zi h := by rw [a4, zi_nat (by omega), g, up_cell (by decide)]; exact hL0
      have a25 : A 57 25 = J 57 25 := by rw [g, up_place (by decide)]
      refine ⟨by rw [a4]; exact zi_inr (by omega) (by omega), fun y hy => ?_⟩
      rw [a70] at hy
      subst hy
      have last : ∀ B : zI, B = z_up A 57 25 (zi (cntH H)) → ∃ (I9 : zI), Cv X d 134 [.ref 57, .int (zi h)] G B (none, G, I9) ∧ Ev X (d + 1) 135 0 [.ref 57, .int (zi q), .int (zi h)] [] G I9 (none, G, J1) := fun B gB => by
        rw [g, e1] at gB
        obtain rfl : B = J2 := by rw [gB, hJ2]
        exact ⟨J3, k3, wp_Z_unwinds_0 _ _ hS k1⟩
      have lt : h < 20 := by omega
      have cl := cntH_le H
      refine ⟨fun e B gB => last B ?_, fun e => ⟨fun e2 B gB => last B ?_, fun e2 B gB => last B ?_⟩⟩
      · have e := (zi_eq (b := 13) (by omega) (by omega)).1 e
        rw [if_pos (by omega)] at c5
        rw [gB, a25, c5]
        exact congrArg _ ((zi_sub (a := 1 + cntH H) (b := 1) (by omega)).trans (congrArg zi (by omega)))
      · have e : h ≠ 13 := fun q => e (by rw [q]; rfl)
        have e2 : h ≠ 19 := fun q => e2 (by rw [q]; rfl)
        rw [if_neg (by omega)] at c5
        rw [gB, a25, c5]
        exact congrArg _ ((zi_sub (a := 0 + cntH H) (b := 0) (by omega)).trans (congrArg zi (by omega)))
      · have e2 := (zi_eq (b := 19) (by omega) (by omega)).1 e2
        rw [if_pos (by omega)] at c5
        rw [gB, a25, c5]
        exact congrArg _ ((zi_sub (a := 1 + cntH H) (b := 1) (by omega)).trans (congrArg zi (by omega)))
    · have lt : f_Z_rank (J 70 (J 57 24 - 1).toNatClampNeg) < zi q := by rw [er]; exact (zi_lt (by omega) (by omega)).2 (by omega)
      rw [show unw q (h :: H) out = (h :: H, out) from if_neg hr]
      exact ⟨J, ⟨fun e => absurd e n0, fun _ => ⟨ein, fun _ => rfl, fun e => absurd lt e⟩⟩, FS.rfl, hH0, rfl⟩
theorem c_unw {X : Nat × (Nat → Int32)} {d : Nat} {G : zG} (hS : SG G) {m : Nat} (hm : m < 6) {q : Nat} (hq1 : 1 ≤ q) (hq : q < 10) {H out : List Nat} {J : zI} {v : Int32} (hv : v = zi q) (hH : Hz m J H out) (hl : H.length + out.length < 200) :
    ∃ J1 : zI, Cv X (d + 1) 135 [.ref 57, .int v] G J (none, G, J1) ∧ FS m J J1 ∧ Hz m J1 (unw q H out).1 (unw q H out).2 ∧ (unw q H out).1.length + (unw q H out).2.length = H.length + out.length := by
  obtain ⟨J1, k, r⟩ := unw_loop (X := X) (d := d) hS hm hq1 hq H out J hH hl
  exact ⟨J1, Cv.of hq_135 (z_le rfl) rfl (by rw [hv]; exact wp_Z_unwinds _ hS k), r⟩
theorem up_self {J : zI} {a k : Nat} {x : Int32} (h : J a k = x) : z_up J a k x = J := by
  subst h; funext c j; unfold z_up; split
  · rename_i h; obtain ⟨rfl, rfl⟩ := h; rfl
  · rfl
theorem c_openO {X : Nat × (Nat → Int32)} {d : Nat} {G : zG} (hS : SG G) {m : Nat} {J : zI} {H out : List Nat} {h : Nat} {v : Int32} (hH : Hz m J H out) (hl : H.length < 200) (hv : v = zi h) (hh : h = 0 ∨ h = 13 ∨ h = 19) (hc : cntH H ≠ 5) :
    ∃ J1 : zI, Cv X (d + 1) 137 [.ref 57, .int v] G J (some (.int 1), G, J1) ∧ FS m J J1 ∧ Hz m J1 (h :: H) out := by
  have cl := cntH_le H
  have e5 : J 57 25 + 1 = zi (cntH (h :: H)) := by rw [hH.2.2.1, zi1, cntH, if_pos hh, Nat.add_comm]
  obtain ⟨J1, k, F, H1⟩ := c_holds (X := X) (d := d) (J := z_up J 57 25 (J 57 25 + 1)) hS hH hl hv (by omega) ⟨_, rfl, e5⟩
  exact ⟨J1, Cv.of hq_137 (z_le rfl) rfl (wp_Z_opensOne _ hS ⟨fun _ A g => ⟨J1, by rw [g]; exact k, rfl⟩, fun e => absurd ((zi_eq (b := 5) (by omega) (by omega)).1 (hH.2.2.1.symm.trans e)) hc⟩), F, H1⟩
theorem c_openNo {X : Nat × (Nat → Int32)} {d : Nat} {G : zG} (hS : SG G) {m : Nat} {J : zI} {H out : List Nat} {v : Int32} (hH : Hz m J H out) (hc : cntH H = 5) : Cv X (d + 1) 137 [.ref 57, .int v] G J (some (.int 0), G, J) :=
  Cv.of hq_137 (z_le rfl) rfl (wp_Z_opensOne _ hS ⟨fun e => absurd (by rw [hH.2.2.1, hc]; rfl) e, fun _ => rfl⟩)
theorem sgo_rk : ∀ t, t < 23 → (t = 14 ∨ t = 15 ∨ t = 9 ∨ t = 10 ∨ t = 6 ∨ t = 7 ∨ t = 8) → 11 ≤ sgo t ∧ sgo t ≤ 19 ∧ sgo t ≠ 13 ∧ sgo t ≠ 19 ∧ thr t = (if rk (sgo t) = 4 then 5 else rk (sgo t)) ∧ (rk (sgo t) = 4 ↔ t = 9 ∨ t = 10) := by decide +kernel
theorem c_between {X : Nat × (Nat → Int32)} {d : Nat} {G : zG} (hS : SG G) {m : Nat} (hm : m < 6) {J : zI} {H out : List Nat} {t : Nat} {v : Int32} (ht : t < 23) (hs : t = 14 ∨ t = 15 ∨ t = 9 ∨ t = 10 ∨ t = 6 ∨ t = 7 ∨ t = 8) (hv : v = zi (sgo t)) (hH : Hz m J H out) (hl : H.length + out.length < 199) :
    ∃ J1 : zI, FS m J J1 ∧ (((t = 9 ∨ t = 10) ∧ tp (unw (thr t) H out).1 = 4 → Cv X (d + 2) 140 [.ref 57, .int v] G J (some (.int 0), G, J1)) ∧ (¬ ((t = 9 ∨ t = 10) ∧ tp (unw (thr t) H out).1 = 4) → Cv X (d + 2) 140 [.ref 57, .int v] G J (some (.int 1), G, J1) ∧ Hz m J1 (sgo t :: (unw (thr t) H out).1) (unw (thr t) H out).2)) ∧ (unw (thr t) H out).1.length + (unw (thr t) H out).2.length = H.length + out.length := by
  obtain ⟨s1, s2, s3, s4, s5, s6⟩ := sgo_rk t ht hs
  have t6 := thr_le t
  have rv : f_Z_rank v = zi (rk (sgo t)) := by rw [hv]; exact rank_h _ (by omega) (by omega)
  have r7 := rk_le (sgo t)
  obtain ⟨J2, k2, F2, H2, l2⟩ := c_unw (X := X) (d := d) hS hm t6.1 (by omega) (Eq.refl (zi (thr t))) hH (by omega)
  obtain ⟨J3, k3, F3, H3⟩ := c_holds (X := X) (d := d + 1) (J := J2) (h := sgo t) hS H2 (by omega) hv (by omega) ⟨_, (up_self rfl).symm, by rw [H2.2.2.1, cnt_sg s1 s3 s4]⟩
  by_cases h4 : rk (sgo t) = 4
  · have hr : f_Z_rank v = 4 := by rw [rv, h4]; rfl
    rw [if_pos h4] at s5
    have k2' : Cv X (d + 1) 135 [.ref 57, .int 5] G J (none, G, J2) := by rw [s5] at k2; exact k2
    have t9 := s6.1 h4
    generalize (unw (thr t) H out).1 = U at *
    generalize (unw (thr t) H out).2 = V at *
    cases U with
    | nil =>
      have z0 : J2 57 24 ≤ 0 := by rw [H2.2.1]; exact Int32.le_refl _
      refine ⟨J3, F2.tr F3, ⟨fun e => absurd e.2 (by decide), fun _ => ⟨Cv.of hq_140 (z_le rfl) rfl (wp_Z_between _ hS ⟨fun e => absurd hr e, fun _ => ⟨J2, k2', fun e => absurd hr e, fun _ => ⟨fun _ => ⟨J3, k3, rfl⟩, fun e => absurd z0 e⟩⟩⟩), H3⟩⟩, l2⟩
    | cons u U =>
      obtain ⟨h8, g4, h5, ⟨hL0, hu, hL⟩, h6, ho⟩ := H2
      rw [List.length_cons] at l2
      have g4 : J2 57 24 = zi (U.length + 1) := g4
      have n0 : ¬ J2 57 24 ≤ 0 := by rw [g4]; exact fun e => absurd ((zi_le (b := 0) (by omega) (by omega)).1 e) (by omega)
      have e1 : J2 57 24 - 1 = zi U.length := by rw [g4]; exact (zi_sub (a := U.length + 1) (b := 1) (by omega)).trans (congrArg zi (by omega))
      have er : f_Z_rank (J2 70 (J2 57 24 - 1).toNatClampNeg) = zi (rk u) := by rw [e1, zi_nat (by omega), hL0]; exact rank_h u (by omega) (by omega)
      have ein : z_inr (J2 57 24 - 1) 200 := by rw [e1]; exact zi_inr (by omega) (by omega)
      have u7 := rk_le u
      by_cases u4 : rk u = 4
      · have er4 : f_Z_rank (J2 70 (J2 57 24 - 1).toNatClampNeg) = 4 := by rw [er, u4]; rfl
        exact ⟨J2, F2, ⟨fun _ => Cv.of hq_140 (z_le rfl) rfl (wp_Z_between _ hS ⟨fun e => absurd hr e, fun _ => ⟨J2, k2', fun e => absurd hr e, fun _ => ⟨fun e => absurd e n0, fun _ => ⟨ein, fun e => absurd er4 e, fun _ => rfl⟩⟩⟩⟩), fun e => absurd ⟨t9, u4⟩ e⟩, l2⟩
      · have er4 : ¬ f_Z_rank (J2 70 (J2 57 24 - 1).toNatClampNeg) = 4 := by rw [er]; exact fun e => u4 ((zi_eq (b := 4) (by omega) (by omega)).1 e)
        exact ⟨J3, F2.tr F3, ⟨fun e => absurd e.2 u4, fun _ => ⟨Cv.of hq_140 (z_le rfl) rfl (wp_Z_between _ hS ⟨fun e => absurd hr e, fun _ => ⟨J2, k2', fun e => absurd hr e, fun _ => ⟨fun e => absurd e n0, fun _ => ⟨ein, fun _ => ⟨J3, k3, rfl⟩, fun e => absurd e er4⟩⟩⟩⟩), H3⟩⟩, l2⟩
  · have hr : ¬ f_Z_rank v = 4 := by rw [rv]; exact fun e => h4 ((zi_eq (b := 4) (by omega) (by omega)).1 e)
    rw [if_neg h4] at s5
    have k2' : Cv X (d + 1) 135 [.ref 57, .int (f_Z_rank v)] G J (none, G, J2) := by rw [rv, ← s5]; exact k2
    exact ⟨J3, F2.tr F3, ⟨fun e => absurd (s6.2 e.1) h4, fun _ => ⟨Cv.of hq_140 (z_le rfl) rfl (wp_Z_between _ hS ⟨fun _ => ⟨J2, k2', fun _ => ⟨J3, k3, rfl⟩, fun e => absurd e hr⟩, fun e => absurd e hr⟩), H3⟩⟩, l2⟩
theorem unw_tp : ∀ (H out : List Nat), tp (unw 1 H out).1 < 1 := by
  intro H
  induction H with
  | nil => intro out; exact Nat.zero_lt_one
  | cons h H ih =>
    intro out
    by_cases e : 1 ≤ rk h
    · rw [unw_pop e]; exact ih _
    · rw [show unw 1 (h :: H) out = (h :: H, out) from if_neg e]
      show rk h < 1
      omega
def TokZ (b : Nat → Int32) (n : Nat) (J : zI) (i : Nat) : Prop := ByZ J b n ∧ J 57 18 = zi (PT b n (i + 1)) ∧ J 57 19 = zi (tkp b n (PT b n i)) ∧ RT J (TK b n i) (NM b n i)
theorem TokZ.fs {b : Nat → Int32} {n m i : Nat} {J J1 : zI} (h : TokZ b n J i) (F : FS m J J1) : TokZ b n J1 i := by
  obtain ⟨⟨b1, b2, b3⟩, h1, h2, r1, r2, r3, r4⟩ := h
  obtain ⟨f1, f2, f3⟩ := F
  have e21 := f2 21 (by decide)
  exact ⟨⟨(f2 5 (by decide)).trans b1, fun k hk => by rw [f1 61 (by decide) (by decide) (by decide)]; exact b2 k hk, fun k hk => by rw [f1 69 (by decide) (by decide) (by decide)]; exact b3 k hk⟩, (f2 18 (by decide)).trans h1, (f2 19 (by decide)).trans h2, (f2 20 (by decide)).trans r1, fun a => e21.trans (r2 a), fun a c => e21.trans (r3 a c), fun a => e21.trans (r4 a)⟩
def FE (m : Nat) (J J1 : zI) : Prop := (∀ c, c ≠ 57 → c ≠ 62 → c ≠ 70 → J1 c = J c) ∧ (∀ k, ¬ (18 ≤ k ∧ k ≤ 21) → ¬ (24 ≤ k ∧ k ≤ 26) → J1 57 k = J 57 k) ∧ ∀ k, k < 200 * m → J1 62 k = J 62 k
theorem FE.of {m : Nat} {J J1 : zI} (h : FS m J J1) : FE m J J1 := ⟨h.1, fun k _ a => h.2.1 k a, h.2.2⟩
theorem FE.tr {m : Nat} {J J1 J2 : zI} (h : FE m J J1) (h2 : FE m J1 J2) : FE m J J2 := ⟨fun c a e f => (h2.1 c a e f).trans (h.1 c a e f), fun k a e => (h2.2.1 k a e).trans (h.2.1 k a e), fun k a => (h2.2.2 k a).trans (h.2.2 k a)⟩
theorem rtk_is : ∀ t, t < 23 → (rtk t = 59 ↔ t = 5) ∧ (rtk t = 41 ↔ t = 4) ∧ (rtk t = 1 ↔ t = 2) ∧ (rtk t = 2 ↔ 17 ≤ t) ∧ (rtk t = 6 ↔ t = 16) ∧ (rtk t = 45 ↔ t = 7) ∧ (rtk t = 40 ↔ t = 3) := by decide +kernel
def sgz (x : Int32) : Int32 := if x = 4 then 11 else if x = 5 then 12 else if x = 60 then 14 else if x = 61 then 15 else if x = 43 then 16 else if x = 45 then 17 else if x = 42 then 18 else -1
theorem sgz_is : ∀ t, t < 23 → ((t = 14 ∨ t = 15 ∨ t = 9 ∨ t = 10 ∨ t = 6 ∨ t = 7 ∨ t = 8) → sgz (rtk t) = zi (sgo t) ∧ ¬ zi (sgo t) = -1 ∧ (12 < zi (sgo t) ↔ ¬ (t = 14 ∨ t = 15))) ∧ (¬ (t = 14 ∨ t = 15 ∨ t = 9 ∨ t = 10 ∨ t = 6 ∨ t = 7 ∨ t = 8) → sgz (rtk t) = -1) := by decide +kernel
def b01 (w : Bool) : Int32 := if w = true then 1 else 0
theorem eread {X : Nat × (Nat → Int32)} {d : Nat} {G : zG} (hS : SG G) {m : Nat} (hm : m < 6) {b : Nat → Int32} {n M : Nat} (hn : n ≤ 160) (hM : EndAt b n M) : ∀ (f : Nat) (w mn : Bool) (i : Nat) (H out : List Nat) (r : Nat × Option (List Nat)), sy (TK b n) (NM b n) f w mn i H out = some r → i ≤ M → ∀ (J : zI) (v3 : Value), v3.category = 1 → ByZ J b n → J 57 18 = zi (PT b n i) → Hz m J H out → H.length + out.length ≤ i →
    ∃ J1 : zI, Ev X (d + 3) 133 14 [.ref 57, .int (b01 w), .int (b01 mn), v3] [] G J (some (.int (oz r.2)), G, J1) ∧ FE m J J1 ∧ TokZ b n J1 r.1 ∧ i ≤ r.1 ∧ r.1 ≤ M ∧ ∀ s, r.2 = some s → Hz m J1 [] s ∧ s.length ≤ r.1 := by
  intro f
  induction f with
  | zero => intro w mn i H out r h; cases h
  | succ f ih =>
    intro w mn i H out r h hi J v3 c3 hB h18 hH hl
    have ml := hM.le
    have t22 : TK b n i < 23 := by have := tkt_le b n (PT b n i); unfold TK; omega
    have cl := cntH_le H
    obtain ⟨J1, k1, q18, q19, qR, qc, qf⟩ := c_next (X := X) (d := d + 1) hS (b := b) hn (PT_le (b := b) (n := n) i) hB h18
    have T1 : TokZ b n J1 i := ⟨⟨(qf 5 (by decide) (by decide) (by decide) (by decide)).trans hB.1, fun k hk => by rw [qc 61 (by decide)]; exact hB.2.1 k hk, fun k hk => by rw [qc 69 (by decide)]; exact hB.2.2 k hk⟩, q18, q19, qR⟩
    have F1 : FE m J J1 := ⟨fun c a _ _ => qc c a, fun k a _ => qf k (by omega) (by omega) (by omega) (by omega), fun k _ => by rw [qc 62 (by decide)]⟩
    have H1 : Hz m J1 H out := hH.fr (qf 8 (by decide) (by decide) (by decide) (by decide)) (qf 24 (by decide) (by decide) (by decide) (by decide)) (qf 25 (by decide) (by decide) (by decide) (by decide)) (qf 26 (by decide) (by decide) (by decide) (by decide)) (qc 70 (by decide)) (qc 62 (by decide))
    obtain ⟨r5, r4, r1, r2, r6, r7, r3⟩ := rtk_is _ t22
    have e20 : J1 57 20 = rtk (TK b n i) := qR.1
    rw [← e20] at r5 r4 r1 r2 r6 r7 r3
    -- reading on
    have on : ∀ (w' mn' : Bool) (H' out' : List Nat) (J2 : zI) (v : Value), v.category = 1 → TK b n i ≠ 0 → sy (TK b n) (NM b n) f w' mn' (i + 1) H' out' = some r → FE m J J2 → TokZ b n J2 i → Hz m J2 H' out' → H'.length + out'.length ≤ i + 1 →
        ∃ J3 : zI, Ev X (d + 3) 133 14 [.ref 57, .int (b01 w'), .int (b01 mn'), v] [] G J2 (some (.int (oz r.2)), G, J3) ∧ FE m J J3 ∧ TokZ b n J3 r.1 ∧ i ≤ r.1 ∧ r.1 ≤ M ∧ ∀ s, r.2 = some s → Hz m J3 [] s ∧ s.length ≤ r.1 := by
      intro w' mn' H' out' J2 v cv h0 hs F2 T2 H2 l2
      obtain ⟨J3, a1, a2, a3, a4, a5, a6⟩ := ih w' mn' (i + 1) H' out' r hs (hM.lt hi h0) J2 v cv T2.1 T2.2.1 H2 l2
      exact ⟨J3, a1, F2.tr a2, a3, by omega, a5, a6⟩
    cases w with
    | true =>
      rw [sy] at h
      have n1 : ¬ b01 true = 0 := by decide
      -- a leaf
      have leaf : ∀ c v, v = zi c → TK b n i ≠ 0 → sy (TK b n) (NM b n) f false mn (i + 1) (unw 7 H (out ++ [c])).1 (unw 7 H (out ++ [c])).2 = some r → ∃ J3 J4 Jz : zI, Cv X (d + 2) 134 [.ref 57, .int v] G J1 (none, G, J3) ∧ Cv X (d + 2) 135 [.ref 57, .int 7] G J3 (none, G, J4) ∧ Ev X (d + 3) 133 14 [.ref 57, .int 0, .int (b01 mn), v3] [] G J4 (some (.int (oz r.2)), G, Jz) ∧ FE m J Jz ∧ TokZ b n Jz r.1 ∧ i ≤ r.1 ∧ r.1 ≤ M ∧ ∀ s, r.2 = some s → Hz m Jz [] s ∧ s.length ≤ r.1 := by
        intro c v hv h0 hs
        obtain ⟨J3, k3, F3, H3⟩ := c_puts (X := X) (d := d + 2) (c := c) hS hm H1 (by omega) hv
        have ll : H.length + (out ++ [c]).length = H.length + out.length + 1 := by rw [List.length_append]; rfl
        obtain ⟨J4, k4, F4, H4, l4⟩ := c_unw (X := X) (d := d) hS hm (q := 7) (by omega) (by omega) (v := 7) rfl H3 (by omega)
        obtain ⟨Jz, kz, rz⟩ := on false mn _ _ J4 v3 c3 h0 hs (F1.tr (FE.of (F3.tr F4))) ((T1.fs F3).fs F4) H4 (by omega)
        exact ⟨J3, J4, Jz, k3, k4.deep (by omega), kz, rz⟩
      by_cases e2 : TK b n i = 2
      · rw [if_pos e2] at h
        have g := r1.2 e2
        obtain ⟨J3, J4, Jz, k3, k4, kz, rz⟩ := leaf (100000 + NM b n i) (100000 + J1 57 21) (by rw [qR.2.1 e2]; exact zi_add (a := 100000)) (by omega) h
        exact ⟨Jz, wp_Z_eRead_14 _ _ _ c3 hS ⟨J1, k1.deep (by omega), fun e => absurd e n1, fun _ => ⟨fun _ => ⟨fun e => absurd g e, fun _ => ⟨J3, k3, J4, k4, kz⟩⟩, fun e => absurd g e⟩⟩, rz⟩
      rw [if_neg e2] at h
      have g1 : ¬ J1 57 20 = 1 := fun e => e2 (r1.1 e)
      by_cases e17 : 17 ≤ TK b n i ∧ TK b n i ≤ 22
      · rw [if_pos e17] at h
        have g := r2.2 e17.1
        obtain ⟨J3, J4, Jz, k3, k4, kz, rz⟩ := leaf (TK b n i - 17) (J1 57 21) (qR.2.2.2 e17.1) (by omega) h
        exact ⟨Jz, wp_Z_eRead_14 _ _ _ c3 hS ⟨J1, k1.deep (by omega), fun e => absurd e n1, fun _ => ⟨fun e => absurd e g1, fun _ => ⟨fun e => absurd g e, fun _ => ⟨fun _ => ⟨J3, k3, J4, k4, kz⟩, fun e => absurd e g1⟩⟩⟩⟩, rz⟩
      rw [if_neg e17] at h
      have g2 : ¬ J1 57 20 = 2 := fun e => e17 ⟨r2.1 e, by omega⟩
      -- an opening sign, or none
      have opn : ∀ g v mn', v = zi g → (g = 0 ∨ g = 13 ∨ g = 19) → TK b n i ≠ 0 → (if cntH H = 5 then some (i, none) else sy (TK b n) (NM b n) f true mn' (i + 1) (g :: H) out) = some r → ∃ (r39 : Int32) (J2 Jz : zI), Cv X (d + 2) 137 [.ref 57, .int v] G J1 (some (.int r39), G, J2) ∧ ((¬ r39 = 0 → Ev X (d + 3) 133 14 [.ref 57, .int 1, .int (b01 mn'), v3] [] G J2 (some (.int (oz r.2)), G, Jz)) ∧ (r39 = 0 → (some (Value.int (oz r.2)), G, Jz) = (some (.int 0), G, J2))) ∧ FE m J Jz ∧ TokZ b n Jz r.1 ∧ i ≤ r.1 ∧ r.1 ≤ M ∧ ∀ s, r.2 = some s → Hz m Jz [] s ∧ s.length ≤ r.1 := by
        intro g v mn' hv hg h0 hs
        by_cases c5 : cntH H = 5
        · rw [if_pos c5] at hs
          cases hs
          exact ⟨0, J1, J1, (c_openNo (d := 0) hS H1 c5).deep (by omega), ⟨fun e => absurd rfl e, fun _ => rfl⟩, F1, T1, Nat.le_refl _, hi, fun s e => by cases e⟩
        · rw [if_neg c5] at hs
          obtain ⟨J2, k2, F2, H2⟩ := c_openO (X := X) (d := 0) hS H1 (by omega) hv hg c5
          obtain ⟨Jz, kz, rz⟩ := on true mn' _ _ J2 v3 c3 h0 hs (F1.tr (FE.of F2)) (T1.fs F2) H2 (by rw [List.length_cons]; omega)
          exact ⟨1, J2, Jz, k2.deep (by omega), ⟨fun _ => kz, fun e => absurd e (by decide)⟩, rz⟩
      by_cases e16 : TK b n i = 16 ∧ mn = true
      · rw [if_pos e16] at h
        have g := r6.2 e16.1
        have nb : ¬ b01 mn = 0 := by rw [e16.2]; decide
        obtain ⟨r39, J2, Jz, k2, kz, rz⟩ := opn 13 13 mn rfl (Or.inr (Or.inl rfl)) (by omega) h
        exact ⟨Jz, wp_Z_eRead_14 _ _ _ c3 hS ⟨J1, k1.deep (by omega), fun e => absurd e n1, fun _ => ⟨fun e => absurd e g1, fun _ => ⟨fun _ => ⟨fun e => absurd g e, fun _ => ⟨fun e => absurd e nb, fun _ => ⟨r39, J2, k2, kz⟩⟩⟩, fun e => absurd e g2⟩⟩⟩, rz⟩
      rw [if_neg e16] at h
      -- what is behind is there twice
      have two : ∀ res, ((¬ J1 57 20 = 45 → (¬ J1 57 20 = 40 → res = (some (.int 0), G, J1)) ∧ (J1 57 20 = 40 → ∃ (r39 : Int32) (I37 : zI), Cv X (d + 2) 137 [.ref 57, .int 0] G J1 (some (.int r39), G, I37) ∧ ((¬ r39 = 0 → Ev X (d + 3) 133 14 [.ref 57, .int 1, .int 1, v3] [] G I37 res) ∧ (r39 = 0 → res = (some (.int 0), G, I37))))) ∧ (J1 57 20 = 45 → ∃ (r43 : Int32) (I41 : zI), Cv X (d + 2) 137 [.ref 57, .int 19] G J1 (some (.int r43), G, I41) ∧ ((¬ r43 = 0 → Ev X (d + 3) 133 14 [.ref 57, .int 1, .int 0, v3] [] G I41 res) ∧ (r43 = 0 → res = (some (.int 0), G, I41))))) → Ev X (d + 3) 133 14 [.ref 57, .int (b01 true), .int (b01 mn), v3] [] G J res := by
        intro res k
        by_cases g6 : TK b n i = 16
        · have g := r6.2 g6
          have nb : b01 mn = 0 := by
            cases mn
            · rfl
            · exact absurd ⟨g6, rfl⟩ e16
          exact wp_Z_eRead_14 _ _ _ c3 hS ⟨J1, k1.deep (by omega), fun e => absurd e n1, fun _ => ⟨fun e => absurd e g1, fun _ => ⟨fun _ => ⟨fun e => absurd g e, fun _ => ⟨fun _ => k, fun e => absurd nb e⟩⟩, fun e => absurd e g2⟩⟩⟩
        · have g : ¬ J1 57 20 = 6 := fun e => g6 (r6.1 e)
          exact wp_Z_eRead_14 _ _ _ c3 hS ⟨J1, k1.deep (by omega), fun e => absurd e n1, fun _ => ⟨fun e => absurd e g1, fun _ => ⟨fun _ => ⟨fun _ => k, fun e => absurd e g⟩, fun e => absurd e g2⟩⟩⟩
      by_cases e7 : TK b n i = 7
      · rw [if_pos e7] at h
        have g := r7.2 e7
        obtain ⟨r39, J2, Jz, k2, kz, rz⟩ := opn 19 19 false rfl (Or.inr (Or.inr rfl)) (by omega) h
        exact ⟨Jz, two _ ⟨fun e => absurd g e, fun _ => ⟨r39, J2, k2, kz⟩⟩, rz⟩
      rw [if_neg e7] at h
      have g7 : ¬ J1 57 20 = 45 := fun e => e7 (r7.1 e)
      by_cases e3 : TK b n i = 3
      · rw [if_pos e3] at h
        have g := r3.2 e3
        obtain ⟨r39, J2, Jz, k2, kz, rz⟩ := opn 0 0 true rfl (Or.inl rfl) (by omega) h
        exact ⟨Jz, two _ ⟨fun _ => ⟨fun e => absurd g e, fun _ => ⟨r39, J2, k2, kz⟩⟩, fun e => absurd e g7⟩, rz⟩
      rw [if_neg e3] at h
      have g3 : ¬ J1 57 20 = 40 := fun e => e3 (r3.1 e)
      cases h
      exact ⟨J1, two _ ⟨fun _ => ⟨fun _ => rfl, fun e => absurd e g3⟩, fun e => absurd e g7⟩, F1, T1, Nat.le_refl _, hi, fun s e => by cases e⟩
    | false =>
      rw [sy] at h
      have z0 : b01 false = 0 := rfl
      have t6 := thr_le (TK b n i)
      by_cases e5 : TK b n i = 5
      · rw [if_pos e5] at h
        have g := r5.2 e5
        have t1 : thr (TK b n i) = 1 := by rw [e5]; decide
        rw [t1] at h
        obtain ⟨J2, k2, F2, H2, l2⟩ := c_unw (X := X) (d := d) hS hm (q := 1) (by omega) (by omega) (v := 1) rfl H1 (by omega)
        generalize (unw 1 H out).1 = U at *
        generalize (unw 1 H out).2 = V at *
        cases U with
        | nil =>
          cases h
          have u0 : J2 57 24 = 0 := H2.2.1
          exact ⟨J2, wp_Z_eRead_14 _ _ _ c3 hS ⟨J1, k1.deep (by omega), fun _ => ⟨fun e => absurd g e, fun _ => ⟨J2, k2.deep (by omega), fun e => absurd u0 e, fun _ => rfl⟩⟩, fun e => absurd z0 e⟩, F1.tr (FE.of F2), T1.fs F2, Nat.le_refl _, hi, fun s e => by cases e; exact ⟨H2, by have : ([] : List Nat).length = 0 := rfl; omega⟩⟩
        | cons u U =>
          cases h
          rw [List.length_cons] at l2
          have u0 : ¬ J2 57 24 = 0 := by rw [H2.2.1]; exact fun e => absurd ((zi_eq (b := 0) (by rw [List.length_cons]; omega) (by omega)).1 e) (by rw [List.length_cons]; omega)
          exact ⟨J2, wp_Z_eRead_14 _ _ _ c3 hS ⟨J1, k1.deep (by omega), fun _ => ⟨fun e => absurd g e, fun _ => ⟨J2, k2.deep (by omega), fun _ => rfl, fun e => absurd e u0⟩⟩, fun e => absurd z0 e⟩, F1.tr (FE.of F2), T1.fs F2, Nat.le_refl _, hi, fun s e => by cases e⟩
      rw [if_neg e5] at h
      have g5 : ¬ J1 57 20 = 59 := fun e => e5 (r5.1 e)
      by_cases e4 : TK b n i = 4
      · rw [if_pos e4] at h
        have g := r4.2 e4
        have t1 : thr (TK b n i) = 1 := by rw [e4]; decide
        rw [t1] at h
        obtain ⟨J2, k2, F2, H2, l2⟩ := c_unw (X := X) (d := d) hS hm (q := 1) (by omega) (by omega) (v := 1) rfl H1 (by omega)
        have top : tp (unw 1 H out).1 < 1 := unw_tp H out
        generalize (unw 1 H out).1 = U at *
        generalize (unw 1 H out).2 = V at *
        cases U with
        | nil =>
          cases h
          have u0 : J2 57 24 = 0 := H2.2.1
          exact ⟨J2, wp_Z_eRead_14 _ _ _ c3 hS ⟨J1, k1.deep (by omega), fun _ => ⟨fun _ => ⟨fun e => absurd g e, fun _ => ⟨J2, k2.deep (by omega), fun e => absurd u0 e, fun _ => rfl⟩⟩, fun e => absurd e g5⟩, fun e => absurd z0 e⟩, F1.tr (FE.of F2), T1.fs F2, Nat.le_refl _, hi, fun s e => by cases e⟩
        | cons u U =>
          rw [List.length_cons] at l2
          have H2' := H2
          obtain ⟨h8, g4, h5, ⟨hL0, hu, hL⟩, h6, ho⟩ := H2
          have g4 : J2 57 24 = zi (U.length + 1) := g4
          have u0 : ¬ J2 57 24 = 0 := by rw [g4]; exact fun e => absurd ((zi_eq (b := 0) (by omega) (by omega)).1 e) (by omega)
          have uz : u = 0 := by
            rcases hu with hu | hu
            · exact hu
            · have : ∀ u, u < 20 → 11 ≤ u → ¬ rk u < 1 := by decide +kernel
              exact absurd top (this u (by omega) hu.1)
          subst uz
          have cU := cntH_le U
          rw [cntH, if_pos (Or.inl rfl)] at h5
          have e1 : J2 57 24 - 1 = zi U.length := by rw [g4]; exact (zi_sub (a := U.length + 1) (b := 1) (by omega)).trans (congrArg zi (by omega))
          have e2 : J2 57 25 - 1 = zi (cntH U) := by rw [h5]; exact (zi_sub (a := 1 + cntH U) (b := 1) (by omega)).trans (congrArg zi (by omega))
          obtain ⟨J3, hJ3⟩ : ∃ J3 : zI, J3 = z_up (z_up J2 57 24 (zi U.length)) 57 25 (zi (cntH U)) := ⟨_, rfl⟩
          have H3 : Hz m J3 U V := by
            rw [hJ3]
            refine ⟨?_, ?_, up_same, hL.fr fun k _ => by rw [up_cell (by decide), up_cell (by decide)], ?_, fun k hk => ?_⟩
            · rw [up_place (by decide), up_place (by decide)]; exact h8
            · rw [up_place (by decide), up_same]
            · rw [up_place (by decide), up_place (by decide)]; exact h6
            · rw [up_cell (by decide), up_cell (by decide)]; exact ho k hk
          have F3 : FS m J2 J3 := by
            rw [hJ3]
            exact ⟨fun c a _ _ => by rw [up_cell a, up_cell a], fun k hk => by rw [up_place (by omega), up_place (by omega)], fun k hk => by rw [up_cell (by decide), up_cell (by decide)]⟩
          obtain ⟨J4, k4, F4, H4, l4⟩ := c_unw (X := X) (d := d) hS hm (q := 7) (by omega) (by omega) (v := 7) rfl H3 (by omega)
          obtain ⟨Jz, kz, rz⟩ := on false mn _ _ J4 v3 c3 (by omega) h (F1.tr (FE.of ((F2.tr F3).tr F4))) (((T1.fs F2).fs F3).fs F4) H4 (by omega)
          refine ⟨Jz, wp_Z_eRead_14 _ _ _ c3 hS ⟨J1, k1.deep (by omega), fun _ => ⟨fun _ => ⟨fun e => absurd g e, fun _ => ⟨J2, k2.deep (by omega), fun _ A gA B gB => ⟨J4, ?_, kz⟩, fun e => absurd e u0⟩⟩, fun e => absurd e g5⟩, fun e => absurd z0 e⟩, rz⟩
          have : B = J3 := by rw [gB, gA, up_place (by decide), e2, e1, hJ3]
          rw [this]
          exact k4.deep (by omega)
      rw [if_neg e4] at h
      have g4 : ¬ J1 57 20 = 41 := fun e => e4 (r4.1 e)
      have es : f_Z_signOf J1 = sgz (rtk (TK b n i)) := by rw [← e20]; rfl
      obtain ⟨sy1, sy2⟩ := sgz_is _ t22
      by_cases hs : TK b n i = 14 ∨ TK b n i = 15 ∨ TK b n i = 9 ∨ TK b n i = 10 ∨ TK b n i = 6 ∨ TK b n i = 7 ∨ TK b n i = 8
      · rw [if_pos hs] at h
        obtain ⟨s1, s2, s3⟩ := sy1 hs
        rw [s1] at es
        obtain ⟨J2, F2, ⟨no, yes⟩, l2⟩ := c_between (X := X) (d := d) hS hm t22 hs (Eq.refl (zi (sgo (TK b n i)))) H1 (by omega)
        by_cases tw : (TK b n i = 9 ∨ TK b n i = 10) ∧ tp (unw (thr (TK b n i)) H out).1 = 4
        · rw [if_pos tw] at h
          cases h
          exact ⟨J2, wp_Z_eRead_14 _ _ _ c3 hS ⟨J1, k1.deep (by omega), fun _ => ⟨fun _ => ⟨fun _ y hy => ⟨fun e => absurd (by rw [← es, ← hy]; exact e) s2, fun _ => ⟨0, J2, by rw [hy, es]; exact no tw, fun e => absurd rfl e, fun _ => rfl⟩⟩, fun e => absurd e g4⟩, fun e => absurd e g5⟩, fun e => absurd z0 e⟩, F1.tr (FE.of F2), T1.fs F2, Nat.le_refl _, hi, fun s e => by cases e⟩
        · rw [if_neg tw] at h
          obtain ⟨k2, H2⟩ := yes tw
          obtain ⟨Jz, kz, rz⟩ := on true _ _ _ J2 (.int (zi (sgo (TK b n i)))) rfl (by omega) h (F1.tr (FE.of F2)) (T1.fs F2) H2 (by rw [List.length_cons]; omega)
          refine ⟨Jz, wp_Z_eRead_14 _ _ _ c3 hS ⟨J1, k1.deep (by omega), fun _ => ⟨fun _ => ⟨fun _ y hy => ⟨fun e => absurd (by rw [← es, ← hy]; exact e) s2, fun _ => ⟨1, J2, by rw [hy, es]; exact k2, fun _ => ⟨fun e => ?_, fun e => ?_⟩, fun e => absurd e (by decide)⟩⟩, fun e => absurd e g4⟩, fun e => absurd e g5⟩, fun e => absurd z0 e⟩, rz⟩
          · rw [hy, es] at e ⊢
            rw [decide_eq_false (s3.1 e)] at kz
            exact kz
          · rw [hy, es] at e ⊢
            rw [decide_eq_true (Classical.not_not.1 fun q => e (s3.2 q))] at kz
            exact kz
      · rw [if_neg hs] at h
        cases h
        rw [sy2 hs] at es
        exact ⟨J1, wp_Z_eRead_14 _ _ _ c3 hS ⟨J1, k1.deep (by omega), fun _ => ⟨fun _ => ⟨fun _ y hy => ⟨fun _ => rfl, fun e => absurd (hy.trans es) e⟩, fun e => absurd e g4⟩, fun e => absurd e g5⟩, fun e => absurd z0 e⟩, F1, T1, Nat.le_refl _, hi, fun s e => by cases e⟩
