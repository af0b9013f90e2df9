/-! THE MODEL READS AS sy SAYS -/
def FS (m : Nat) (J J1 : zI) : Prop := (∀ c, c ≠ 57 → c ≠ 62 → c ≠ 70 → J1 c = J c) ∧ (∀ k, ¬ (24 ≤ k ∧ k ≤ 26) → J1 57 k = J 57 k) ∧ ∀ k, k < 200 * m → J1 62 k = J 62 k
theorem FS.rfl {m : Nat} {J : zI} : FS m J J := ⟨fun _ _ _ _ => Eq.refl _, fun _ _ => Eq.refl _, fun _ _ => Eq.refl _⟩
theorem FS.tr {m : Nat} {J J1 J2 : zI} (h : FS m J J1) (h2 : FS m J1 J2) : FS m J J2 := ⟨fun c a e f => (h2.1 c a e f).trans (h.1 c a e f), fun k a => (h2.2.1 k a).trans (h.2.1 k a), fun k a => (h2.2.2 k a).trans (h.2.2 k a)⟩
def HdL (J : zI) : List Nat → Prop
  | [] => True
  | h :: H => J 70 H.length = zi h ∧ (h = 0 ∨ (11 ≤ h ∧ h ≤ 19)) ∧ HdL J H
theorem HdL.fr {J J1 : zI} : ∀ {H : List Nat}, HdL J H → (∀ k, k < H.length → J1 70 k = J 70 k) → HdL J1 H := by
  intro H
  induction H with
  | nil => intro _ _; trivial
  | cons h H ih =>
    intro a e
    exact ⟨(e _ (Nat.lt_succ_self _)).trans a.1, a.2.1, ih a.2.2 fun k hk => e k (Nat.lt_succ_of_lt hk)⟩
/-- what the model holds: signs, and what came out -/
def Hz (m : Nat) (J : zI) (H out : List Nat) : Prop := J 57 8 = zi m ∧ J 57 24 = zi H.length ∧ J 57 25 = zi (cntH H) ∧ HdL J H ∧ J 57 26 = zi out.length ∧ ∀ k, k < out.length → J 62 (200 * m + k) = zi (out.getD k 0)
theorem cntH_le : ∀ H, cntH H ≤ H.length := by
  intro H
  induction H with
  | nil => exact Nat.le_refl _
  | cons h H ih => rw [cntH, List.length_cons]; split <;> omega
theorem Hz.fr {m : Nat} {J J1 : zI} {H out : List Nat} (h : Hz m J H out) (h8 : J1 57 8 = J 57 8) (h4 : J1 57 24 = J 57 24) (h5 : J1 57 25 = J 57 25) (h6 : J1 57 26 = J 57 26) (h70 : J1 70 = J 70) (h62 : J1 62 = J 62) : Hz m J1 H out :=
  ⟨h8.trans h.1, h4.trans h.2.1, h5.trans h.2.2.1, h.2.2.2.1.fr fun k _ => by rw [h70], h6.trans h.2.2.2.2.1, fun k hk => by rw [h62]; exact h.2.2.2.2.2 k hk⟩
theorem c_puts {X : Nat × (Nat → Int32)} {d : Nat} {G : zG} (hS : SG G) {m : Nat} {J : zI} {H out : List Nat} {c : Nat} {v : Int32} (hm : m < 6) (hH : Hz m J H out) (hl : out.length < 200) (hv : v = zi c) :
    ∃ J1 : zI, Cv X d 134 [.ref 57, .int v] G J (none, G, J1) ∧ FS m J J1 ∧ Hz m J1 H (out ++ [c]) := by
  obtain ⟨h8, h4, h5, hL, h6, ho⟩ := hH
  have e : (200 : Int32) * J 57 8 + J 57 26 = zi (200 * m + out.length) := by
    rw [h8, h6]
    show zi 200 * zi m + _ = _
    rw [zi_mul, zi_add]
  refine ⟨z_up (z_up J 62 (200 * m + out.length) v) 57 26 (zi (out.length + 1)), Cv.of hq_134 (z_le rfl) rfl (wp_Z_puts _ hS ?_), ⟨fun c a b _ => by rw [up_cell a, up_cell b], fun k hk => by rw [up_place (by omega), up_cell (by decide)], fun k hk => by rw [up_cell (by decide), up_place (by omega)]⟩, ?_, ?_, ?_, ?_, ?_, fun k hk => ?_⟩
  · rw [e]
    refine ⟨zi_inr (by omega) (by omega), fun A g B gB => ?_⟩
    rw [zi_nat (by omega)] at g
    rw [gB, g, up_cell (a := 62) (b := 57) (by decide), h6, zi1]
  · rw [up_place (by decide), up_cell (by decide)]; exact h8
  · rw [up_place (by decide), up_cell (by decide)]; exact h4
  · rw [up_place (by decide), up_cell (by decide)]; exact h5
  · exact hL.fr fun k _ => by rw [up_cell (by decide), up_cell (by decide)]
  · rw [up_same, List.length_append]; rfl
  · rw [List.length_append, List.length_singleton] at hk
    rw [up_cell (by decide)]
    by_cases q : k = out.length
    · subst q
      rw [up_same, hv]
      simp
    · rw [up_place (by omega), ho k (by omega), List.getD_eq_getElem?_getD, List.getD_eq_getElem?_getD, List.getElem?_append_left (by omega)]
theorem c_holds {X : Nat × (Nat → Int32)} {d : Nat} {G : zG} (hS : SG G) {m : Nat} {J J0 : zI} {H out : List Nat} {h : Nat} {v : Int32} (hH : Hz m J0 H out) (hl : H.length < 200) (hv : v = zi h) (hh : h = 0 ∨ (11 ≤ h ∧ h ≤ 19)) (hF : ∃ x, J = z_up J0 57 25 x ∧ x = zi (cntH (h :: H))) :
    ∃ J1 : zI, Cv X d 138 [.ref 57, .int v] G J (none, G, J1) ∧ FS m J0 J1 ∧ Hz m J1 (h :: H) out := by
  obtain ⟨x, rfl, hx⟩ := hF
  obtain ⟨h8, h4, h5, hL, h6, ho⟩ := hH
  have e4 : z_up J0 57 25 x 57 24 = zi H.length := by rw [up_place (by decide)]; exact h4
  refine ⟨z_up (z_up (z_up J0 57 25 x) 70 H.length v) 57 24 (zi (H.length + 1)), Cv.of hq_138 (z_le rfl) rfl (wp_Z_holds _ hS ?_), ⟨fun c a b e => by rw [up_cell a, up_cell e, up_cell a], fun k hk => by rw [up_place (by omega), up_cell (by decide), up_place (by omega)], fun k hk => by rw [up_cell (by decide), up_cell (by decide), up_cell (by decide)]⟩, ?_, ?_, ?_, ⟨?_, hh, ?_⟩, ?_, fun k hk => ?_⟩
  · rw [e4]
    refine ⟨zi_inr (by omega) (by omega), fun A g B gB => ?_⟩
    rw [zi_nat (by omega)] at g
    rw [gB, g, up_cell (a := 70) (b := 57) (by decide), e4, zi1]
  · rw [up_place (by decide), up_cell (by decide), up_place (by decide)]; exact h8
  · rw [up_same]; rfl
  · rw [up_place (by decide), up_cell (by decide), up_same]; exact hx
  · rw [up_cell (by decide), up_same]; exact hv
  · exact hL.fr fun k hk => by rw [up_cell (by decide), up_place (by omega), up_cell (by decide)]
  · rw [up_place (by decide), up_cell (by decide), up_place (by decide)]; exact h6
  · rw [up_cell (by decide), up_cell (by decide), up_cell (by decide)]; exact ho k hk
theorem rank_h : ∀ h, h < 20 → h = 0 ∨ 11 ≤ h → f_Z_rank (zi h) = zi (rk h) := by decide +kernel
theorem rk_le (h : Nat) : rk h ≤ 7 := by
  unfold rk
  repeat' split
  all_goals omega
theorem unw_loop {X : Nat × (Nat → Int32)} {d : Nat} {G : zG} (hS : SG G) {m : Nat} (hm : m < 6) {q : Nat} (hq1 : 1 ≤ q) (hq : q < 10) : ∀ (H : List Nat) (out : List Nat) (J : zI), Hz m J H out → H.length + out.length < 200 →
    ∃ J1 : zI, (((J 57 24) ≤ 0 → ((none : Option Value), G, J1) = (none, G, J)) ∧ (¬ (J 57 24) ≤ 0 → z_inr ((J 57 24) - 1) 200 ∧ (((f_Z_rank (J 70 ((J 57 24) - 1).toNatClampNeg)) < (zi q) → ((none : Option Value), G, J1) = (none, G, J)) ∧ (¬ (f_Z_rank (J 70 ((J 57 24) - 1).toNatClampNeg)) < (zi q) → (∀ I4 : zI, I4 = z_up J 57 24 ((J 57 24) - 1) → z_inr (I4 57 24) 200 ∧ (∀ y6 : Int32, y6 = (I4 70 (I4 57 24).toNatClampNeg) → (y6 = 13 → (∀ I8 : zI, I8 = z_up I4 57 25 ((I4 57 25) - 1) → ∃ (I9 : zI), Cv X d 134 [.ref 57, .int y6] G I8 (none, G, I9) ∧ (Ev X (d + 1) 135 0 [.ref 57, .int (zi q), .int y6] [] G I9 (none, G, J1)))) ∧ (¬ y6 = 13 → (¬ y6 = 19 → (∀ I12 : zI, I12 = z_up I4 57 25 ((I4 57 25) - 0) → ∃ (I13 : zI), Cv X d 134 [.ref 57, .int y6] G I12 (none, G, I13) ∧ (Ev X (d + 1) 135 0 [.ref 57, .int (zi q), .int y6] [] G I13 (none, G, J1)))) ∧ (y6 = 19 → (∀ I15 : zI, I15 = z_up I4 57 25 ((I4 57 25) - 1) → ∃ (I16 : zI), Cv X d 134 [.ref 57, .int y6] G I15 (none, G, I16) ∧ (Ev X (d + 1) 135 0 [.ref 57, .int (zi q), .int y6] [] G I16 (none, G, J1))))))))))) ∧ FS m J J1 ∧ Hz m J1 (unw q H out).1 (unw q H out).2 ∧ (unw q H out).1.length + (unw q H out).2.length = H.length + out.length := by
  intro H
  induction H with
  | nil =>
    intro out J hH hl
    exact ⟨J, ⟨fun _ => rfl, fun h => absurd (by rw [hH.2.1]; exact Int32.le_refl _) h⟩, FS.rfl, hH, rfl⟩
  | cons h H ih =>
    intro out J hH hl
    have hH0 := hH
    obtain ⟨h8, h4, h5, ⟨hL0, hh, hL⟩, h6, ho⟩ := hH
    rw [List.length_cons] at hl
    have h4' : J 57 24 = zi (H.length + 1) := h4
    have n0 : ¬ J 57 24 ≤ 0 := by rw [h4']; exact fun e => absurd ((zi_le (b := 0) (by omega) (by omega)).1 e) (by omega)
    have e1 : J 57 24 - 1 = zi H.length := by rw [h4']; exact (zi_sub (a := H.length + 1) (b := 1) (by omega)).trans (congrArg zi (by omega))
    have er : f_Z_rank (J 70 (J 57 24 - 1).toNatClampNeg) = zi (rk h) := by rw [e1, zi_nat (by omega), hL0]; exact rank_h h (by omega) (by omega)
    have r7 := rk_le h
    have ein : z_inr (J 57 24 - 1) 200 := by rw [e1]; exact zi_inr (by omega) (by omega)
    by_cases hr : q ≤ rk h
    · have nlt : ¬ f_Z_rank (J 70 (J 57 24 - 1).toNatClampNeg) < zi q := by rw [er]; exact fun e => absurd ((zi_lt (by omega) (by omega)).1 e) (by omega)
      rw [unw_pop hr]
      have hne : h ≠ 0 := fun e => by rw [e] at hr; exact absurd hr (by show ¬ q ≤ 0; omega)
      obtain ⟨J2, hJ2⟩ : ∃ J2 : zI, J2 = z_up (z_up J 57 24 (zi H.length)) 57 25 (zi (cntH H)) := ⟨_, rfl⟩
      have H2 : Hz m J2 H out := by
        rw [hJ2]
        refine ⟨?_, ?_, up_same, hL.fr fun k _ => by rw [up_cell (by decide), up_cell (by decide)], ?_, fun k hk => ?_⟩
        · rw [up_place (by decide), up_place (by decide)]; exact h8
        · rw [up_place (by decide), up_same]
        · rw [up_place (by decide), up_place (by decide)]; exact h6
        · rw [up_cell (by decide), up_cell (by decide)]; exact ho k hk
      have F2 : FS m J J2 := by
        rw [hJ2]
        exact ⟨fun c a _ _ => by rw [up_cell a, up_cell a], fun k hk => by rw [up_place (by omega), up_place (by omega)], fun k hk => by rw [up_cell (by decide), up_cell (by decide)]⟩
      obtain ⟨J3, k3, F3, H3⟩ := c_puts (X := X) (d := d) (c := h) hS hm H2 (by omega) rfl
      obtain ⟨J1, k1, F1, H1, l1⟩ := ih (out ++ [h]) J3 H3 (by rw [List.length_append]; show H.length + (out.length + 1) < 200; omega)
      have c5 := h5
      rw [cntH] at c5
      refine ⟨J1, ⟨fun e => absurd e n0, fun _ => ⟨ein, fun e => absurd e nlt, fun _ A g => ?_⟩⟩, (F2.tr F3).tr F1, H1, by rw [l1, List.length_append]; show H.length + (out.length + 1) = H.length + 1 + out.length; omega⟩
      have a4 : A 57 24 = zi H.length := by rw [g, up_same, e1]
      have a70 : A 70 (A 57 24).toNatClampNeg = zi h := by rw [a4, zi_nat (by omega), g, up_cell (by decide)]; exact hL0
      have a25 : A 57 25 = J 57 25 := by rw [g, up_place (by decide)]
      refine ⟨by rw [a4]; exact zi_inr (by omega) (by omega), fun y hy => ?_⟩
      rw [a70] at hy
      subst hy
      have last : ∀ B : zI, B = z_up A 57 25 (zi (cntH H)) → ∃ (I9 : zI), Cv X d 134 [.ref 57, .int (zi h)] G B (none, G, I9) ∧ Ev X (d + 1) 135 0 [.ref 57, .int (zi q), .int (zi h)] [] G I9 (none, G, J1) := fun B gB => by
        rw [g, e1] at gB
        obtain rfl : B = J2 := by rw [gB, hJ2]
        exact ⟨J3, k3, wp_Z_unwinds_0 _ _ hS k1⟩
      have lt : h < 20 := by omega
      have cl := cntH_le H
      refine ⟨fun e B gB => last B ?_, fun e => ⟨fun e2 B gB => last B ?_, fun e2 B gB => last B ?_⟩⟩
      · have e := (zi_eq (b := 13) (by omega) (by omega)).1 e
        rw [if_pos (by omega)] at c5
        rw [gB, a25, c5]
        exact congrArg _ ((zi_sub (a := 1 + cntH H) (b := 1) (by omega)).trans (congrArg zi (by omega)))
      · have e : h ≠ 13 := fun q => e (by rw [q]; rfl)
        have e2 : h ≠ 19 := fun q => e2 (by rw [q]; rfl)
        rw [if_neg (by omega)] at c5
        rw [gB, a25, c5]
        exact congrArg _ ((zi_sub (a := 0 + cntH H) (b := 0) (by omega)).trans (congrArg zi (by omega)))
      · have e2 := (zi_eq (b := 19) (by omega) (by omega)).1 e2
        rw [if_pos (by omega)] at c5
        rw [gB, a25, c5]
        exact congrArg _ ((zi_sub (a := 1 + cntH H) (b := 1) (by omega)).trans (congrArg zi (by omega)))
    · have lt : f_Z_rank (J 70 (J 57 24 - 1).toNatClampNeg) < zi q := by rw [er]; exact (zi_lt (by omega) (by omega)).2 (by omega)
      rw [show unw q (h :: H) out = (h :: H, out) from if_neg hr]
      exact ⟨J, ⟨fun e => absurd e n0, fun _ => ⟨ein, fun _ => rfl, fun e => absurd lt e⟩⟩, FS.rfl, hH0, rfl⟩
theorem c_unw {X : Nat × (Nat → Int32)} {d : Nat} {G : zG} (hS : SG G) {m : Nat} (hm : m < 6) {q : Nat} (hq1 : 1 ≤ q) (hq : q < 10) {H out : List Nat} {J : zI} {v : Int32} (hv : v = zi q) (hH : Hz m J H out) (hl : H.length + out.length < 200) :
    ∃ J1 : zI, Cv X (d + 1) 135 [.ref 57, .int v] G J (none, G, J1) ∧ FS m J J1 ∧ Hz m J1 (unw q H out).1 (unw q H out).2 ∧ (unw q H out).1.length + (unw q H out).2.length = H.length + out.length := by
  obtain ⟨J1, k, r⟩ := unw_loop (X := X) (d := d) hS hm hq1 hq H out J hH hl
  exact ⟨J1, Cv.of hq_135 (z_le rfl) rfl (by rw [hv]; exact wp_Z_unwinds _ hS k), r⟩
theorem up_self {J : zI} {a k : Nat} {x : Int32} (h : J a k = x) : z_up J a k x = J := by
  subst h; funext c j; unfold z_up; split
  · rename_i h; obtain ⟨rfl, rfl⟩ := h; rfl
  · rfl
theorem c_openO {X : Nat × (Nat → Int32)} {d : Nat} {G : zG} (hS : SG G) {m : Nat} {J : zI} {H out : List Nat} {h : Nat} {v : Int32} (hH : Hz m J H out) (hl : H.length < 200) (hv : v = zi h) (hh : h = 0 ∨ h = 13 ∨ h = 19) (hc : cntH H ≠ 5) :
    ∃ J1 : zI, Cv X (d + 1) 137 [.ref 57, .int v] G J (some (.int 1), G, J1) ∧ FS m J J1 ∧ Hz m J1 (h :: H) out := by
  have cl := cntH_le H
  have e5 : J 57 25 + 1 = zi (cntH (h :: H)) := by rw [hH.2.2.1, zi1, cntH, if_pos hh, Nat.add_comm]
  obtain ⟨J1, k, F, H1⟩ := c_holds (X := X) (d := d) (J := z_up J 57 25 (J 57 25 + 1)) hS hH hl hv (by omega) ⟨_, rfl, e5⟩
  exact ⟨J1, Cv.of hq_137 (z_le rfl) rfl (wp_Z_opensOne _ hS ⟨fun _ A g => ⟨J1, by rw [g]; exact k, rfl⟩, fun e => absurd ((zi_eq (b := 5) (by omega) (by omega)).1 (hH.2.2.1.symm.trans e)) hc⟩), F, H1⟩
theorem c_openNo {X : Nat × (Nat → Int32)} {d : Nat} {G : zG} (hS : SG G) {m : Nat} {J : zI} {H out : List Nat} {v : Int32} (hH : Hz m J H out) (hc : cntH H = 5) : Cv X (d + 1) 137 [.ref 57, .int v] G J (some (.int 0), G, J) :=
  Cv.of hq_137 (z_le rfl) rfl (wp_Z_opensOne _ hS ⟨fun e => absurd (by rw [hH.2.2.1, hc]; rfl) e, fun _ => rfl⟩)
theorem sgo_rk : ∀ t, t < 23 → (t = 14 ∨ t = 15 ∨ t = 9 ∨ t = 10 ∨ t = 6 ∨ t = 7 ∨ t = 8) → 11 ≤ sgo t ∧ sgo t ≤ 19 ∧ sgo t ≠ 13 ∧ sgo t ≠ 19 ∧ thr t = (if rk (sgo t) = 4 then 5 else rk (sgo t)) ∧ (rk (sgo t) = 4 ↔ t = 9 ∨ t = 10) := by decide +kernel
theorem c_between {X : Nat × (Nat → Int32)} {d : Nat} {G : zG} (hS : SG G) {m : Nat} (hm : m < 6) {J : zI} {H out : List Nat} {t : Nat} {v : Int32} (ht : t < 23) (hs : t = 14 ∨ t = 15 ∨ t = 9 ∨ t = 10 ∨ t = 6 ∨ t = 7 ∨ t = 8) (hv : v = zi (sgo t)) (hH : Hz m J H out) (hl : H.length + out.length < 199) :
    ∃ J1 : zI, FS m J J1 ∧ (((t = 9 ∨ t = 10) ∧ tp (unw (thr t) H out).1 = 4 → Cv X (d + 2) 140 [.ref 57, .int v] G J (some (.int 0), G, J1)) ∧ (¬ ((t = 9 ∨ t = 10) ∧ tp (unw (thr t) H out).1 = 4) → Cv X (d + 2) 140 [.ref 57, .int v] G J (some (.int 1), G, J1) ∧ Hz m J1 (sgo t :: (unw (thr t) H out).1) (unw (thr t) H out).2)) ∧ (unw (thr t) H out).1.length + (unw (thr t) H out).2.length = H.length + out.length := by
  obtain ⟨s1, s2, s3, s4, s5, s6⟩ := sgo_rk t ht hs
  have t6 := thr_le t
  have rv : f_Z_rank v = zi (rk (sgo t)) := by rw [hv]; exact rank_h _ (by omega) (by omega)
  have r7 := rk_le (sgo t)
  obtain ⟨J2, k2, F2, H2, l2⟩ := c_unw (X := X) (d := d) hS hm t6.1 (by omega) (Eq.refl (zi (thr t))) hH (by omega)
  obtain ⟨J3, k3, F3, H3⟩ := c_holds (X := X) (d := d + 1) (J := J2) (h := sgo t) hS H2 (by omega) hv (by omega) ⟨_, (up_self rfl).symm, by rw [H2.2.2.1, cnt_sg s1 s3 s4]⟩
  by_cases h4 : rk (sgo t) = 4
  · have hr : f_Z_rank v = 4 := by rw [rv, h4]; rfl
    rw [if_pos h4] at s5
    have k2' : Cv X (d + 1) 135 [.ref 57, .int 5] G J (none, G, J2) := by rw [s5] at k2; exact k2
    have t9 := s6.1 h4
    generalize (unw (thr t) H out).1 = U at *
    generalize (unw (thr t) H out).2 = V at *
    cases U with
    | nil =>
      have z0 : J2 57 24 ≤ 0 := by rw [H2.2.1]; exact Int32.le_refl _
      refine ⟨J3, F2.tr F3, ⟨fun e => absurd e.2 (by decide), fun _ => ⟨Cv.of hq_140 (z_le rfl) rfl (wp_Z_between _ hS ⟨fun e => absurd hr e, fun _ => ⟨J2, k2', fun e => absurd hr e, fun _ => ⟨fun _ => ⟨J3, k3, rfl⟩, fun e => absurd z0 e⟩⟩⟩), H3⟩⟩, l2⟩
    | cons u U =>
      obtain ⟨h8, g4, h5, ⟨hL0, hu, hL⟩, h6, ho⟩ := H2
      rw [List.length_cons] at l2
      have g4 : J2 57 24 = zi (U.length + 1) := g4
      have n0 : ¬ J2 57 24 ≤ 0 := by rw [g4]; exact fun e => absurd ((zi_le (b := 0) (by omega) (by omega)).1 e) (by omega)
      have e1 : J2 57 24 - 1 = zi U.length := by rw [g4]; exact (zi_sub (a := U.length + 1) (b := 1) (by omega)).trans (congrArg zi (by omega))
      have er : f_Z_rank (J2 70 (J2 57 24 - 1).toNatClampNeg) = zi (rk u) := by rw [e1, zi_nat (by omega), hL0]; exact rank_h u (by omega) (by omega)
      have ein : z_inr (J2 57 24 - 1) 200 := by rw [e1]; exact zi_inr (by omega) (by omega)
      have u7 := rk_le u
      by_cases u4 : rk u = 4
      · have er4 : f_Z_rank (J2 70 (J2 57 24 - 1).toNatClampNeg) = 4 := by rw [er, u4]; rfl
        exact ⟨J2, F2, ⟨fun _ => Cv.of hq_140 (z_le rfl) rfl (wp_Z_between _ hS ⟨fun e => absurd hr e, fun _ => ⟨J2, k2', fun e => absurd hr e, fun _ => ⟨fun e => absurd e n0, fun _ => ⟨ein, fun e => absurd er4 e, fun _ => rfl⟩⟩⟩⟩), fun e => absurd ⟨t9, u4⟩ e⟩, l2⟩
      · have er4 : ¬ f_Z_rank (J2 70 (J2 57 24 - 1).toNatClampNeg) = 4 := by rw [er]; exact fun e => u4 ((zi_eq (b := 4) (by omega) (by omega)).1 e)
        exact ⟨J3, F2.tr F3, ⟨fun e => absurd e.2 u4, fun _ => ⟨Cv.of hq_140 (z_le rfl) rfl (wp_Z_between _ hS ⟨fun e => absurd hr e, fun _ => ⟨J2, k2', fun e => absurd hr e, fun _ => ⟨fun e => absurd e n0, fun _ => ⟨ein, fun _ => ⟨J3, k3, rfl⟩, fun e => absurd e er4⟩⟩⟩⟩), H3⟩⟩, l2⟩
  · have hr : ¬ f_Z_rank v = 4 := by rw [rv]; exact fun e => h4 ((zi_eq (b := 4) (by omega) (by omega)).1 e)
    rw [if_neg h4] at s5
    have k2' : Cv X (d + 1) 135 [.ref 57, .int (f_Z_rank v)] G J (none, G, J2) := by rw [rv, ← s5]; exact k2
    exact ⟨J3, F2.tr F3, ⟨fun e => absurd (s6.2 e.1) h4, fun _ => ⟨Cv.of hq_140 (z_le rfl) rfl (wp_Z_between _ hS ⟨fun _ => ⟨J2, k2', fun _ => ⟨J3, k3, rfl⟩, fun e => absurd e hr⟩, fun e => absurd e hr⟩), H3⟩⟩, l2⟩
