/-! COUNTED NUMBERS IN 32 BITS -/
theorem z_lt {a b : Int32} : a < b ↔ a.toInt < b.toInt := Int32.lt_iff_toInt_lt
theorem z_lq {a b : Int32} : a ≤ b ↔ a.toInt ≤ b.toInt := Int32.le_iff_toInt_le
theorem z_add {a b : Int32} (h : -2147483648 ≤ a.toInt + b.toInt) (h2 : a.toInt + b.toInt < 2147483648) : (a + b).toInt = a.toInt + b.toInt := by
  rw [Int32.toInt_add]
  exact Int.bmod_eq_of_le (by omega) (by omega)
theorem z_sub {a b : Int32} (h : -2147483648 ≤ a.toInt - b.toInt) (h2 : a.toInt - b.toInt < 2147483648) : (a - b).toInt = a.toInt - b.toInt := by
  rw [Int32.toInt_sub]
  exact Int.bmod_eq_of_le (by omega) (by omega)
theorem z_mul {a b : Int32} (h : -2147483648 ≤ a.toInt * b.toInt) (h2 : a.toInt * b.toInt < 2147483648) : (a * b).toInt = a.toInt * b.toInt := by
  rw [Int32.toInt_mul]
  exact Int.bmod_eq_of_le (by omega) (by omega)
abbrev zi (n : Nat) : Int32 := Int32.ofNat n
theorem zi_int {n : Nat} (h : n < 2147483648) : (zi n).toInt = n := Int32.toInt_ofNat_of_lt h
theorem zi_nat {n : Nat} (h : n < 2147483648) : (zi n).toNatClampNeg = n := by
  show (zi n).toInt.toNat = n
  rw [zi_int h]; rfl
theorem zi_lt {a b : Nat} (ha : a < 2147483648) (hb : b < 2147483648) : zi a < zi b ↔ a < b := by
  rw [z_lt, zi_int ha, zi_int hb]; omega
theorem zi_le {a b : Nat} (ha : a < 2147483648) (hb : b < 2147483648) : zi a ≤ zi b ↔ a ≤ b := by
  rw [z_lq, zi_int ha, zi_int hb]; omega
theorem zi_eq {a b : Nat} (ha : a < 2147483648) (hb : b < 2147483648) : zi a = zi b ↔ a = b := by
  rw [← Int32.toInt_inj, zi_int ha, zi_int hb]; omega
theorem zi_add {a b : Nat} : zi a + zi b = zi (a + b) := (Int32.ofNat_add a b).symm
theorem zi_mul {a b : Nat} : zi a * zi b = zi (a * b) := (Int32.ofNat_mul a b).symm
theorem zi_sub {a b : Nat} (h : b ≤ a) : zi a - zi b = zi (a - b) := by
  have e : a = (a - b) + b := by omega
  have e2 : zi a = zi (a - b) + zi b := by rw [zi_add, ← e]
  rw [e2, Int32.add_sub_cancel]
theorem zi_neg1 {a : Nat} (h : 1 ≤ a) : zi a + (-1) = zi (a - 1) := by
  rw [← zi_sub h]; exact (Int32.sub_eq_add_neg _ _).symm
theorem zi_inr {n m : Nat} (h : n < m) (hn : n < 2147483648) : z_inr (zi n) m := ⟨(zi_le (a := 0) (by omega) hn).2 (by omega), by rw [zi_nat hn]; exact h⟩
theorem up_same {I : zI} {a j : Nat} {v : Int32} : z_up I a j v a j = v := by simp [z_up]
theorem up_cell {I : zI} {a b : Nat} {j : Nat} {v : Int32} (h : b ≠ a) : z_up I a j v b = I b := by funext k; simp [z_up, h]
theorem up_place {I : zI} {a j k : Nat} {v : Int32} (h : k ≠ j) : z_up I a j v a k = I a k := by simp [z_up, h]
theorem zi_of {x : Int32} (h : 0 ≤ x.toInt) : x = zi x.toNatClampNeg := by
  have hx : x.toInt < 2147483648 := Int32.toInt_lt x
  rw [← Int32.toInt_inj, zi_int (by show x.toInt.toNat < _; omega)]
  show _ = ((x.toInt.toNat : Nat) : Int)
  omega
/-! WHAT A LAW SAYS: both run the same steps over a stack -/
/-- a step of the class and one of the reference that mean the same; how many wait before and behind it -/
def OpR (s c : Int32) (d e : Nat) : Prop :=
  (∃ v, v < 10000 ∧ s = zi v ∧ c = zi (100000 + v) ∧ e = d + 1 ∧ d < 31) ∨
  (∃ j, j < 6 ∧ s = zi (10000 + j) ∧ c = zi j ∧ e = d + 1 ∧ d < 31) ∨
  (s = 20007 ∧ c = 13 ∧ e = d ∧ 1 ≤ d ∧ d ≤ 31) ∨ (s = 20008 ∧ c = 19 ∧ e = d ∧ 1 ≤ d ∧ d ≤ 31) ∨
  (((s = 20000 ∧ c = 11) ∨ (s = 20001 ∧ c = 12) ∨ (s = 20002 ∧ c = 14) ∨ (s = 20003 ∧ c = 15) ∨ (s = 20004 ∧ c = 16) ∨ (s = 20005 ∧ c = 17) ∨ (s = 20006 ∧ c = 18)) ∧ d = e + 1 ∧ 1 ≤ e ∧ d ≤ 31)
def fin (p : Nat) (v : Int32) : Int32 := if p = 0 then f_T_bounded v (-99) 99 else if p = 1 then f_T_bounded v 0 99 else if v = 0 then 0 else 1
theorem join_two {s c x y : Int32} (h : (s = 20000 ∧ c = 11) ∨ (s = 20001 ∧ c = 12) ∨ (s = 20002 ∧ c = 14) ∨ (s = 20003 ∧ c = 15) ∨ (s = 20004 ∧ c = 16) ∨ (s = 20005 ∧ c = 17) ∨ (s = 20006 ∧ c = 18)) : f_L_joined s x y = f_Z_two c x y := by
  rcases h with ⟨rfl, rfl⟩ | ⟨rfl, rfl⟩ | ⟨rfl, rfl⟩ | ⟨rfl, rfl⟩ | ⟨rfl, rfl⟩ | ⟨rfl, rfl⟩ | ⟨rfl, rfl⟩ <;> rfl
theorem c_known_num {X : Nat × (Nat → Int32)} {d : Nat} {G : zG} {I : zI} {w v : Nat} (hw : LW G w) (hv : v < 10000) : Cv X (d + 1) 51 [.ref w, .int (zi v)] G I (some (.int (zi v)), G, I) := by
  refine Cv.of hq_51 (z_le rfl) rfl (wp_L_known w _ hw fun y hy => ⟨fun _ => rfl, fun h => absurd ?_ h⟩)
  rw [hy, z_lt, z_sub (by rw [zi_int (by omega)]; show _ ≤ _ - (10000 : Int); omega) (by rw [zi_int (by omega)]; show _ - (10000 : Int) < _; omega), zi_int (by omega)]
  show _ - (10000 : Int) < 0
  omega
theorem c_known_name {X : Nat × (Nat → Int32)} {d : Nat} {G : zG} {I : zI} {w j : Nat} (hw : LW G w) (hj : j < 6) : Cv X (d + 1) 51 [.ref w, .int (zi (10000 + j))] G I (some (.int (I (w + 3) j)), G, I) := by
  refine Cv.of hq_51 (z_le rfl) rfl (wp_L_known w _ hw fun y hy => ?_)
  have e : y = zi j := by rw [hy]; exact (zi_sub (a := 10000 + j) (b := 10000) (by omega)).trans (congrArg zi (by omega))
  subst e
  refine ⟨fun h => absurd ((zi_lt (b := 0) (by omega) (by omega)).1 h) (by omega), fun _ => ⟨fun h => absurd ((zi_le (a := 6) (by omega) (by omega)).1 h) (by omega), fun _ => ⟨zi_inr hj (by omega), ?_⟩⟩⟩
  rw [zi_nat (by omega)]
theorem stk_up {I J : zI} {a b n k : Nat} {v : Int32} (h : ∀ i, i < n → i ≠ k → I a i = J b i) : ∀ i, i < n → z_up I a k v a i = z_up J b k v b i := by
  intro i hi
  by_cases e : i = k
  · subst e; rw [up_same, up_same]
  · rw [up_place e, up_place e]; exact h i hi e
theorem says_lock {X : Nat × (Nat → Int32)} {d : Nat} {G : zG} (hS : SG G) {w t p e : Nat} (hw : LW G w) (ht : t < 6) (hp : p < 3) (he : e ≤ 160) (hel : e ≤ zl G (w + 1)) (dp : Nat → Nat) (h1 : dp e = 1) :
    ∀ (m a : Nat) (I J : zI) (v5 v4 : Value), a + m = e → v5.category = 1 → v4.category = 1 → (∀ k, a ≤ k → k < e → OpR (I (w + 1) k) (J 62 (200 * t + k)) (dp k) (dp (k + 1))) →
      J 57 9 = zi t → J 63 (4 * t + p + 1) = zi e → (∀ j, j < 6 → I (w + 3) j = J 72 j) → (∀ i, i < dp a → I (w + 4) i = J 71 i) →
      ∃ (v : Int32) (I1 J1 : zI), Ev X (d + 2) 50 42 [.ref w, .int (zi p), .int (zi (dp a)), .int (zi e), .int (zi a), v5] [] G I (some (.int (fin p v)), G, I1) ∧
        Ev X (d + 2) 150 16 [.ref 57, .int (zi p), .int (zi (dp a)), .int (zi a), v4] [] G J (some (.int v), G, J1) ∧ (∀ c, c ≠ w + 4 → I1 c = I c) ∧ (∀ c, c ≠ 71 → J1 c = J c) := by
  have hi : 4 * zi t + zi p + 1 = zi (4 * t + p + 1) := by
    rw [show (4 : Int32) = zi 4 from rfl, show (1 : Int32) = zi 1 from rfl, zi_mul, zi_add, zi_add]
  intro m
  induction m with
  | zero =>
    intro a I J v5 v4 ha c5 c4 hop hr hs hn hst
    have ea : a = e := by omega
    subst ea
    refine ⟨J 71 0, I, J, ?_, ?_, fun _ _ => rfl, fun _ _ => rfl⟩
    · refine wp_L_says_42 w _ _ _ _ v5 c5 hw ⟨fun _ => ?_, fun h => absurd (Int32.le_refl _) h⟩
      rw [h1]
      refine ⟨fun h => absurd h (by decide), fun _ => ⟨⟨by decide, by decide⟩, fun y hy => ?_⟩⟩
      have hy : y = J 71 0 := by rw [hy, ← hst 0 (by omega)]; rfl
      subst hy
      have h3 : p = 0 ∨ p = 1 ∨ p = 2 := by omega
      rcases h3 with rfl | rfl | rfl
      · exact ⟨fun h => absurd rfl h, fun _ => rfl⟩
      · exact ⟨fun _ => ⟨fun h => absurd rfl h, fun _ => rfl⟩, fun h => absurd h (by decide)⟩
      · exact ⟨fun _ => ⟨fun _ => ⟨fun h => by simp [fin, h], fun h => by simp [fin, h]⟩, fun h => absurd h (by decide)⟩, fun h => absurd h (by decide)⟩
    · refine wp_Z_says_16 _ _ _ v4 c4 hS ?_
      rw [hr, hi]
      refine ⟨zi_inr (by omega) (by omega), ?_⟩
      rw [zi_nat (by omega), hs]
      exact ⟨fun _ => rfl, fun h => absurd (Int32.le_refl _) h⟩
  | succ m ih =>
    intro a I J v5 v4 ha c5 c4 hop hr hs hn hst
    have hlt : a < e := by omega
    have hj : 200 * zi t + zi a = zi (200 * t + a) := by
      rw [show (200 : Int32) = zi 200 from rfl, zi_mul, zi_add]
    have nle : ¬ zi e ≤ zi a := fun h => absurd ((zi_le (by omega) (by omega)).1 h) (by omega)
    rcases hop a (Nat.le_refl _) hlt with ⟨v, hv, es, ec, ee, hd⟩ | ⟨j, hjj, es, ec, ee, hd⟩ | ⟨es, ec, ee, hd, hd2⟩ | ⟨es, ec, ee, hd, hd2⟩ | ⟨eb, ee, hd, hd2⟩
    · obtain ⟨r, I1, J1, hc, hz, fI, fJ⟩ := ih (a + 1) (z_up I (w + 4) (dp a) (zi v)) (z_up J 71 (dp a) (zi v)) (.int (zi v)) (.int (zi (100000 + v))) (by omega) rfl rfl (fun k h h2 => by rw [up_cell (by omega), up_cell (by omega)]; exact hop k (by omega) h2) (by rw [up_cell (by omega)]; exact hr) (by rw [up_cell (by omega)]; exact hs) (fun j h => by rw [up_cell (by omega), up_cell (by omega)]; exact hn j h) (stk_up fun i h h2 => hst i (by omega))
      refine ⟨r, I1, J1, ?_, ?_, fun c h => (fI c h).trans (up_cell h), fun c h => (fJ c h).trans (up_cell h)⟩
      · refine wp_L_says_42 w _ _ _ _ v5 c5 hw ⟨fun h => absurd h nle, fun _ => ⟨zi_inr (by omega) (by omega), fun y hy => ?_⟩⟩
        have hy : y = zi v := by rw [hy, zi_nat (by omega)]; exact es
        subst hy
        refine ⟨fun h => absurd ((zi_le (a := 20000) (by omega) (by omega)).1 h) (by omega), fun _ => ⟨fun h => absurd ((zi_le (a := 40) (by omega) (by omega)).1 h) (by omega), fun _ y1 h1' => ⟨_, _, c_known_num hw hv, zi_inr (by omega) (by omega), fun I46 hI y47 h47 => ?_⟩⟩⟩
        rw [zi_nat (by omega)] at hI
        have e1 : y1 = zi (dp (a + 1)) := by rw [h1', ee]; exact zi_add (b := 1)
        have e2 : y47 = zi (a + 1) := h47.trans (zi_add (b := 1))
        rw [hI, e1, e2]; exact hc
      · refine wp_Z_says_16 _ _ _ v4 c4 hS ?_
        rw [hr, hi, hj]
        refine ⟨zi_inr (by omega) (by omega), ?_⟩
        rw [zi_nat (show 4 * t + p + 1 < _ by omega), hs]
        refine ⟨fun h => absurd h nle, fun _ => ⟨zi_inr (by omega) (by omega), fun y hy => ?_⟩⟩
        rw [zi_nat (by omega)] at hy
        have hy := hy.trans ec
        subst hy
        refine ⟨fun _ => ⟨fun _ => ⟨zi_inr (by omega) (by omega), fun I8 h8 y9 h9 y10 h10 => ?_⟩, fun h => absurd ((zi_le (a := 11) (by omega) (by omega)).2 (by omega)) h⟩, fun h => absurd ((zi_le (a := 100000) (by omega) (by omega)).2 (by omega)) h⟩
        rw [zi_nat (by omega), show zi (100000 + v) - 100000 = zi v from (zi_sub (a := 100000 + v) (b := 100000) (by omega)).trans (congrArg zi (by omega))] at h8
        have e1 : y9 = zi (dp (a + 1)) := by rw [h9, ee]; exact zi_add (b := 1)
        have e2 : y10 = zi (a + 1) := h10.trans (zi_add (b := 1))
        rw [h8, e1, e2]; exact hz
    · obtain ⟨r, I1, J1, hc, hz, fI, fJ⟩ := ih (a + 1) (z_up I (w + 4) (dp a) (I (w + 3) j)) (z_up J 71 (dp a) (J 72 j)) (.int (zi (10000 + j))) (.int (zi j)) (by omega) rfl rfl (fun k h h2 => by rw [up_cell (by omega), up_cell (by omega)]; exact hop k (by omega) h2) (by rw [up_cell (by omega)]; exact hr) (by rw [up_cell (by omega)]; exact hs) (fun j h => by rw [up_cell (by omega), up_cell (by omega)]; exact hn j h) (by rw [hn j hjj]; exact stk_up fun i h h2 => hst i (by omega))
      refine ⟨r, I1, J1, ?_, ?_, fun c h => (fI c h).trans (up_cell h), fun c h => (fJ c h).trans (up_cell h)⟩
      · refine wp_L_says_42 w _ _ _ _ v5 c5 hw ⟨fun h => absurd h nle, fun _ => ⟨zi_inr (by omega) (by omega), fun y hy => ?_⟩⟩
        have hy : y = zi (10000 + j) := by rw [hy, zi_nat (by omega)]; exact es
        subst hy
        refine ⟨fun h => absurd ((zi_le (a := 20000) (by omega) (by omega)).1 h) (by omega), fun _ => ⟨fun h => absurd ((zi_le (a := 40) (by omega) (by omega)).1 h) (by omega), fun _ y1 h1' => ⟨_, _, c_known_name hw hjj, zi_inr (by omega) (by omega), fun I46 hI y47 h47 => ?_⟩⟩⟩
        rw [zi_nat (by omega)] at hI
        have e1 : y1 = zi (dp (a + 1)) := by rw [h1', ee]; exact zi_add (b := 1)
        have e2 : y47 = zi (a + 1) := h47.trans (zi_add (b := 1))
        rw [hI, e1, e2]; exact hc
      · refine wp_Z_says_16 _ _ _ v4 c4 hS ?_
        rw [hr, hi, hj]
        refine ⟨zi_inr (by omega) (by omega), ?_⟩
        rw [zi_nat (show 4 * t + p + 1 < _ by omega), hs]
        refine ⟨fun h => absurd h nle, fun _ => ⟨zi_inr (by omega) (by omega), fun y hy => ?_⟩⟩
        rw [zi_nat (by omega)] at hy
        have hy := hy.trans ec
        subst hy
        refine ⟨fun h => absurd ((zi_le (a := 100000) (by omega) (by omega)).1 h) (by omega), fun _ => ⟨fun h => absurd ((zi_le (a := 11) (by omega) (by omega)).1 h) (by omega), fun _ => ⟨fun h => absurd ((zi_le (a := 11) (by omega) (by omega)).1 h) (by omega), fun _ => ⟨zi_inr (by omega) (by omega), zi_inr (by omega) (by omega), fun I8 h8 y9 h9 y10 h10 => ?_⟩⟩⟩⟩
        rw [zi_nat (by omega), zi_nat (by omega)] at h8
        have e1 : y9 = zi (dp (a + 1)) := by rw [h9, ee]; exact zi_add (b := 1)
        have e2 : y10 = zi (a + 1) := h10.trans (zi_add (b := 1))
        rw [h8, e1, e2]; exact hz
    · have e0 : zi (dp a) - 1 = zi (dp a - 1) := zi_sub (b := 1) (by omega)
      have eI : I (w + 4) (dp a - 1) = J 71 (dp a - 1) := hst _ (by omega)
      obtain ⟨r, I1, J1, hc, hz, fI, fJ⟩ := ih (a + 1) (z_up I (w + 4) (dp a - 1) (if J 71 (dp a - 1) = 0 then 1 else 0)) (z_up J 71 (dp a - 1) (if J 71 (dp a - 1) = 0 then 1 else 0)) (.int 20007) (.int 13) (by omega) rfl rfl (fun k h h2 => by rw [up_cell (by omega), up_cell (by omega)]; exact hop k (by omega) h2) (by rw [up_cell (by omega)]; exact hr) (by rw [up_cell (by omega)]; exact hs) (fun j h => by rw [up_cell (by omega), up_cell (by omega)]; exact hn j h) (by rw [ee]; exact stk_up fun i h h2 => hst i h)
      refine ⟨r, I1, J1, ?_, ?_, fun c h => (fI c h).trans (up_cell h), fun c h => (fJ c h).trans (up_cell h)⟩
      · refine wp_L_says_42 w _ _ _ _ v5 c5 hw ⟨fun h => absurd h nle, fun _ => ⟨zi_inr (by omega) (by omega), fun y hy => ?_⟩⟩
        have hy : y = 20007 := by rw [hy, zi_nat (by omega)]; exact es
        subst hy
        refine ⟨fun _ => ⟨fun h => absurd rfl h, fun _ => ⟨fun h => absurd ((zi_le (b := 0) (by omega) (by omega)).1 h) (by omega), fun _ => ?_⟩⟩, fun h => absurd (by decide) h⟩
        rw [e0, zi_nat (by omega)]
        have eI2 : I (w + (3 + 1)) (dp a - 1) = J 71 (dp a - 1) := eI
        rw [eI2]
        refine ⟨zi_inr (by omega) (by omega), fun h => ⟨zi_inr (by omega) (by omega), fun I1' h1' y h2 => ?_⟩, fun h => ⟨zi_inr (by omega) (by omega), fun I1' h1' y h2 => ?_⟩⟩
        · rw [if_neg h, ee] at hc
          rw [h1', h2, show zi a + 1 = zi (a + 1) from zi_add (b := 1)]; exact hc
        · rw [if_pos h, ee] at hc
          rw [h1', h2, show zi a + 1 = zi (a + 1) from zi_add (b := 1)]; exact hc
      · refine wp_Z_says_16 _ _ _ v4 c4 hS ?_
        rw [hr, hi, hj]
        refine ⟨zi_inr (by omega) (by omega), ?_⟩
        rw [zi_nat (show 4 * t + p + 1 < _ by omega), hs]
        refine ⟨fun h => absurd h nle, fun _ => ⟨zi_inr (by omega) (by omega), fun y hy => ?_⟩⟩
        rw [zi_nat (by omega)] at hy
        have hy := hy.trans ec
        subst hy
        refine ⟨fun h => absurd h (by decide), fun _ => ⟨fun _ => ⟨fun h => absurd rfl h, fun _ => ?_⟩, fun h => absurd (by decide) h⟩⟩
        rw [e0, zi_nat (by omega)]
        refine ⟨zi_inr (by omega) (by omega), fun h => ⟨zi_inr (by omega) (by omega), fun I1' h1' y h2 => ?_⟩, fun h => ⟨zi_inr (by omega) (by omega), fun I1' h1' y h2 => ?_⟩⟩
        · rw [if_neg h, ee] at hz
          rw [h1', h2, show zi a + 1 = zi (a + 1) from zi_add (b := 1)]; exact hz
        · rw [if_pos h, ee] at hz
          rw [h1', h2, show zi a + 1 = zi (a + 1) from zi_add (b := 1)]; exact hz
    · have e0 : zi (dp a) - 1 = zi (dp a - 1) := zi_sub (b := 1) (by omega)
      have eI : I (w + (3 + 1)) (dp a - 1) = J 71 (dp a - 1) := hst _ (by omega)
      obtain ⟨r, I1, J1, hc, hz, fI, fJ⟩ := ih (a + 1) (z_up I (w + 4) (dp a - 1) (-(J 71 (dp a - 1)))) (z_up J 71 (dp a - 1) (-(J 71 (dp a - 1)))) (.int 20008) (.int 19) (by omega) rfl rfl (fun k h h2 => by rw [up_cell (by omega), up_cell (by omega)]; exact hop k (by omega) h2) (by rw [up_cell (by omega)]; exact hr) (by rw [up_cell (by omega)]; exact hs) (fun j h => by rw [up_cell (by omega), up_cell (by omega)]; exact hn j h) (by rw [ee]; exact stk_up fun i h h2 => hst i h)
      refine ⟨r, I1, J1, ?_, ?_, fun c h => (fI c h).trans (up_cell h), fun c h => (fJ c h).trans (up_cell h)⟩
      all_goals rw [ee] at hc hz
      · refine wp_L_says_42 w _ _ _ _ v5 c5 hw ⟨fun h => absurd h nle, fun _ => ⟨zi_inr (by omega) (by omega), fun y hy => ?_⟩⟩
        have hy : y = 20008 := by rw [hy, zi_nat (by omega)]; exact es
        subst hy
        refine ⟨fun _ => ⟨fun _ => ⟨fun h => absurd rfl h, fun _ => ⟨fun h => absurd ((zi_le (b := 0) (by omega) (by omega)).1 h) (by omega), fun _ => ?_⟩⟩, fun h => absurd h (by decide)⟩, fun h => absurd (by decide) h⟩
        rw [e0, zi_nat (by omega), eI]
        refine ⟨zi_inr (by omega) (by omega), zi_inr (by omega) (by omega), fun I1' h1' y h2 => ?_⟩
        rw [h1', h2, show zi a + 1 = zi (a + 1) from zi_add (b := 1)]; exact hc
      · refine wp_Z_says_16 _ _ _ v4 c4 hS ?_
        rw [hr, hi, hj]
        refine ⟨zi_inr (by omega) (by omega), ?_⟩
        rw [zi_nat (show 4 * t + p + 1 < _ by omega), hs]
        refine ⟨fun h => absurd h nle, fun _ => ⟨zi_inr (by omega) (by omega), fun y hy => ?_⟩⟩
        rw [zi_nat (by omega)] at hy
        have hy := hy.trans ec
        subst hy
        refine ⟨fun h => absurd h (by decide), fun _ => ⟨fun _ => ⟨fun _ => ⟨fun h => absurd rfl h, fun _ => ?_⟩, fun h => absurd h (by decide)⟩, fun h => absurd (by decide) h⟩⟩
        rw [e0, zi_nat (by omega)]
        refine ⟨zi_inr (by omega) (by omega), zi_inr (by omega) (by omega), fun I1' h1' y h2 => ?_⟩
        rw [h1', h2, show zi a + 1 = zi (a + 1) from zi_add (b := 1)]; exact hz
    · have hsb : 20000 ≤ I (w + 1) a ∧ ¬ I (w + 1) a = 20007 ∧ ¬ I (w + 1) a = 20008 := by
        rcases eb with ⟨e1, _⟩ | ⟨e1, _⟩ | ⟨e1, _⟩ | ⟨e1, _⟩ | ⟨e1, _⟩ | ⟨e1, _⟩ | ⟨e1, _⟩ <;> rw [e1] <;> decide
      have hcb : ¬ 100000 ≤ J 62 (200 * t + a) ∧ 11 ≤ J 62 (200 * t + a) ∧ ¬ J 62 (200 * t + a) = 13 ∧ ¬ J 62 (200 * t + a) = 19 := by
        rcases eb with ⟨_, e1⟩ | ⟨_, e1⟩ | ⟨_, e1⟩ | ⟨_, e1⟩ | ⟨_, e1⟩ | ⟨_, e1⟩ | ⟨_, e1⟩ <;> rw [e1] <;> decide
      have e0 : zi (dp (a + 1)) - 1 = zi (dp (a + 1) - 1) := zi_sub (b := 1) (by omega)
      have e9 : zi (dp a) + (-1) = zi (dp (a + 1)) := (zi_neg1 (by omega)).trans (congrArg zi (by omega))
      have eI : I (w + (3 + 1)) (dp (a + 1) - 1) = J 71 (dp (a + 1) - 1) := hst _ (by omega)
      have eI2 : I (w + (3 + 1)) (dp (a + 1)) = J 71 (dp (a + 1)) := hst _ (by omega)
      obtain ⟨r, I1, J1, hc, hz, fI, fJ⟩ := ih (a + 1) (z_up I (w + 4) (dp (a + 1) - 1) (f_Z_two (J 62 (200 * t + a)) (J 71 (dp (a + 1) - 1)) (J 71 (dp (a + 1))))) (z_up J 71 (dp (a + 1) - 1) (f_Z_two (J 62 (200 * t + a)) (J 71 (dp (a + 1) - 1)) (J 71 (dp (a + 1))))) (.int (I (w + 1) a)) (.int (J 62 (200 * t + a))) (by omega) rfl rfl (fun k h h2 => by rw [up_cell (by omega), up_cell (by omega)]; exact hop k (by omega) h2) (by rw [up_cell (by omega)]; exact hr) (by rw [up_cell (by omega)]; exact hs) (fun j h => by rw [up_cell (by omega), up_cell (by omega)]; exact hn j h) (stk_up fun i h h2 => hst i (by omega))
      refine ⟨r, I1, J1, ?_, ?_, fun c h => (fI c h).trans (up_cell h), fun c h => (fJ c h).trans (up_cell h)⟩
      · refine wp_L_says_42 w _ _ _ _ v5 c5 hw ⟨fun h => absurd h nle, fun _ => ⟨zi_inr (by omega) (by omega), fun y hy => ?_⟩⟩
        have hy : y = I (w + 1) a := by rw [hy, zi_nat (by omega)]
        subst hy
        refine ⟨fun _ => ⟨fun _ => ⟨fun _ => ⟨fun h => absurd ((zi_le (b := 1) (by omega) (by omega)).1 h) (by omega), fun _ y1 h1' => ?_⟩, fun h => absurd h hsb.2.2⟩, fun h => absurd h hsb.2.1⟩, fun h => absurd hsb.1 h⟩
        have h1' := h1'.trans e9
        subst h1'
        rw [e0, zi_nat (show dp (a + 1) - 1 < _ by omega), zi_nat (show dp (a + 1) < _ by omega), eI, eI2, join_two eb]
        refine ⟨zi_inr (by omega) (by omega), zi_inr (by omega) (by omega), zi_inr (by omega) (by omega), fun I1' h1' y h2 => ?_⟩
        rw [h1', h2, show zi a + 1 = zi (a + 1) from zi_add (b := 1)]; exact hc
      · refine wp_Z_says_16 _ _ _ v4 c4 hS ?_
        rw [hr, hi, hj]
        refine ⟨zi_inr (by omega) (by omega), ?_⟩
        rw [zi_nat (show 4 * t + p + 1 < _ by omega), hs]
        refine ⟨fun h => absurd h nle, fun _ => ⟨zi_inr (by omega) (by omega), fun y hy => ?_⟩⟩
        rw [zi_nat (by omega)] at hy
        subst hy
        refine ⟨fun h => absurd h hcb.1, fun _ => ⟨fun _ => ⟨fun _ => ⟨fun _ y1 h1' => ?_, fun h => absurd h hcb.2.2.2⟩, fun h => absurd h hcb.2.2.1⟩, fun h => absurd hcb.2.1 h⟩⟩
        have h1' := h1'.trans e9
        subst h1'
        rw [e0, zi_nat (show dp (a + 1) - 1 < _ by omega), zi_nat (show dp (a + 1) < _ by omega)]
        refine ⟨zi_inr (by omega) (by omega), zi_inr (by omega) (by omega), zi_inr (by omega) (by omega), fun I1' h1' y h2 => ?_⟩
        rw [h1', h2, show zi a + 1 = zi (a + 1) from zi_add (b := 1)]; exact hz
