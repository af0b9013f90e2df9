/-! A HOUSEHOLD OF THE CLASS (at o, in I) AND THE REFERENCE'S (in J) ARE THE SAME; what a morning left is the same -/
def rg (v : Int32) (m : Int) : Prop := 0 ≤ v.toInt ∧ v.toInt ≤ m
/-- one shower x -/
def RX (o : Nat) (I J : zI) (x : Nat) : Prop := I (o + 1) x = J 58 x ∧ I (o + 2) x = J 59 x ∧ I (o + 3) x = J 60 (5 * x) ∧ I (o + 4) x = J 60 (5 * x + 1) ∧ I (o + 5) x = J 60 (5 * x + 2) ∧ I (o + 6) x = J 60 (5 * x + 3) ∧ I (o + 7) x = J 60 (5 * x + 4) ∧ rg (J 58 x) 5 ∧ rg (J 59 x) 9 ∧ rg (J 60 (5 * x)) 4 ∧ rg (J 60 (5 * x + 1)) 999 ∧ rg (J 60 (5 * x + 2)) 999 ∧ rg (J 60 (5 * x + 3)) 16 ∧ (J 60 (5 * x + 4) = 0 ∨ J 60 (5 * x + 4) = 1)
theorem RX.kind {o : Nat} {I J : zI} {x : Nat} (h : RX o I J x) : I (o + 1) x = J 58 x := h.1
theorem RX.more {o : Nat} {I J : zI} {x : Nat} (h : RX o I J x) : I (o + 2) x = J 59 x := h.2.1
theorem RX.late {o : Nat} {I J : zI} {x : Nat} (h : RX o I J x) : I (o + 3) x = J 60 (5 * x) := h.2.2.1
theorem RX.want {o : Nat} {I J : zI} {x : Nat} (h : RX o I J x) : I (o + 4) x = J 60 (5 * x + 1) := h.2.2.2.1
theorem RX.set {o : Nat} {I J : zI} {x : Nat} (h : RX o I J x) : I (o + 5) x = J 60 (5 * x + 2) := h.2.2.2.2.1
theorem RX.haste {o : Nat} {I J : zI} {x : Nat} (h : RX o I J x) : I (o + 6) x = J 60 (5 * x + 3) := h.2.2.2.2.2.1
theorem RX.on {o : Nat} {I J : zI} {x : Nat} (h : RX o I J x) : I (o + 7) x = J 60 (5 * x + 4) := h.2.2.2.2.2.2.1
theorem RX.rk {o : Nat} {I J : zI} {x : Nat} (h : RX o I J x) : rg (J 58 x) 5 := h.2.2.2.2.2.2.2.1
theorem RX.rm {o : Nat} {I J : zI} {x : Nat} (h : RX o I J x) : rg (J 59 x) 9 := h.2.2.2.2.2.2.2.2.1
theorem RX.rl {o : Nat} {I J : zI} {x : Nat} (h : RX o I J x) : rg (J 60 (5 * x)) 4 := h.2.2.2.2.2.2.2.2.2.1
theorem RX.rw1 {o : Nat} {I J : zI} {x : Nat} (h : RX o I J x) : rg (J 60 (5 * x + 1)) 999 := h.2.2.2.2.2.2.2.2.2.2.1
theorem RX.rs {o : Nat} {I J : zI} {x : Nat} (h : RX o I J x) : rg (J 60 (5 * x + 2)) 999 := h.2.2.2.2.2.2.2.2.2.2.2.1
theorem RX.rh {o : Nat} {I J : zI} {x : Nat} (h : RX o I J x) : rg (J 60 (5 * x + 3)) 16 := h.2.2.2.2.2.2.2.2.2.2.2.2.1
theorem RX.ro {o : Nat} {I J : zI} {x : Nat} (h : RX o I J x) : (J 60 (5 * x + 4) = 0 ∨ J 60 (5 * x + 4) = 1) := h.2.2.2.2.2.2.2.2.2.2.2.2.2
def RH (o : Nat) (I J : zI) (n : Nat) : Prop := n ≤ 4 ∧ I o 7 = zi n ∧ J 57 0 = zi n ∧ ∀ x, x < n → RX o I J x
theorem RH.le {o n : Nat} {I J : zI} (h : RH o I J n) : n ≤ 4 := h.1
theorem RH.ci {o n : Nat} {I J : zI} (h : RH o I J n) : I o 7 = zi n := h.2.1
theorem RH.cj {o n : Nat} {I J : zI} (h : RH o I J n) : J 57 0 = zi n := h.2.2.1
theorem RH.at' {o n : Nat} {I J : zI} (h : RH o I J n) : ∀ x, x < n → RX o I J x := h.2.2.2
theorem RX.fr {o : Nat} {I J I' J' : zI} {x : Nat} (h : RX o I J x) (hI : ∀ c, o ≤ c → c ≤ o + 7 → I' c = I c) (h58 : J' 58 = J 58) (h59 : J' 59 = J 59) (h60 : J' 60 = J 60) : RX o I' J' x := by
  obtain ⟨a, b, c, e, f, g, i, j, k, l, m, p, q, r⟩ := h
  refine ⟨?_, ?_, ?_, ?_, ?_, ?_, ?_, ?_, ?_, ?_, ?_, ?_, ?_, ?_⟩
  · rw [hI _ (by omega) (by omega), h58]; exact a
  · rw [hI _ (by omega) (by omega), h59]; exact b
  · rw [hI _ (by omega) (by omega), h60]; exact c
  · rw [hI _ (by omega) (by omega), h60]; exact e
  · rw [hI _ (by omega) (by omega), h60]; exact f
  · rw [hI _ (by omega) (by omega), h60]; exact g
  · rw [hI _ (by omega) (by omega), h60]; exact i
  · rw [h58]; exact j
  · rw [h59]; exact k
  · rw [h60]; exact l
  · rw [h60]; exact m
  · rw [h60]; exact p
  · rw [h60]; exact q
  · rw [h60]; exact r
theorem RH.fr {o n : Nat} {I J I' J' : zI} (h : RH o I J n) (hI : ∀ c, o ≤ c → c ≤ o + 7 → I' c = I c) (h57 : J' 57 0 = J 57 0) (h58 : J' 58 = J 58) (h59 : J' 59 = J 59) (h60 : J' 60 = J 60) : RH o I' J' n :=
  ⟨h.le, by rw [hI o (by omega) (by omega)]; exact h.ci, by rw [h57]; exact h.cj, fun x hx => (h.at' x hx).fr hI h58 h59 h60⟩
/-- the reference's isOn -/
theorem c_isOn {X : Nat × (Nat → Int32)} {d : Nat} {G : zG} (hS : SG G) {J : zI} {x : Nat} (hx : x < 4) : Cv X d 143 [.ref 57, .int (zi x)] G J (some (.int (if J 60 (5 * x + 4) = 1 then 1 else 0)), G, J) := by
  refine Cv.of hq_143 (z_le rfl) rfl (wp_Z_isOn _ hS ?_)
  rw [show (5 : Int32) * zi x + 4 = zi (5 * x + 4) by rw [show (5 : Int32) = zi 5 from rfl, show (4 : Int32) = zi 4 from rfl, zi_mul, zi_add], zi_nat (by omega)]
  refine ⟨zi_inr (by omega) (by omega), fun h => ?_, fun h => ?_⟩
  · rw [if_neg h]
  · rw [if_pos h]
/-- how many others are set higher: both count the same -/
theorem higher_sim {X : Nat × (Nat → Int32)} {d : Nat} {G : zG} (hS : SG G) {o n t x : Nat} (ho : HH G o) {I J : zI} (hR : RH o I J n) (hx : x < n) (ht : t < 30) (hs : ∀ y, y < n → I (32 + y) t = J 73 (4 * t + y)) :
    ∀ (m y : Nat) (c : Int32), y + m = n → ∃ r : Int32, Ev X d 65 6 [.ref 25, .ref o, .int (zi t), .int (zi x), .int c, .int (zi y)] [] G I (some (.int r), G, I) ∧
      Ev X (d + 1) 162 5 [.ref 57, .int (zi x), .int (zi t), .int c, .int (zi y)] [] G J (some (.int r), G, J) := by
  have h4 := hR.le
  intro m
  induction m with
  | zero =>
    intro y c hy
    have ey : y = n := by omega
    subst ey
    refine ⟨c, wp_M_higherThan_6 o _ _ _ _ hS ho ⟨fun _ => rfl, fun h => absurd ?_ h⟩, wp_Z_higher_5 _ _ _ _ hS ⟨fun _ => rfl, fun h => absurd ?_ h⟩⟩
    · rw [hR.ci]; exact Int32.le_refl _
    · rw [hR.cj]; exact Int32.le_refl _
  | succ m ih =>
    intro y c hy
    have hyn : y < n := by omega
    have ny : ¬ zi n ≤ zi y := fun h => absurd ((zi_le (by omega) (by omega)).1 h) (by omega)
    have ey : zi y + 1 = zi (y + 1) := zi_add (b := 1)
    have eyt : (4 : Int32) * zi t + zi y = zi (4 * t + y) := by rw [show (4 : Int32) = zi 4 from rfl, zi_mul, zi_add]
    have ext : (4 : Int32) * zi t + zi x = zi (4 * t + x) := by rw [show (4 : Int32) = zi 4 from rfl, zi_mul, zi_add]
    have onE : I (o + (6 + 1)) y = J 60 (5 * y + 4) := (hR.at' y hyn).on
    by_cases hon : J 60 (5 * y + 4) = 1
    · by_cases hle : J 73 (4 * t + y) ≤ J 73 (4 * t + x)
      · obtain ⟨r, hc, hz⟩ := ih (y + 1) c (by omega)
        refine ⟨r, wp_M_higherThan_6 o _ _ _ _ hS ho ⟨fun h => absurd (by rw [hR.ci] at h; exact h) ny, fun _ => ⟨zi_inr (by omega) (by omega), ?_⟩⟩, wp_Z_higher_5 _ _ _ _ hS ⟨fun h => absurd (by rw [hR.cj] at h; exact h) ny, fun _ => ⟨fun _ y3 e3 y4 e4 => ?_, fun _ => ⟨_, _, c_isOn hS (by omega), ?_⟩⟩⟩⟩
        · rw [zi_nat (show y < _ by omega), zi_nat (show x < _ by omega), zi_nat (show t < _ by omega), onE, hs y hyn, hs x hx]
          refine ⟨fun h => absurd hon h, fun _ => ⟨zi_inr (by omega) (by omega), zi_inr (by omega) (by omega), zi_inr (by omega) (by omega), zi_inr (by omega) (by omega), fun _ y12 e12 => ?_, fun h => absurd hle h⟩⟩
          rw [e12, ey]; exact hc
        · rw [e3, e4, ey, Int32.add_zero]; exact hz
        · rw [if_pos hon, eyt, ext, zi_nat (show 4 * t + y < _ by omega), zi_nat (show 4 * t + x < _ by omega)]
          refine ⟨fun h => absurd h (by decide), fun _ => ⟨zi_inr (by omega) (by omega), zi_inr (by omega) (by omega), fun _ y14 e14 y15 e15 => ?_, fun h => absurd hle h⟩⟩
          rw [e14, e15, ey, Int32.add_zero]; exact hz
      · obtain ⟨r, hc, hz⟩ := ih (y + 1) (c + 1) (by omega)
        have hne : ¬ zi y = zi x := fun h => by
          have : y = x := (zi_eq (by omega) (by omega)).1 h
          subst this; exact hle (Int32.le_refl _)
        refine ⟨r, wp_M_higherThan_6 o _ _ _ _ hS ho ⟨fun h => absurd (by rw [hR.ci] at h; exact h) ny, fun _ => ⟨zi_inr (by omega) (by omega), ?_⟩⟩, wp_Z_higher_5 _ _ _ _ hS ⟨fun h => absurd (by rw [hR.cj] at h; exact h) ny, fun _ => ⟨fun h => absurd h hne, fun _ => ⟨_, _, c_isOn hS (by omega), ?_⟩⟩⟩⟩
        · rw [zi_nat (show y < _ by omega), zi_nat (show x < _ by omega), zi_nat (show t < _ by omega), onE, hs y hyn, hs x hx]
          refine ⟨fun h => absurd hon h, fun _ => ⟨zi_inr (by omega) (by omega), zi_inr (by omega) (by omega), zi_inr (by omega) (by omega), zi_inr (by omega) (by omega), fun h => absurd h hle, fun _ y13 e13 y14 e14 => ?_⟩⟩
          rw [e13, e14, ey]; exact hc
        · rw [if_pos hon, eyt, ext, zi_nat (show 4 * t + y < _ by omega), zi_nat (show 4 * t + x < _ by omega)]
          refine ⟨fun h => absurd h (by decide), fun _ => ⟨zi_inr (by omega) (by omega), zi_inr (by omega) (by omega), fun h => absurd h hle, fun _ y14 e14 y15 e15 => ?_⟩⟩
          rw [e14, e15, ey]; exact hz
    · obtain ⟨r, hc, hz⟩ := ih (y + 1) c (by omega)
      refine ⟨r, wp_M_higherThan_6 o _ _ _ _ hS ho ⟨fun h => absurd (by rw [hR.ci] at h; exact h) ny, fun _ => ⟨zi_inr (by omega) (by omega), ?_⟩⟩, wp_Z_higher_5 _ _ _ _ hS ⟨fun h => absurd (by rw [hR.cj] at h; exact h) ny, fun _ => ⟨fun _ y3 e3 y4 e4 => ?_, fun _ => ⟨_, _, c_isOn hS (by omega), ?_⟩⟩⟩⟩
      · rw [zi_nat (show y < _ by omega), onE]
        refine ⟨fun _ y4 e4 => ?_, fun h => absurd h hon⟩
        rw [e4, ey]; exact hc
      · rw [e3, e4, ey, Int32.add_zero]; exact hz
      · rw [if_neg hon]
        refine ⟨fun _ y9 e9 y10 e10 => ?_, fun h => absurd rfl h⟩
        rw [e9, e10, ey, Int32.add_zero]; exact hz
