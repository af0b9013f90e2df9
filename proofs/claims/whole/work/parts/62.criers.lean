theorem told_loop {X : Nat × (Nat → Int32)} {d D : Nat} {G : zG} (hS : SG G) {I J : zI} {s k : Nat} (h : SHk I J s k) (x2 : Int32) :
    ∀ (m i : Nat) (acc : Int32), i + m = k → ∃ T : Int32, Ev X (d + 2) 112 17 [.ref 0, .int (zi s), .int (zi k), .int acc, .int (zi i)] [] G I (some (.int T), G, I) ∧
      ∀ res, (∀ v6 : Value, v6.category = 1 → Ev X (D + 1) 201 19 [.ref 57, .int (zi s), .int x2, .int 0, .int T, .int (zi k), v6, zU] [] G J res) → ∀ v6 : Value, v6.category = 1 → Ev X (D + 1) 201 19 [.ref 57, .int (zi s), .int x2, .int 0, .int acc, .int (zi i), v6, zU] [] G J res := by
  obtain ⟨a, b, c, e, f⟩ := h
  intro m
  induction m with
  | zero =>
    intro i acc hi
    obtain rfl : i = k := by omega
    exact ⟨acc, wp_T_beatsTold_17 _ _ _ _ (by omega) hS ⟨fun _ => rfl, fun h => absurd (Int32.le_refl _) h⟩, fun res h => h⟩
  | succ m ih =>
    intro i acc hi
    have nx : ¬ zi k ≤ zi i := fun h => absurd ((zi_le (by omega) (by omega)).1 h) (by omega)
    have f1 := f i (by omega)
    have e40 : (40 : Int32) * zi s + zi i = zi (40 * s + i) := by rw [show (40 : Int32) = zi 40 from rfl, zi_mul, zi_add]
    by_cases hb : f_T_isBeat (J 67 (40 * s + i)) = 0
    · obtain ⟨T, k1, k2⟩ := ih (i + 1) acc (by omega)
      refine ⟨T, wp_T_beatsTold_17 _ _ _ _ (by omega) hS ?_, fun res h v6 c6 => wp_Z_heard_19 _ _ _ _ _ v6 c6 hS ?_⟩
      · rw [zi_nat (show s < _ by omega), zi_nat (show i < _ by omega), f1]
        exact ⟨fun h => absurd h nx, fun _ => ⟨zi_inr (by omega) (by omega), ⟨zi_inr (by omega) (by omega), ⟨fun _ => fun y6_ e1 => (by subst e1; exact (by rw [zi1 i]; exact k1)), fun h => absurd hb h⟩⟩⟩⟩
      · rw [zi_nat (show s < _ by omega), e, e40, zi_nat (show 40 * s + i < _ by omega)]
        exact ⟨zi_inr (by omega) (by omega), ⟨fun h => absurd h nx, fun _ => ⟨zi_inr (by omega) (by omega), fun y6_ e1 => (by subst e1; exact ⟨fun _ => fun y8_ e2 => (by subst e2; exact fun y9_ e3 => (by subst e3; exact (by rw [zi1 i, Int32.or_zero]; exact k2 res h _ rfl))), fun h => absurd hb h⟩)⟩⟩⟩
    · obtain ⟨T, k1, k2⟩ := ih (i + 1) (acc ||| (1 <<< (J 67 (40 * s + i) &&& 31))) (by omega)
      refine ⟨T, wp_T_beatsTold_17 _ _ _ _ (by omega) hS ?_, fun res h v6 c6 => wp_Z_heard_19 _ _ _ _ _ v6 c6 hS ?_⟩
      · rw [zi_nat (show s < _ by omega), zi_nat (show i < _ by omega), f1]
        exact ⟨fun h => absurd h nx, fun _ => ⟨zi_inr (by omega) (by omega), ⟨zi_inr (by omega) (by omega), ⟨fun h => absurd h hb, fun _ => ⟨zi_inr (by omega) (by omega), ⟨zi_inr (by omega) (by omega), fun y10_ e1 => (by subst e1; exact fun y11_ e2 => (by subst e2; exact (by rw [zi1 i]; exact k1)))⟩⟩⟩⟩⟩⟩
      · rw [zi_nat (show s < _ by omega), e, e40, zi_nat (show 40 * s + i < _ by omega)]
        exact ⟨zi_inr (by omega) (by omega), ⟨fun h => absurd h nx, fun _ => ⟨zi_inr (by omega) (by omega), fun y6_ e1 => (by subst e1; exact ⟨fun h => absurd h hb, fun _ => fun y10_ e2 => (by subst e2; exact fun y11_ e3 => (by subst e3; exact (by rw [zi1 i]; exact k2 res h _ rfl)))⟩)⟩⟩⟩
theorem late_loop {X : Nat × (Nat → Int32)} {d : Nat} {G : zG} (hS : SG G) {n r0 m x : Nat} (hn : n ≤ 4) (hx : x < n) (x1 T was : Int32) :
    ∀ (j k : Nat) (I J : zI) (acc : Int32), k + j = 5 → AD 9 n r0 m G I J → J 57 34 = -1 →
    ∃ (w : Int32) (I1 J1 : zI), Ev X (d + 7) 111 37 [.ref 0, .int x1, .int (zi x), .int 0, .int T, .int acc, .int (zi k)] [] G I (some (.int w), G, I1) ∧ Ev X (d + 7) 201 90 [.ref 57, .int x1, .int (zi x), .int 0, .int T, .int was, .int acc, .int (zi k)] [] G J (some (.int w), G, J1) ∧ FC I I1 ∧ FZ6 (fun q => q = 5 * x) J J1 ∧ J1 60 (5 * x) = was := by
  intro j
  induction j with
  | zero =>
    intro k I J acc hk hA hq
    obtain rfl : k = 5 := by omega
    refine ⟨acc, I, z_up J 60 (5 * x) was, wp_T_heard_37 _ _ _ _ _ _ hS ⟨fun _ => rfl, fun h => absurd (by decide) h⟩, wp_Z_heard_90 _ _ _ _ _ _ _ hS ?_, FC.rf, FZ6.up rfl, up_same⟩
    rw [show (5 : Int32) * zi x = zi (5 * x) from zi_mul (a := 5), zi_nat (show 5 * x < _ by omega)]
    exact ⟨fun _ => ⟨zi_inr (by omega) (by omega), fun I3_ e1 => (by subst e1; exact rfl)⟩, fun h => absurd (by decide) h⟩
  | succ j ih =>
    intro k I J acc hk hA hq
    have nh : ¬ (4 : Int32) < zi k := fun e => absurd ((zi_lt (a := 4) (by omega) (by omega)).1 e) (by omega)
    have hA3 := hA.lateUp (x := x) (h := k) hx (by omega)
    obtain ⟨I4, J6, k1, k2, k3, k4, -, -, mc⟩ := live_sim (X := X) (d := d) hS (Or.inr rfl) hA3 (by rw [up_cell (by decide)]; exact hq)
    have hA6 := hA3.fr (by omega) k3 k4
    have hq6 : J6 57 34 = -1 := by rw [k4 57 (by omega), up_cell (by decide)]; exact hq
    have fc : FC I I4 := fun c a b e => by rw [k3 c b e, up_cell (by omega)]
    have fz : FZ6 (fun q => q = 5 * x) J J6 := (FZ6.up (p := fun q => q = 5 * x) rfl).tr (FrR.Z k4).six
    by_cases hr : J6 76 x = T
    · have hrT : I4 37 x = T := (mc x hx).2.1.trans hr
      obtain ⟨w, I9, J9, q1, q2, q3, q4, q5⟩ := ih (k + 1) I4 J6 (acc ||| (1 <<< (zi k &&& 31))) (by omega) hA6 hq6
      refine ⟨w, I9, J9, wp_T_heard_37 _ _ _ _ _ _ hS ?_, wp_Z_heard_90 _ _ _ _ _ _ _ hS ?_, fc.tr q3, fz.tr q4, q5⟩
      · rw [zi_nat (show x < _ by omega)]
        exact ⟨fun h => absurd h nh, fun _ => ⟨zi_inr (by omega) (by omega), fun I3_ e1 => (by subst e1; exact ⟨I4, k1, ⟨zi_inr (by omega) (by omega), ⟨fun h => absurd hrT h, fun _ => fun y9_ e2 => (by subst e2; exact fun y10_ e3 => (by subst e3; exact (by rw [zi1 k]; exact q1)))⟩⟩⟩)⟩⟩
      · rw [show (5 : Int32) * zi x = zi (5 * x) from zi_mul (a := 5), zi_nat (show 5 * x < _ by omega), zi_nat (show x < _ by omega)]
        exact ⟨fun h => absurd h nh, fun _ => ⟨zi_inr (by omega) (by omega), fun I5_ e1 => (by subst e1; exact ⟨J6, k2, ⟨zi_inr (by omega) (by omega), ⟨fun h => absurd hr h, fun _ => fun y12_ e2 => (by subst e2; exact fun y13_ e3 => (by subst e3; exact (by rw [zi1 k]; exact q2)))⟩⟩⟩)⟩⟩
    · have hrT : ¬ I4 37 x = T := by rw [(mc x hx).2.1]; exact hr
      obtain ⟨w, I9, J9, q1, q2, q3, q4, q5⟩ := ih (k + 1) I4 J6 (acc) (by omega) hA6 hq6
      refine ⟨w, I9, J9, wp_T_heard_37 _ _ _ _ _ _ hS ?_, wp_Z_heard_90 _ _ _ _ _ _ _ hS ?_, fc.tr q3, fz.tr q4, q5⟩
      · rw [zi_nat (show x < _ by omega)]
        exact ⟨fun h => absurd h nh, fun _ => ⟨zi_inr (by omega) (by omega), fun I3_ e1 => (by subst e1; exact ⟨I4, k1, ⟨zi_inr (by omega) (by omega), ⟨fun _ => fun y8_ e2 => (by subst e2; exact (by rw [zi1 k]; exact q1)), fun h => absurd h hrT⟩⟩⟩)⟩⟩
      · rw [show (5 : Int32) * zi x = zi (5 * x) from zi_mul (a := 5), zi_nat (show 5 * x < _ by omega), zi_nat (show x < _ by omega)]
        exact ⟨fun h => absurd h nh, fun _ => ⟨zi_inr (by omega) (by omega), fun I5_ e1 => (by subst e1; exact ⟨J6, k2, ⟨zi_inr (by omega) (by omega), ⟨fun _ => fun y10_ e2 => (by subst e2; exact fun y11_ e3 => (by subst e3; exact (by rw [zi1 k, Int32.or_zero]; exact q2))), fun h => absurd h hr⟩⟩⟩)⟩⟩
theorem q_heard (x1 x2 : Int32) : Quiet 111 201 [.int x1, .int x2] := by
  intro X n m G I J R
  have hS := R.S
  have hn := R.H.le
  obtain ⟨v, c1, c2, h⟩ := told_sim (X := X) (d := 96) R x1 x2
  by_cases hv : v = 0
  · obtain ⟨s, k, x, rfl, hk, rfl, hx⟩ := h hv
    subst hv
    obtain ⟨r, I0, c0, f0, hA, f00⟩ := think (X := X) (d := 98) R
    have hk0 : SHk I0 J s k := hk.fr (fun c _ _ => f00 c (by omega)) rfl rfl
    obtain ⟨T, t1, t2⟩ := told_loop (X := X) (d := 97) (D := 99) hS hk (zi x) k 0 0 (by omega)
    have cT : Cv X 99 112 [.ref 0, .int (zi s)] G I (some (.int T), G, I) := by
      refine Cv.of hq_112 (z_le rfl) rfl (wp_T_beatsTold _ hS ?_)
      have h40 := hk.2.1
      rw [zi_nat (show s < _ from by have := hk.1; omega), hk.2.2.1]
      refine ⟨zi_inr hk.1 (by have := hk.1; omega), fun y hy => ?_⟩
      rw [hy, if_neg (show ¬ (40 : Int32) < zi k from fun e => absurd ((zi_lt (a := 40) (by omega) (by omega)).1 e) (by omega))]
      exact t1
    obtain ⟨w, I1, J1, q1, q2, q3, q4, q5⟩ := late_loop (X := X) (d := 93) hS hn hx (zi s) T (J 60 (5 * x)) 5 0 I0 J 0 (by omega) hA R.q
    refine ⟨.int w, I1, J1, Cv.of hq_111 (z_le rfl) rfl (wp_T_heard _ _ hS ⟨0, I, c1, ⟨fun _ => ⟨T, I, cT, ⟨I0, c0, q1⟩⟩, fun h => absurd rfl h⟩⟩), Cv.of hq_201 (z_le rfl) rfl (wp_Z_heard _ _ hS ⟨0, J, c2, ⟨fun _ => (t2 _ (fun v6 c6 => wp_Z_heard_19 _ _ _ _ _ v6 c6 hS ?_) _ rfl), fun h => absurd rfl h⟩⟩), f0.tr q3, q4.back (fun q hq => by rw [hq, q5])⟩
    rw [zi_nat (show s < _ from by have := hk.1; omega), hk.2.2.2.1, show (5 : Int32) * zi x = zi (5 * x) from zi_mul (a := 5), zi_nat (show 5 * x < _ by omega)]
    exact ⟨(zi_inr hk.1 (by have := hk.1; omega)), ⟨fun _ => ⟨zi_inr (by omega) (by omega), fun y4_ e1 => (by subst e1; exact q2)⟩, fun h => absurd (Int32.le_refl _) h⟩⟩
  · exact ⟨.int v, I, J, Cv.of hq_111 (z_le rfl) rfl (wp_T_heard _ _ hS ⟨v, I, c1, ⟨fun h => absurd h hv, fun _ => rfl⟩⟩), Cv.of hq_201 (z_le rfl) rfl (wp_Z_heard _ _ hS ⟨v, J, c2, ⟨fun h => absurd h hv, fun _ => rfl⟩⟩), FC.rf, FZ.rf⟩
/-- x bits of A have been held against B -/
def fAB (A B x : Nat) : Nat := (A % 2 * (if x = 0 then 1 else B % 2)) + 2 * (A / 2 % 2 * (if x ≤ 1 then 1 else B / 2 % 2)) + 4 * (A / 4 % 2 * (if x ≤ 2 then 1 else B / 4 % 2)) + 8 * (A / 8 % 2 * (if x ≤ 3 then 1 else B / 8 % 2))
set_option maxRecDepth 100000 in
theorem fAB_st : ∀ A, A < 16 → ∀ B, B < 16 → ∀ x, x < 4 → (B / 2 ^ x % 2 = 1 → zi (fAB A B (x + 1)) = zi (fAB A B x)) ∧ (B / 2 ^ x % 2 = 0 → zi (fAB A B (x + 1)) = zi (fAB A B x) &&& ((1 <<< (zi x &&& 31)) ^^^ (-1))) := by decide +kernel
set_option maxRecDepth 100000 in
theorem fAB_0 : ∀ A, A < 16 → ∀ B, B < 16 → fAB A B 0 = A := by decide +kernel
set_option maxRecDepth 100000 in
theorem fAB_n : ∀ n, n ≤ 4 → ∀ A, A < 2 ^ n → ∀ B, B < 2 ^ n → zi (fAB A B n) = zi A &&& zi B ∧ fAB A B n < 2 ^ n := by decide +kernel
set_option maxRecDepth 100000 in
theorem bits_bit : ∀ y, y < 4 → ∀ A, A < 2 ^ y → ∀ b, b < 2 → (A + b * 2 ^ y) / 2 ^ y % 2 = b ∧ ∀ x, x < y → (A + b * 2 ^ y) / 2 ^ x % 2 = A / 2 ^ x % 2 := by decide +kernel
theorem mask_n : ∀ n, n ≤ 4 → (1 <<< (zi n &&& 31)) - 1 = zi (2 ^ n - 1) ∧ 2 ^ n - 1 < 2 ^ n := by decide
/-- who cries in a beat: the class's bits -/
theorem crin_loop {X : Nat × (Nat → Int32)} {d : Nat} {G : zG} (hS : SG G) {I : zI} {n t : Nat} (hn : n ≤ 4) :
    ∀ (m x A : Nat), x + m = n → A < 2 ^ x → ∃ B : Nat, B < 2 ^ n ∧ Ev X d 79 5 [.ref 25, .int (zi t), .int (zi n), .int (zi A), .int (zi x)] [] G I (some (.int (zi B)), G, I) ∧ (∀ y, y < x → B / 2 ^ y % 2 = A / 2 ^ y % 2) ∧ ∀ y, x ≤ y → y < n → zi (B / 2 ^ y % 2) = (I 37 y >>> (zi t &&& 31)) &&& 1 := by
  intro m
  induction m with
  | zero =>
    intro x A hx hA
    obtain rfl : x = n := by omega
    exact ⟨A, hA, wp_M_criersIn_5 _ _ _ _ hS ⟨fun _ => rfl, fun h => absurd (Int32.le_refl _) h⟩, fun _ _ => rfl, fun y h1 h2 => absurd h2 (by omega)⟩
  | succ m ih =>
    intro x A hx hA
    have nx : ¬ zi n ≤ zi x := fun h => absurd ((zi_le (by omega) (by omega)).1 h) (by omega)
    obtain ⟨b, hb, eb⟩ := bit1 (I 37 x >>> (zi t &&& 31))
    obtain ⟨o1, o2, o3⟩ := bits_or x (by omega) A hA b hb
    obtain ⟨p1, p2⟩ := bits_bit x (by omega) A hA b hb
    obtain ⟨B, hB, k1, k2, k3⟩ := ih (x + 1) (A + b * 2 ^ x) (by omega) o3
    refine ⟨B, hB, wp_M_criersIn_5 _ _ _ _ hS ⟨fun h => absurd h nx, fun _ => ⟨fun h => absurd ((zi_le (a := 4) (by omega) (by omega)).1 h) (by omega), fun _ => ?_⟩⟩, fun y hy => (k2 y (by omega)).trans (p2 y hy), fun y h1 h2 => ?_⟩
    · rw [zi_nat (show x < _ by omega), eb, o1, zi1]
      exact ⟨zi_inr (by omega) (by omega), fun y hy y2 hy2 => by rw [hy, hy2]; exact k1⟩
    · by_cases e : y = x
      · subst e
        rw [k2 y (by omega), p1, eb]
      · exact k3 y (by omega) h2
theorem crset_loop {X : Nat × (Nat → Int32)} {d : Nat} {G : zG} (hS : SG G) {J : zI} {n A B i : Nat} (hn : n ≤ 4) (hj : J 57 0 = zi n) (hA : A < 2 ^ n) (hB : B < 2 ^ n) (x1 x2 v : Int32)
    (hb : (f_Z_in v 0 29 = 0 ∧ B = 0) ∨ (¬ f_Z_in v 0 29 = 0 ∧ ∀ y, y < n → zi (B / 2 ^ y % 2) = (J 76 y >>> (f_Z_within v 0 29 &&& 31)) &&& 1)) :
    ∀ (m x : Nat), x + m = n → ∀ res, (∀ v7 : Value, v7.category = 1 → Ev X (d + 1) 200 58 [.ref 57, .int x1, .int x2, .int (zi (fAB A B n)), .int (zi i), .int v, .int (zi n), v7] [] G J res) → ∀ v7 : Value, v7.category = 1 → Ev X (d + 1) 200 58 [.ref 57, .int x1, .int x2, .int (zi (fAB A B x)), .int (zi i), .int v, .int (zi x), v7] [] G J res := by
  have h16 : 2 ^ n ≤ 2 ^ 4 := Nat.pow_le_pow_right (by omega) hn
  intro m
  induction m with
  | zero =>
    intro x hx res k
    obtain rfl : x = n := by omega
    exact k
  | succ m ih =>
    intro x hx res k v7 c7
    have nx : ¬ zi n ≤ zi x := fun h => absurd ((zi_le (by omega) (by omega)).1 h) (by omega)
    obtain ⟨s1, s2⟩ := fAB_st A (by omega) B (by omega) x (by omega)
    have k1 := ih (x + 1) (by omega) res k
    refine wp_Z_criers_58 _ _ _ _ _ _ v7 c7 hS ?_
    rw [hj, zi_nat (show x < _ by omega)]
    rcases hb with ⟨b1, b2⟩ | ⟨b1, b2⟩
    · have q := s2 (by rw [b2]; simp)
      exact ⟨fun h => absurd h nx, fun _ => ⟨fun _ => fun y4_ e1 => (by subst e1; exact fun y5_ e2 => (by subst e2; exact (by rw [zi1 x, ← q]; exact k1 _ rfl))), fun h => absurd b1 h⟩⟩
    · have q0 := b2 x (by omega)
      by_cases q : B / 2 ^ x % 2 = 1
      · have q1 := s1 q
        have q2 : (J 76 x >>> (f_Z_within v 0 29 &&& 31)) &&& 1 = 1 := by rw [← q0, q]; rfl
        rw [q1] at k1
        exact ⟨fun h => absurd h nx, fun _ => ⟨fun h => absurd h b1, fun _ => ⟨zi_inr (by omega) (by omega), ⟨fun h => absurd q2 h, fun _ => fun y10_ e1 => (by subst e1; exact (by rw [zi1 x]; exact k1 _ rfl))⟩⟩⟩⟩
      · have q3 : B / 2 ^ x % 2 = 0 := by omega
        have q1 := s2 q3
        have q2 : ¬ (J 76 x >>> (f_Z_within v 0 29 &&& 31)) &&& 1 = 1 := by rw [← q0, q3]; decide
        exact ⟨fun h => absurd h nx, fun _ => ⟨fun h => absurd h b1, fun _ => ⟨zi_inr (by omega) (by omega), ⟨fun _ => fun y8_ e1 => (by subst e1; exact fun y9_ e2 => (by subst e2; exact (by rw [zi1 x, ← q1]; exact k1 _ rfl))), fun h => absurd h q2⟩⟩⟩⟩
theorem criers_all {X : Nat × (Nat → Int32)} {d : Nat} {G : zG} (hS : SG G) {I J : zI} {s k n : Nat} (h : SHk I J s k) (hn : n ≤ 4) (hi : I 1 7 = zi n) (hj : J 57 0 = zi n) (hM : ∀ y, y < n → I 37 y = J 76 y) :
    ∀ (m i A : Nat), i + m = k → A < 2 ^ n → ∃ w : Int32, (∀ v6 : Value, v6.category = 1 → Ev X (d + 2) 110 48 [.ref 0, .int (zi s), .int 0, .int (zi k), .int (zi A), .int (zi i), v6] [] G I (some (.int w), G, I)) ∧ ∀ v5 v6 v7 : Value, v5.category = 1 → v6.category = 1 → v7.category = 1 → Ev X (d + 2) 200 30 [.ref 57, .int (zi s), .int 0, .int (zi A), .int (zi i), v5, v6, v7] [] G J (some (.int w), G, J) := by
  obtain ⟨a, b, c, e, f⟩ := h
  have h16 : 2 ^ n ≤ 2 ^ 4 := Nat.pow_le_pow_right (by omega) hn
  intro m
  induction m with
  | zero =>
    intro i A hik hA
    obtain rfl : i = k := by omega
    refine ⟨zi A, fun v6 c6 => wp_T_criers_48 _ _ _ _ _ v6 c6 (by omega) hS ⟨fun _ => rfl, fun h => absurd (Int32.le_refl _) h⟩, fun v5 v6 v7 c5 c6 c7 => wp_Z_criers_30 _ _ _ _ v5 c5 v6 c6 v7 c7 hS ?_⟩
    rw [zi_nat (show s < _ by omega), e]
    exact ⟨zi_inr (by omega) (by omega), fun _ => rfl, fun h => absurd (Int32.le_refl _) h⟩
  | succ m ih =>
    intro i A hik hA
    have nx : ¬ zi k ≤ zi i := fun h => absurd ((zi_le (by omega) (by omega)).1 h) (by omega)
    have f1 := f i (by omega)
    have e40 : (40 : Int32) * zi s + zi i = zi (40 * s + i) := by rw [show (40 : Int32) = zi 40 from rfl, zi_mul, zi_add]
    by_cases hb : f_T_isBeat (J 67 (40 * s + i)) = 0
    · obtain ⟨n1, n2⟩ := fAB_n n hn A hA 0 (by omega)
      obtain ⟨w, q1, q2⟩ := ih (i + 1) (fAB A 0 n) (by omega) n2
      have k3 := crset_loop (X := X) (d := d + 1) (i := i) hS hn hj hA (B := 0) (by omega) (zi s) 0 (J 67 (40 * s + i)) (Or.inl ⟨hb, rfl⟩) n 0 (by omega)
      rw [fAB_0 A (by omega) 0 (by omega)] at k3
      rw [n1] at q1
      refine ⟨w, fun v6 c6 => wp_T_criers_48 _ _ _ _ _ v6 c6 (by omega) hS ?_, fun v5 v6 v7 c5 c6 c7 => wp_Z_criers_30 _ _ _ _ v5 c5 v6 c6 v7 c7 hS ?_⟩
      · rw [zi_nat (show s < _ by omega), zi_nat (show i < _ by omega), f1]
        exact ⟨fun h => absurd h nx, fun _ => ⟨zi_inr (by omega) (by omega), ⟨zi_inr (by omega) (by omega), fun y5_ e1 => (by subst e1; exact ⟨fun _ => fun y7_ e2 => (by subst e2; exact fun y8_ e3 => (by subst e3; exact (by rw [zi1 i]; exact q1 _ rfl))), fun h => absurd hb h⟩)⟩⟩⟩
      · rw [zi_nat (show s < _ by omega), e, e40, zi_nat (show 40 * s + i < _ by omega)]
        exact ⟨zi_inr (by omega) (by omega), ⟨fun h => absurd h nx, fun _ => ⟨zi_inr (by omega) (by omega), fun y4_ e1 => (by subst e1; exact (k3 _ (fun v7 c7 => wp_Z_criers_58 _ _ _ _ _ _ v7 c7 hS ⟨fun _ y hy => (by rw [hy, zi1 i]; exact q2 _ _ _ rfl rfl c7), fun h => absurd (by rw [hj]; exact Int32.le_refl _) h⟩) _ c7))⟩⟩⟩
    · obtain ⟨t, -, ht, et⟩ := wi_spec (a := 0) (b := 29) (by omega) (by omega) hb
      obtain ⟨B, hB, l1, -, l3⟩ := crin_loop (X := X) (d := d + 1) hS (I := I) (t := t) hn n 0 0 (by omega) (by decide)
      have c1 : Cv X (d + 1) 79 [.ref 25, .int (J 67 (40 * s + i)), .int (zi n)] G I (some (.int (zi B)), G, I) := by
        rw [et]; exact Cv.of hq_79 (z_le rfl) rfl (wp_M_criersIn _ _ l1)
      obtain ⟨n1, n2⟩ := fAB_n n hn A hA B hB
      obtain ⟨w, q1, q2⟩ := ih (i + 1) (fAB A B n) (by omega) n2
      have ew : f_Z_within (J 67 (40 * s + i)) 0 29 = zi t := by
        rw [et]
        unfold f_Z_within
        rw [if_pos (show (0 : Int32) ≤ zi t from (zi_le (a := 0) (by omega) (by omega)).2 (by omega)), if_pos (show zi t ≤ (29 : Int32) from (zi_le (b := 29) (by omega) (by omega)).2 (by omega))]
      have k3 := crset_loop (X := X) (d := d + 1) (i := i) hS hn hj hA hB (zi s) 0 (J 67 (40 * s + i)) (Or.inr ⟨hb, fun y hy => by rw [ew, ← hM y hy]; exact l3 y (by omega) hy⟩) n 0 (by omega)
      rw [fAB_0 A (by omega) B (by omega)] at k3
      rw [n1] at q1
      refine ⟨w, fun v6 c6 => wp_T_criers_48 _ _ _ _ _ v6 c6 (by omega) hS ?_, fun v5 v6 v7 c5 c6 c7 => wp_Z_criers_30 _ _ _ _ v5 c5 v6 c6 v7 c7 hS ?_⟩
      · rw [zi_nat (show s < _ by omega), zi_nat (show i < _ by omega), f1]
        exact ⟨fun h => absurd h nx, fun _ => ⟨zi_inr (by omega) (by omega), ⟨zi_inr (by omega) (by omega), fun y5_ e1 => (by subst e1; exact ⟨fun h => absurd h hb, fun _ => ⟨_, I, (by rw [hi]; exact c1), fun y12_ e2 => (by subst e2; exact fun y13_ e3 => (by subst e3; exact (by rw [zi1 i]; exact q1 _ rfl)))⟩⟩)⟩⟩⟩
      · rw [zi_nat (show s < _ by omega), e, e40, zi_nat (show 40 * s + i < _ by omega)]
        exact ⟨zi_inr (by omega) (by omega), ⟨fun h => absurd h nx, fun _ => ⟨zi_inr (by omega) (by omega), fun y4_ e1 => (by subst e1; exact (k3 _ (fun v7 c7 => wp_Z_criers_58 _ _ _ _ _ _ v7 c7 hS ⟨fun _ y hy => (by rw [hy, zi1 i]; exact q2 _ _ _ rfl rfl c7), fun h => absurd (by rw [hj]; exact Int32.le_refl _) h⟩) _ c7))⟩⟩⟩
theorem q_criers (x1 : Int32) : Quiet 110 200 [.int x1] := by
  intro X n m G I J R
  have hS := R.S
  have hn := R.H.le
  obtain ⟨v, c1, c2, h⟩ := ref_sim (X := X) (d := 97) R x1
  by_cases hv : v = 0
  · obtain ⟨s, k, rfl, hk⟩ := h hv
    subst hv
    obtain ⟨r0, hA⟩ := R.AD
    obtain ⟨I1, J1, k1, k2, k3, k4, -, -, mc⟩ := live_sim (X := X) (d := 93) hS (Or.inl rfl) hA R.q
    have hA1 := hA.fr (by omega) k3 k4
    have hk1 : SHk I1 J1 s k := hk.fr (fun c _ _ => k3.F (by omega)) (k4 66 (by omega)) (k4 67 (by omega))
    obtain ⟨m1, m2⟩ := mask_n n hn
    obtain ⟨w, q1, q2⟩ := criers_all (X := X) (d := 98) hS hk1 hn hA1.1.ci hA1.1.cj (fun y hy => (mc y hy).2.1) k 0 (2 ^ n - 1) (by omega) m2
    have h30 := hk.2.1
    have e40 : (if (40 : Int32) < zi k then 40 else zi k) = zi k := if_neg (show ¬ (40 : Int32) < zi k from fun e => absurd ((zi_lt (a := 40) (by omega) (by omega)).1 e) (by omega))
    refine ⟨.int w, I1, J1, Cv.of hq_110 (z_le rfl) rfl (wp_T_criers _ hS ?_), Cv.of hq_200 (z_le rfl) rfl (wp_Z_criers _ hS ?_), k3.C, k4.Z⟩
    · rw [zi_nat (show s < _ from by have := hk.1; omega)]
      exact ⟨0, I, c1, ⟨fun _ => ⟨I1, k1, ⟨(zi_inr hk.1 (by have := hk.1; omega)), fun y8_ e1 => (by subst e1; exact fun y9_ e2 => (by subst e2; exact (by rw [hk1.2.2.1, e40, hA1.1.ci, m1]; exact q1 _ rfl)))⟩⟩, fun h => absurd rfl h⟩⟩
    · exact ⟨0, J, c2, ⟨fun _ => ⟨J1, k2, fun y7_ e1 => (by subst e1; exact (by rw [hA1.1.cj, m1]; exact q2 _ _ _ rfl rfl rfl))⟩, fun h => absurd rfl h⟩⟩
  · exact ⟨.int v, I, J, Cv.of hq_110 (z_le rfl) rfl (wp_T_criers _ hS ⟨v, I, c1, ⟨fun h => absurd h hv, fun _ => rfl⟩⟩), Cv.of hq_200 (z_le rfl) rfl (wp_Z_criers _ hS ⟨v, J, c2, ⟨fun h => absurd h hv, fun _ => rfl⟩⟩), FC.rf, FZ.rf⟩
