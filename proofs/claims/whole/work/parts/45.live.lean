/-- one shower's part of a beat, turning included: the class's liveBeat, and what the reference asks on its way -/
theorem live_core {X : Nat × (Nat → Int32)} {d : Nat} {G : zG} (hS : SG G) {o w t0 t x : Nat} (ho : HH G o) (ho7 : o + 7 < 27) (hw : 52 ≤ w) {I J : zI} (hT : TR G I J w t0) (hr : J 57 9 = zi t0) (hX : RX o I J x) (hx : x < 4) (ht : t < 30)
    {A B N : Int32} (hN : N = J 73 (4 * t + x)) (hA : A = J 60 (5 * x + 1) - J 74 (4 * t + x)) (hB : B = J 60 (5 * x + 1) - J 74 (4 * (t - 1) + x))
    (hsE : I (32 + x) t = N) (hF : I (27 + x) t = J 74 (4 * t + x)) (hF1 : I (27 + x) (t - 1) = J 74 (4 * (t - 1) + x)) (still : Bool) :
    ∃ (v1 v2 v0 : Int32) (J19 J23 J25 J30 J48 J49 I1 : zI),
      Cv X (d + 3) 149 [.ref 57, .int 1, .int (zi x), .int A, .int B, .int N, .int (zi t)] G J (some (.int (fin 1 v1)), G, J19) ∧ J23 = z_up J19 75 x (J 75 x + fin 1 v1) ∧
      Cv X (d + 3) 149 [.ref 57, .int 2, .int (zi x), .int A, .int B, .int N, .int (zi t)] G J23 (some (.int (fin 2 v2)), G, J25) ∧ J30 = z_up J25 76 x (J23 76 x ||| (if fin 2 v2 = 1 then 1 <<< (zi t &&& 31) else 0)) ∧
      J48 = z_up J30 77 x (J30 77 x + (if -A < f_T_scaldsFrom (J 58 x) (J 59 x) then 0 else 1)) ∧
      Cv X (d + 3) 149 [.ref 57, .int 0, .int (zi x), .int A, .int B, .int N, .int (zi t)] G J48 (some (.int (fin 0 v0)), G, J49) ∧
      (∀ k, k ≠ 71 → k ≠ 72 → J19 k = J k) ∧ (∀ k, k ≠ 71 → k ≠ 72 → J25 k = J23 k) ∧ (∀ k, k ≠ 71 → k ≠ 72 → J49 k = J48 k) ∧
      Cv X (d + 3) 67 [.ref 25, .ref o, .ref w, .int (zi t), .int (zi x), .int (if still then 1 else 0)] G I (none, G, I1) ∧
      (∀ c, c ≠ w + 3 → c ≠ w + 4 → c ≠ 32 + x → c ≠ 36 → c ≠ 37 → c ≠ 38 → I1 c = I c) ∧
      (I1 36 = fun k => if k = x then I 36 x + fin 1 v1 else I 36 k) ∧
      (I1 37 = fun k => if k = x then (if fin 2 v2 = 1 then I 37 x ||| (1 <<< (zi t &&& 31)) else I 37 x) else I 37 k) ∧
      (I1 38 = fun k => if k = x then (if -A < f_T_scaldsFrom (J 58 x) (J 59 x) then I 38 x else I 38 x + 1) else I 38 k) ∧
      (I1 (32 + x) = fun k => if k = t + 1 ∧ still = false then f_T_bounded (N + tb (J 58 x) (J 59 x) (fin 0 v0 * J 60 (5 * x + 3) / 8)) 0 999 else I (32 + x) k) := by
  have lw := hT.1
  obtain ⟨I16, ch, f16, n0, n1, n2, n3, n4, n5⟩ := c_hear (X := X) (d := d + 2) (I := I) lw A B N (zi t) (J 60 (5 * x)) (J 59 x)
  have T16 : TR G I16 J w t0 := hT.fr (f16 _ (by omega)) (f16 _ (by omega)) rfl rfl
  obtain ⟨v1, I19, J19, c1, z1, g19, h19⟩ := says_sim (X := X) (d := d) hS (a := A) (b := B) (c := N) (e := zi t) (p := 1) T16 (by omega) hx hr n0 n1 n2 n3 n4 n5
  obtain ⟨I23, e23⟩ : ∃ I23 : zI, I23 = z_up I19 36 x (I16 36 x + fin 1 v1) := ⟨_, rfl⟩
  obtain ⟨J23, k23⟩ : ∃ J23 : zI, J23 = z_up J19 75 x (J 75 x + fin 1 v1) := ⟨_, rfl⟩
  have F23 : ∀ c, c ≠ 36 → c ≠ w + 4 → I23 c = I16 c := fun c h h2 => by rw [e23, up_cell h, g19 c h2]
  have K23 : ∀ c, c ≠ 75 → c ≠ 71 → c ≠ 72 → J23 c = J c := fun c h h2 h3 => by rw [k23, up_cell h, h19 c h2 h3]
  have T23 : TR G I23 J23 w t0 := T16.fr (F23 _ (by omega) (by omega)) (F23 _ (by omega) (by omega)) (K23 _ (by decide) (by decide) (by decide)) (K23 _ (by decide) (by decide) (by decide))
  have w23 : I23 (w + 3) = I16 (w + 3) := F23 _ (by omega) (by omega)
  have q57 : J23 57 = J 57 := K23 _ (by decide) (by decide) (by decide)
  have q60 : J23 60 = J 60 := K23 _ (by decide) (by decide) (by decide)
  have q59 : J23 59 = J 59 := K23 _ (by decide) (by decide) (by decide)
  obtain ⟨v2, I24, J25, c2, z2, g24, h25⟩ := says_sim (X := X) (d := d) hS (a := A) (b := B) (c := N) (e := zi t) (p := 2) T23 (by omega) hx (by rw [q57]; exact hr) (by rw [w23]; exact n0) (by rw [w23]; exact n1) (by rw [w23]; exact n2) (by rw [w23]; exact n3) (by rw [w23, q60]; exact n4) (by rw [w23, q59]; exact n5)
  obtain ⟨I25, e25⟩ : ∃ I25 : zI, I25 = if fin 2 v2 = 1 then z_up I24 37 x (I24 37 x ||| (1 <<< (zi t &&& 31))) else I24 := ⟨_, rfl⟩
  obtain ⟨J30, k30⟩ : ∃ J30 : zI, J30 = z_up J25 76 x (J23 76 x ||| (if fin 2 v2 = 1 then 1 <<< (zi t &&& 31) else 0)) := ⟨_, rfl⟩
  obtain ⟨I26, e26⟩ : ∃ I26 : zI, I26 = if -A < f_T_scaldsFrom (J 58 x) (J 59 x) then I25 else z_up I25 38 x (I25 38 x + 1) := ⟨_, rfl⟩
  obtain ⟨J48, k48⟩ : ∃ J48 : zI, J48 = z_up J30 77 x (J30 77 x + (if -A < f_T_scaldsFrom (J 58 x) (J 59 x) then 0 else 1)) := ⟨_, rfl⟩
  have F25 : ∀ c, c ≠ 37 → I25 c = I24 c := fun c h => by
    rw [e25]; split
    · exact up_cell h
    · rfl
  have F26 : ∀ c, c ≠ 38 → I26 c = I25 c := fun c h => by
    rw [e26]; split
    · rfl
    · exact up_cell h
  have F26a : ∀ c, c ≠ 36 → c ≠ 37 → c ≠ 38 → c ≠ w + 4 → I26 c = I16 c := fun c h h2 h3 h4 => by rw [F26 c h3, F25 c h2, g24 c h4, F23 c h h4]
  have F24a : ∀ c, c ≠ 36 → c ≠ w + 4 → I24 c = I16 c := fun c h h4 => by rw [g24 c h4, F23 c h h4]
  have F25a : ∀ c, c ≠ 36 → c ≠ 37 → c ≠ w + 4 → I25 c = I16 c := fun c h h2 h4 => by rw [F25 c h2, F24a c h h4]
  have K48 : ∀ c, c ≠ 75 → c ≠ 76 → c ≠ 77 → c ≠ 71 → c ≠ 72 → J48 c = J c := fun c h h2 h3 h4 h5 => by rw [k48, up_cell h3, k30, up_cell h2, h25 c h4 h5, K23 c h h4 h5]
  have T26 : TR G I26 J48 w t0 := T16.fr (F26a _ (by omega) (by omega) (by omega) (by omega)) (F26a _ (by omega) (by omega) (by omega) (by omega)) (K48 _ (by decide) (by decide) (by decide) (by decide) (by decide)) (K48 _ (by decide) (by decide) (by decide) (by decide) (by decide))
  have w26 : I26 (w + 3) = I16 (w + 3) := F26a _ (by omega) (by omega) (by omega) (by omega)
  have r57 : J48 57 = J 57 := K48 _ (by decide) (by decide) (by decide) (by decide) (by decide)
  have r60 : J48 60 = J 60 := K48 _ (by decide) (by decide) (by decide) (by decide) (by decide)
  have r59 : J48 59 = J 59 := K48 _ (by decide) (by decide) (by decide) (by decide) (by decide)
  obtain ⟨v0, I27, J49, c0, z0, g27, h49⟩ := says_sim (X := X) (d := d) hS (a := A) (b := B) (c := N) (e := zi t) (p := 0) T26 (by omega) hx (by rw [r57]; exact hr) (by rw [w26]; exact n0) (by rw [w26]; exact n1) (by rw [w26]; exact n2) (by rw [w26]; exact n3) (by rw [w26, r60]; exact n4) (by rw [w26, r59]; exact n5)
  obtain ⟨I1, e1⟩ : ∃ I1 : zI, I1 = if still then I26 else z_up I27 (32 + x) (t + 1) (f_T_bounded (N + tb (J 58 x) (J 59 x) (fin 0 v0 * J 60 (5 * x + 3) / 8)) 0 999) := ⟨_, rfl⟩
  have F1 : ∀ c, c ≠ 32 + x → c ≠ w + 4 → I1 c = I26 c := fun c h h2 => by
    rw [e1]; split
    · rfl
    · rw [up_cell h, g27 c h2]
  refine ⟨v1, v2, v0, J19, J23, J25, J30, J48, J49, I1, z1, k23, z2, k30, k48, z0, h19, h25, h49, ?_, ?_, ?_, ?_, ?_, ?_⟩
  · have kk : ∀ Iz : zI, (∀ c, c ≠ 36 → c ≠ 37 → c ≠ 38 → c ≠ w + 4 → Iz c = I16 c) → Iz (o + (0 + 1)) x = J 58 x ∧ Iz (o + (1 + 1)) x = J 59 x ∧ Iz (o + (5 + 1)) x = J 60 (5 * x + 3) ∧ Iz (32 + x) t = N := by
      intro Iz h
      refine ⟨?_, ?_, ?_, ?_⟩
      · rw [h _ (by omega) (by omega) (by omega) (by omega), f16 _ (by omega)]; exact hX.kind
      · rw [h _ (by omega) (by omega) (by omega) (by omega), f16 _ (by omega)]; exact hX.more
      · rw [h _ (by omega) (by omega) (by omega) (by omega), f16 _ (by omega)]; exact hX.haste
      · rw [h _ (by omega) (by omega) (by omega) (by omega), f16 _ (by omega)]; exact hsE
    have k24 := kk I24 (fun c h _ _ h4 => F24a c h h4)
    have k25 := kk I25 (fun c h h2 _ h4 => F25a c h h2 h4)
    have k27 := kk I27 (fun c h h2 h3 h4 => by rw [g27 c h4]; exact F26a c h h2 h3 h4)
    have et1 : zi t + 1 = zi (t + 1) := zi_add (b := 1)
    have em1 : (if 0 < zi t - 1 then zi t - 1 else 0) = zi (t - 1) := by
      rcases Nat.eq_zero_or_pos t with e0 | e0
      · rw [e0]; decide
      · rw [show zi t - 1 = zi (t - 1) from zi_sub (b := 1) (by omega)]; exact max0 (by rw [zi_int (by omega)]; omega)
    have eW : I (o + (3 + 1)) x = J 60 (5 * x + 1) := hX.want
    have eL : I (o + (2 + 1)) x = J 60 (5 * x) := hX.late
    have eM : I (o + (1 + 1)) x = J 59 x := hX.more
    have tail : ((if still then (1 : Int32) else 0) = 0 → ∃ (r34 : Int32) (I32 : zI), Cv X (d + 2) 50 [.ref w, .int 0] G I26 (some (.int r34), G, I32) ∧ (z_inr (zi x) 4 ∧ (∀ y36 : Int32, y36 = ((r34 * (I32 (o + (5 + 1)) x)) / 8) → z_inr (zi x) 4 ∧ (z_inr (zi x) 4 ∧ (z_inr (zi t) 31 ∧ (z_inr (zi x) 4 ∧ (z_inr (zi x) 4 ∧ (∃ (r46 : Int32) (I44 : zI), Cv X (d + 2) 68 [.int (I32 (o + (0 + 1)) x), .int (I32 (o + (1 + 1)) x), .int y36] G I32 (some (.int r46), G, I44) ∧ (z_inr (zi (t + 1)) 31 ∧ (∀ I48 : zI, I48 = z_up I44 (32 + x) (t + 1) (f_T_bounded ((I32 (32 + x) t) + r46) 0 999) → ((none : Option Value), G, I1) = (none, G, I48))))))))))) ∧ (¬ (if still then (1 : Int32) else 0) = 0 → ((none : Option Value), G, I1) = (none, G, I26)) := by
      refine ⟨fun h => ⟨_, I27, c0, zi_inr (by omega) (by omega), fun y hy => ⟨zi_inr (by omega) (by omega), zi_inr (by omega) (by omega), zi_inr (by omega) (by omega), zi_inr (by omega) (by omega), zi_inr (by omega) (by omega), ?_⟩⟩, fun h => ?_⟩
      · rw [k27.2.2.1] at hy
        rw [k27.1, k27.2.1, k27.2.2.2]
        refine ⟨_, I27, c_turnedBy hX.rm, zi_inr (by omega) (by omega), fun I48 h48 => ?_⟩
        rw [h48, e1, hy]
        cases still
        · rfl
        · exact absurd h (by decide)
      · rw [e1]
        cases still
        · exact absurd rfl h
        · rfl
    refine Cv.of hq_67 (z_le rfl) rfl (wp_M_liveBeat o w _ _ _ hS ho lw ?_)
    rw [zi_nat (show x < _ by omega), zi_nat (show t < _ by omega), em1, zi_nat (show t - 1 < _ by omega), et1, zi_nat (show t + 1 < _ by omega), eW, eL, eM, hsE, hF, hF1, ← hA, ← hB]
    refine ⟨zi_inr (by omega) (by omega), zi_inr (by omega) (by omega), zi_inr (by omega) (by omega), fun y5 h5 => ⟨zi_inr (by omega) (by omega), zi_inr (by omega) (by omega), zi_inr (by omega) (by omega), fun y10 h10 => ⟨zi_inr (by omega) (by omega), zi_inr (by omega) (by omega), zi_inr (by omega) (by omega), zi_inr (by omega) (by omega), I16, ?_, zi_inr (by omega) (by omega), fin 1 v1, I19, c1, zi_inr (by omega) (by omega), fun Ia ha => ⟨fin 2 v2, I24, ?_, ?_⟩⟩⟩⟩
    · rw [h5, h10]; exact ch
    · rw [ha, ← e23]; exact c2
    · rw [h5, k24.1, k24.2.1]
      refine ⟨fun hc => ⟨zi_inr (by omega) (by omega), zi_inr (by omega) (by omega), fun hs => ?_, fun hs => ⟨zi_inr (by omega) (by omega), zi_inr (by omega) (by omega), fun Ib hb => ?_⟩⟩, fun hc => ⟨zi_inr (by omega) (by omega), zi_inr (by omega) (by omega), fun Ib hb => ⟨zi_inr (by omega) (by omega), zi_inr (by omega) (by omega), ?_⟩⟩⟩
      · have e : I26 = I24 := by rw [e26, if_pos hs, e25, if_neg hc]
        rw [e] at tail; exact tail
      · have e : I26 = Ib := by rw [e26, if_neg hs, e25, if_neg hc, hb]
        rw [e] at tail; exact tail
      · have eb : Ib = I25 := by rw [hb, e25, if_pos hc]
        subst eb
        rw [k25.1, k25.2.1]
        refine ⟨fun hs => ?_, fun hs => ⟨zi_inr (by omega) (by omega), zi_inr (by omega) (by omega), fun Ic hc2 => ?_⟩⟩
        · have e : I26 = Ib := by rw [e26, if_pos hs]
          rw [e] at tail; exact tail
        · have e : I26 = Ic := by rw [e26, if_neg hs, hc2]
          rw [e] at tail; exact tail
  · intro c h h2 h3 h4 h5 h6
    rw [F1 c h3 h2, F26a c h4 h5 h6 h2, f16 c h]
  · rw [F1 36 (by omega) (by omega), F26 36 (by omega), F25 36 (by omega), g24 36 (by omega)]
    funext k
    by_cases hk : k = x
    · rw [e23, hk, up_same, if_pos rfl, f16 36 (by omega)]
    · rw [e23, up_place hk, if_neg hk, g19 36 (by omega), f16 36 (by omega)]
  · rw [F1 37 (by omega) (by omega), F26 37 (by omega)]
    have e24 : I24 37 = I 37 := by rw [F24a 37 (by omega) (by omega), f16 37 (by omega)]
    funext k
    by_cases hc : fin 2 v2 = 1
    · rw [e25, if_pos hc, if_pos hc]
      by_cases hk : k = x
      · rw [hk, up_same, if_pos rfl, e24]
      · rw [up_place hk, if_neg hk, e24]
    · rw [e25, if_neg hc, if_neg hc, e24]
      by_cases hk : k = x
      · rw [hk, if_pos rfl]
      · rw [if_neg hk]
  · rw [F1 38 (by omega) (by omega)]
    have e25' : I25 38 = I 38 := by rw [F25 38 (by omega), F24a 38 (by omega) (by omega), f16 38 (by omega)]
    funext k
    by_cases hs : -A < f_T_scaldsFrom (J 58 x) (J 59 x)
    · rw [e26, if_pos hs, if_pos hs, e25']
      by_cases hk : k = x
      · rw [hk, if_pos rfl]
      · rw [if_neg hk]
    · rw [e26, if_neg hs, if_neg hs]
      by_cases hk : k = x
      · rw [hk, up_same, if_pos rfl, e25']
      · rw [up_place hk, if_neg hk, e25']
  · have e26' : I26 (32 + x) = I (32 + x) := by rw [F26a _ (by omega) (by omega) (by omega) (by omega), f16 _ (by omega)]
    funext k
    rw [e1]
    cases still
    · show z_up I27 (32 + x) (t + 1) (f_T_bounded (N + tb (J 58 x) (J 59 x) (fin 0 v0 * J 60 (5 * x + 3) / 8)) 0 999) (32 + x) k = _
      by_cases hk : k = t + 1
      · rw [if_pos ⟨hk, rfl⟩, hk]; exact up_same
      · rw [if_neg (fun h => hk h.1), up_place hk, g27 _ (by omega), e26']
    · show I26 (32 + x) k = _
      rw [if_neg (fun h => Bool.noConfusion h.2), e26']
