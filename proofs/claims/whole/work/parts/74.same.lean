/-! THE DESCENT AND THE SIGNS SAY THE SAME -/
def sK (K : Nat) : Nat := if K = 2 then 0 else if K = 4 then 1 else if K = 7 then 5 else 6
def WQ (tk nm : Nat → Nat) (K i o j : Nat) (q : Option (List Nat)) : Prop := o ≤ 5 → (isL K → Pst (sK K) (tk i) ∧ ¬ Bd K (tk i)) → WP tk nm K i o j q
section
variable {tk nm : Nat → Nat}
theorem cnt_sg {g : Nat} {H : List Nat} (h : 11 ≤ g) (h2 : g ≠ 13) (h3 : g ≠ 19) : cntH (g :: H) = cntH H := by
  rw [cntH, if_neg (by omega)]; omega
/-- a thing, then its loop -/
theorem wq_then {f K a b i o j : Nat} {q : Option (List Nat)} (hK : (K = 1 ∧ a = 0 ∧ b = 2) ∨ (K = 3 ∧ a = 1 ∧ b = 4) ∨ (K = 6 ∧ a = 5 ∧ b = 7) ∨ (K = 8 ∧ a = 6 ∧ b = 9))
    (iha : ∀ j q, rd tk nm f a i o = some (j, q) → WQ tk nm a i o j q) (ihb : ∀ i j q, rd tk nm f b i o = some (j, q) → WQ tk nm b i o j q)
    (h : rThen (rd tk nm f a i o) (fun j => rd tk nm f b j o) = some (j, q)) : WQ tk nm K i o j q := by
  intro ho _ H out mn hc ht
  have nla : ¬ isL a := by unfold isL; omega
  have nlK : ¬ isL K := by unfold isL; omega
  have lb : isL b := by unfold isL; omega
  have mk : mnOK K (tk i) mn → mnOK a (tk i) mn := by unfold mnOK; intro h; refine ⟨fun h1 => ?_, fun h1 => ?_⟩
                                                      · exact fun h2 => h.1 (by omega) h2
                                                      · exact h.2 (by omega)
  have la : tp H < lvl a := by rcases hK with ⟨rfl, rfl, rfl⟩ | ⟨rfl, rfl, rfl⟩ | ⟨rfl, rfl, rfl⟩ | ⟨rfl, rfl, rfl⟩ <;> simp [lvl] at ht ⊢ <;> omega
  have lb2 : tp H < lvl b := by rcases hK with ⟨rfl, rfl, rfl⟩ | ⟨rfl, rfl, rfl⟩ | ⟨rfl, rfl, rfl⟩ | ⟨rfl, rfl, rfl⟩ <;> simp [lvl] at ht ⊢ <;> omega
  rcases rThen_inv h with ⟨e1, rfl⟩ | ⟨j1, s1, q', e1, e2, rfl⟩
  · obtain ⟨w1, -⟩ := iha _ _ e1 ho (fun h => absurd h nla) H out mn hc la
    exact ⟨fun _ => ⟨fun _ m => (w1 rfl).1 nla (mk m), fun h => absurd h nlK⟩, fun s h => by cases h⟩
  · obtain ⟨-, w2⟩ := iha _ _ e1 ho (fun h => absurd h nla) H out mn hc la
    obtain ⟨p1, p2, p3⟩ := w2 s1 rfl
    by_cases hb : Bd a (tk j1)
    · -- the loop ends at once
      have e3 : rd tk nm f b j1 o = some (j1, some []) := by
        cases f with
        | zero => cases e2
        | succ f =>
          rcases hK with ⟨rfl, rfl, rfl⟩ | ⟨rfl, rfl, rfl⟩ | ⟨rfl, rfl, rfl⟩ | ⟨rfl, rfl, rfl⟩
          · exact absurd hb.1 (by omega)
          · exact absurd hb.1 (by omega)
          · rw [rd, if_neg (by have := hb.2; omega)]
          · rw [rd, if_neg (by have := hb.2; omega)]
      rw [e3] at e2
      cases e2
      refine ⟨(fun h => by cases h), fun s hs => ?_⟩
      have hBK : Bd K (tk j) := ⟨by have := hb.1; omega, hb.2⟩
      refine ⟨?_, fun h => absurd hBK h, fun _ => ⟨fun _ m => (p3 hb).1 nla (mk m), fun h => absurd h nlK⟩⟩
      have := hb.2
      unfold Pst
      omega
    · have hb2 : ¬ Bd b (tk j1) := fun e => hb ⟨by rcases hK with ⟨rfl, rfl, rfl⟩ | ⟨rfl, rfl, rfl⟩ | ⟨rfl, rfl, rfl⟩ | ⟨rfl, rfl, rfl⟩ <;> have := e.1 <;> omega, e.2⟩
      have hsk : sK b = a := by rcases hK with ⟨rfl, rfl, rfl⟩ | ⟨rfl, rfl, rfl⟩ | ⟨rfl, rfl, rfl⟩ | ⟨rfl, rfl, rfl⟩ <;> rfl
      have hB : ∀ mn', _ := fun mn' => ihb _ _ _ e2 ho (fun _ => ⟨by rw [hsk]; exact p1, hb2⟩) H (out ++ s1) mn' hc lb2
      have hbk : ∀ t, Bd b t ↔ Bd K t := fun t => by unfold Bd; omega
      have hpk : ∀ t, Pst b t → Pst K t := fun t hps => by
        unfold Pst at hps ⊢; omega
      have up : ∀ r, (∀ mn', Sy tk nm false mn' j1 H (out ++ s1) r) → St tk nm K mn i H out r := fun r k => ⟨fun _ m => (p2 hb r k).1 nla (mk m), fun h => absurd h nlK⟩
      refine ⟨fun hq => ?_, fun s hs => ?_⟩
      · cases q' with
        | none => exact up _ fun mn' => ((hB mn').1 rfl).2 lb
        | some s' => cases hq
      · cases q' with
        | none => cases hs
        | some s' =>
          cases hs
          have e5 := fun mn' => (hB mn').2 s' rfl
          refine ⟨hpk _ (e5 true).1, fun hnb r k => up r fun mn' => ((e5 mn').2.1 (fun e => hnb ((hbk _).1 e)) r (fun m2 => by rw [List.append_assoc]; exact k m2)).2 lb, fun hbd => up _ fun mn' => ((e5 mn').2.2 ((hbk _).2 hbd)).2 lb⟩
/-- a loop: its sign, a thing, the loop again -/
theorem wq_loop {f K a g i o j : Nat} {q : Option (List Nat)} (hK : (K = 2 ∧ a = 0 ∧ tk i = 8 ∧ g = 18) ∨ (K = 4 ∧ a = 1 ∧ (tk i = 6 ∨ tk i = 7) ∧ g = sgo (tk i)) ∨ (K = 7 ∧ a = 5 ∧ tk i = 15 ∧ g = 12) ∨ (K = 9 ∧ a = 6 ∧ tk i = 14 ∧ g = 11))
    (iha : ∀ i j q, rd tk nm f a i o = some (j, q) → WQ tk nm a i o j q) (ihb : ∀ i j q, rd tk nm f K i o = some (j, q) → WQ tk nm K i o j q)
    (h : rThen (rAdd (rd tk nm f a (i + 1) o) [g]) (fun j => rd tk nm f K j o) = some (j, q)) : WQ tk nm K i o j q := by
  intro ho _ H out mn hc ht
  have nla : ¬ isL a := by unfold isL; omega
  have lK : isL K := by unfold isL; omega
  have hsk : sK K = a := by rcases hK with ⟨rfl, rfl, -⟩ | ⟨rfl, rfl, -⟩ | ⟨rfl, rfl, -⟩ | ⟨rfl, rfl, -⟩ <;> rfl
  have hg : g = sgo (tk i) ∧ 11 ≤ g ∧ g ≠ 13 ∧ g ≠ 19 ∧ rk g < lvl a ∧ (tk i = 14 ∨ tk i = 15 ∨ tk i = 9 ∨ tk i = 10 ∨ tk i = 6 ∨ tk i = 7 ∨ tk i = 8) ∧ ¬ (tk i = 9 ∨ tk i = 10) ∧ thr (tk i) = lvl K := by
    rcases hK with ⟨rfl, rfl, e, rfl⟩ | ⟨rfl, rfl, e | e, rfl⟩ | ⟨rfl, rfl, e, rfl⟩ | ⟨rfl, rfl, e, rfl⟩ <;> rw [e] <;> decide
  obtain ⟨g1, g2, g3, g4, g5, g6, g7, g8⟩ := hg
  have un : unw (thr (tk i)) H out = (H, out) := unw_nop (by rw [g8]; exact ht)
  have step : ∀ r, Sy tk nm true (decide (tk i = 14 ∨ tk i = 15)) (i + 1) (g :: H) out r → St tk nm K mn i H out r := fun r k => ⟨fun h => absurd lK h, fun _ => Sy_sign g6 (fun e => g7 e.1) (by rw [un, ← g1]; exact k)⟩
  have mo : mnOK a (tk (i + 1)) (decide (tk i = 14 ∨ tk i = 15)) := by
    rcases hK with ⟨rfl, rfl, e, rfl⟩ | ⟨rfl, rfl, e | e, rfl⟩ | ⟨rfl, rfl, e, rfl⟩ | ⟨rfl, rfl, e, rfl⟩ <;> rw [e] <;> simp [mnOK]
  have cg : cntH (g :: H) = o := (cnt_sg g2 g3 g4).trans hc
  rcases rThen_inv h with ⟨e1, rfl⟩ | ⟨j1, s0, q', e1, e2, rfl⟩
  · obtain ⟨q1, e3, e4⟩ := rAdd_inv e1
    have : q1 = none := by cases q1 with
      | none => rfl
      | some s => cases e4
    subst this
    obtain ⟨w1, -⟩ := iha _ _ _ e3 ho (fun h => absurd h nla) (g :: H) out (decide (tk i = 14 ∨ tk i = 15)) cg g5
    exact ⟨fun _ => step _ ((w1 rfl).1 nla mo), fun s h => by cases h⟩
  · obtain ⟨q1, e3, e4⟩ := rAdd_inv e1
    cases q1 with
    | none => cases e4
    | some s1 =>
    cases e4
    obtain ⟨-, w2⟩ := iha _ _ _ e3 ho (fun h => absurd h nla) (g :: H) out (decide (tk i = 14 ∨ tk i = 15)) cg g5
    obtain ⟨p1, p2, p3⟩ := w2 s1 rfl
    by_cases hb : Bd a (tk j1)
    · have e5 : rd tk nm f K j1 o = some (j1, some []) := by
        cases f with
        | zero => cases e2
        | succ f =>
          rcases hK with ⟨rfl, rfl, -⟩ | ⟨rfl, rfl, -⟩ | ⟨rfl, rfl, -⟩ | ⟨rfl, rfl, -⟩
          · exact absurd hb.1 (by omega)
          · exact absurd hb.1 (by omega)
          · rw [rd, if_neg (by have := hb.2; omega)]
          · rw [rd, if_neg (by have := hb.2; omega)]
      rw [e5] at e2
      cases e2
      refine ⟨(fun h => by cases h), fun s hs => ?_⟩
      have hBK : Bd K (tk j) := ⟨by have := hb.1; omega, hb.2⟩
      refine ⟨?_, fun h => absurd hBK h, fun _ => step _ ((p3 hb).1 nla mo)⟩
      have := hb.2
      unfold Pst
      omega
    · have hb2 : ¬ Bd K (tk j1) := fun e => hb ⟨by rcases hK with ⟨rfl, rfl, -⟩ | ⟨rfl, rfl, -⟩ | ⟨rfl, rfl, -⟩ | ⟨rfl, rfl, -⟩ <;> have := e.1 <;> omega, e.2⟩
      have lt : thr (tk j1) ≤ rk g := by
        have t1 := thr_le (tk j1)
        rcases hK with ⟨rfl, rfl, e, rfl⟩ | ⟨rfl, rfl, e | e, rfl⟩ | ⟨rfl, rfl, e, rfl⟩ | ⟨rfl, rfl, e, rfl⟩
        · exact t1.2
        · rw [e]; unfold Pst at p1; show thr _ ≤ 5; unfold thr; repeat' split
          all_goals omega
        · rw [e]; unfold Pst at p1; show thr _ ≤ 5; unfold thr; repeat' split
          all_goals omega
        · unfold Pst at p1; unfold Bd at hb; show thr _ ≤ 2; unfold thr; repeat' split
          all_goals omega
        · unfold Pst at p1; unfold Bd at hb; show thr _ ≤ 1; unfold thr; repeat' split
          all_goals omega
      have hB : ∀ mn', _ := fun mn' => ihb _ _ _ e2 ho (fun _ => ⟨by rw [hsk]; exact p1, hb2⟩) H (out ++ s1 ++ [g]) mn' hc ht
      have up : ∀ r, (∀ mn', Sy tk nm false mn' j1 H (out ++ s1 ++ [g]) r) → St tk nm K mn i H out r := fun r k => step r ((p2 hb r (fun mn' => Sy_swap (unw_pop lt) (k mn'))).1 nla mo)
      refine ⟨fun hq => ?_, fun s hs => ?_⟩
      · cases q' with
        | none => exact up _ fun mn' => ((hB mn').1 rfl).2 lK
        | some s' => cases hq
      · cases q' with
        | none => cases hs
        | some s' =>
          cases hs
          have e5 := fun mn' => (hB mn').2 s' rfl
          refine ⟨(e5 true).1, fun hnb r k => up r fun mn' => ((e5 mn').2.1 hnb r (fun m2 => by
            have := k m2
            simp only [List.append_assoc] at this ⊢
            exact this)).2 lK, fun hbd => up _ fun mn' => ((e5 mn').2.2 hbd).2 lK⟩
/-- a loop that ends -/
theorem wq_stop {K i o : Nat} (lK : isL K) (h : (K = 2 ∧ tk i ≠ 8) ∨ (K = 4 ∧ ¬ (tk i = 6 ∨ tk i = 7)) ∨ (K = 7 ∧ tk i ≠ 15) ∨ (K = 9 ∧ tk i ≠ 14)) : WQ tk nm K i o i (some []) := by
  intro ho hp H out mn hc ht
  obtain ⟨p1, p2⟩ := hp lK
  refine ⟨(fun h => by cases h), fun s hs => ?_⟩
  cases hs
  refine ⟨?_, fun _ r k => ⟨fun h => absurd lK h, fun _ => by have := k mn; rw [List.append_nil] at this; exact this⟩, fun h => absurd h p2⟩
  have e : sK K = if K = 2 then 0 else if K = 4 then 1 else if K = 7 then 5 else 6 := rfl
  unfold Pst at p1 ⊢
  rcases h with ⟨rfl, h⟩ | ⟨rfl, h⟩ | ⟨rfl, h⟩ | ⟨rfl, h⟩ <;> simp at e <;> omega
theorem wq_all : ∀ f K i o j q, rd tk nm f K i o = some (j, q) → WQ tk nm K i o j q := by
  intro f
  induction f with
  | zero => intro K i o j q h; cases h
  | succ f ih =>
    intro K i o j q h
    match K, h with
    | 0, h =>
      intro ho _ H out mn hc ht
      have nl : ¬ isL 0 := by unfold isL; omega
      have nB : ∀ t, ¬ Bd 0 t := fun t e => absurd e.1 (by omega)
      have P0 : ∀ t, Pst 0 t := fun t => ⟨by omega, by omega, by omega, by omega⟩
      rw [rd] at h
      by_cases h1 : tk i = 2
      · rw [if_pos h1] at h
        cases h
        exact ⟨(fun h => by cases h), fun s hs => by cases hs; exact ⟨P0 _, fun _ r k => ⟨fun _ _ => Sy_one (Or.inl ⟨h1, rfl⟩) (k mn), fun h => absurd h nl⟩, fun h => absurd h (nB _)⟩⟩
      rw [if_neg h1] at h
      by_cases h2 : 17 ≤ tk i ∧ tk i ≤ 22
      · rw [if_pos h2] at h
        cases h
        exact ⟨(fun h => by cases h), fun s hs => by cases hs; exact ⟨P0 _, fun _ r k => ⟨fun _ _ => Sy_one (Or.inr ⟨h2.1, h2.2, rfl⟩) (k mn), fun h => absurd h nl⟩, fun h => absurd h (nB _)⟩⟩
      rw [if_neg h2] at h
      by_cases h3 : tk i = 7
      · rw [if_pos h3] at h
        by_cases h5 : o < 5
        · rw [if_pos h5] at h
          obtain ⟨q1, e3, rfl⟩ := rAdd_inv h
          have hcn : cntH (19 :: H) = o + 1 := by rw [cntH, if_pos (by omega)]; omega
          obtain ⟨w1, w2⟩ := ih _ _ _ _ _ e3 (by omega) (fun h => absurd h nl) (19 :: H) out false hcn (by show rk 19 < 8; decide)
          have mo : mnOK 0 (tk (i + 1)) false := ⟨(fun _ h => by cases h), (fun h => by omega)⟩
          have up : ∀ r, St tk nm 0 false (i + 1) (19 :: H) out r → St tk nm 0 mn i H out r := fun r k => ⟨fun _ _ => Sy_open (Or.inr (Or.inl ⟨h3, rfl, rfl⟩)) (by omega) (k.1 nl mo), fun h => absurd h nl⟩
          cases q1 with
          | none => exact ⟨fun _ => up _ (w1 rfl), (fun s h => by cases h)⟩
          | some s1 =>
            refine ⟨(fun h => by cases h), fun s hs => ?_⟩
            cases hs
            exact ⟨P0 _, fun _ r k => up r ((w2 s1 rfl).2.1 (nB _) r (fun m2 => Sy_swap (unw_pop (by have := thr_le (tk j); show _ ≤ 7; omega)) (by rw [List.append_assoc]; exact k m2))), fun h => absurd h (nB _)⟩
        · rw [if_neg h5] at h
          cases h
          exact ⟨fun _ => ⟨fun _ _ => Sy_full (Or.inr (Or.inl h3)) (by omega), fun h => absurd h nl⟩, (fun s h => by cases h)⟩
      rw [if_neg h3] at h
      by_cases h4 : tk i = 3
      · rw [if_pos h4] at h
        by_cases h5 : o < 5
        · rw [if_pos h5] at h
          have hcn : cntH (0 :: H) = o + 1 := by rw [cntH, if_pos (by omega)]; omega
          have nl8 : ¬ isL 8 := by unfold isL; omega
          have mo : mnOK 8 (tk (i + 1)) true := ⟨(fun h => by omega), fun _ => rfl⟩
          have up : ∀ r, St tk nm 8 true (i + 1) (0 :: H) out r → St tk nm 0 mn i H out r := fun r k => ⟨fun _ _ => Sy_open (Or.inr (Or.inr ⟨h4, rfl, rfl⟩)) (by omega) (k.1 nl8 mo), fun h => absurd h nl⟩
          have un : ∀ t o', unw (thr t) (0 :: H) o' = (0 :: H, o') := fun t o' => unw_nop (by have := thr_le t; show rk 0 < thr t; have e : rk 0 = 0 := rfl; omega)
          match e3 : rd tk nm f 8 (i + 1) (o + 1), h with
          | some (j1, none), h =>
            cases h
            obtain ⟨w1, w2⟩ := ih _ _ _ _ _ e3 (by omega) (fun h => absurd h nl8) (0 :: H) out true hcn (by show rk 0 < 1; decide)
            exact ⟨fun _ => up _ (w1 rfl), (fun s h => by cases h)⟩
          | some (j1, some s1), h =>
            obtain ⟨w1, w2⟩ := ih _ _ _ _ _ e3 (by omega) (fun h => absurd h nl8) (0 :: H) out true hcn (by show rk 0 < 1; decide)
            obtain ⟨p1, p2, p3⟩ := w2 s1 rfl
            dsimp only at h
            by_cases h6 : tk j1 = 4
            · rw [if_pos h6] at h
              cases h
              refine ⟨(fun h => by cases h), fun s hs => ?_⟩
              cases hs
              exact ⟨P0 _, fun _ r k => up r (p2 (fun e => absurd e.2 (by omega)) r (fun m2 => Sy_shut h6 (un _ _) (k m2))), fun h => absurd h (nB _)⟩
            · rw [if_neg h6] at h
              cases h
              refine ⟨fun _ => ?_, (fun s h => by cases h)⟩
              by_cases hb : Bd 8 (tk j)
              · exact up _ (p3 hb)
              · refine up _ (p2 hb _ (fun m2 => Sy_bad2 (un _ _) h6 ?_))
                unfold Bd at hb
                unfold Pst at p1
                omega
          | none, h => cases h
        · rw [if_neg h5] at h
          cases h
          exact ⟨fun _ => ⟨fun _ _ => Sy_full (Or.inr (Or.inr h4)) (by omega), fun h => absurd h nl⟩, (fun s h => by cases h)⟩
      rw [if_neg h4] at h
      cases h
      exact ⟨fun _ => ⟨fun _ m => Sy_bad1 h1 h2 (fun e => m.1 (by omega) e) h3 h4, fun h => absurd h nl⟩, (fun s h => by cases h)⟩
    | 1, h => exact wq_then (a := 0) (b := 2) (Or.inl ⟨rfl, rfl, rfl⟩) (fun j q e => ih _ _ _ _ _ e) (fun i j q e => ih _ _ _ _ _ e) h
    | 2, h =>
      rw [rd] at h
      by_cases h1 : tk i = 8
      · rw [if_pos h1] at h
        exact wq_loop (a := 0) (Or.inl ⟨rfl, rfl, h1, rfl⟩) (fun i j q e => ih _ _ _ _ _ e) (fun i j q e => ih _ _ _ _ _ e) h
      · rw [if_neg h1] at h
        cases h
        exact wq_stop (by unfold isL; omega) (Or.inl ⟨rfl, h1⟩)
    | 3, h => exact wq_then (a := 1) (b := 4) (Or.inr (Or.inl ⟨rfl, rfl, rfl⟩)) (fun j q e => ih _ _ _ _ _ e) (fun i j q e => ih _ _ _ _ _ e) h
    | 4, h =>
      rw [rd] at h
      by_cases h1 : tk i = 6 ∨ tk i = 7
      · rw [if_pos h1] at h
        exact wq_loop (a := 1) (Or.inr (Or.inl ⟨rfl, rfl, h1, rfl⟩)) (fun i j q e => ih _ _ _ _ _ e) (fun i j q e => ih _ _ _ _ _ e) h
      · rw [if_neg h1] at h
        cases h
        exact wq_stop (by unfold isL; omega) (Or.inr (Or.inl ⟨rfl, h1⟩))
    | 5, h =>
      intro ho _ H out mn hc ht
      have ht : tp H < 4 := ht
      have nl : ¬ isL 5 := by unfold isL; omega
      have nl3 : ¬ isL 3 := by unfold isL; omega
      rw [rd] at h
      by_cases h1 : tk i = 16
      · rw [if_pos h1] at h
        by_cases h5 : o < 5
        · rw [if_pos h5] at h
          obtain ⟨q1, e3, rfl⟩ := rAdd_inv h
          have hcn : cntH (13 :: H) = o + 1 := by rw [cntH, if_pos (by omega)]; omega
          obtain ⟨w1, w2⟩ := ih _ _ _ _ _ e3 (by omega) (fun h => absurd h nl) (13 :: H) out true hcn (by show rk 13 < 4; decide)
          have mo : mnOK 5 (tk (i + 1)) true := ⟨(fun h => by omega), fun _ => rfl⟩
          have up : ∀ r, St tk nm 5 true (i + 1) (13 :: H) out r → St tk nm 5 mn i H out r := fun r k => ⟨fun _ m => by
            obtain rfl := m.2 (by omega)
            exact Sy_open (Or.inl ⟨h1, rfl, rfl, rfl⟩) (by omega) (k.1 nl mo), fun h => absurd h nl⟩
          cases q1 with
          | none => exact ⟨fun _ => up _ (w1 rfl), (fun s h => by cases h)⟩
          | some s1 =>
            refine ⟨(fun h => by cases h), fun s hs => ?_⟩
            cases hs
            obtain ⟨p1, p2, p3⟩ := w2 s1 rfl
            refine ⟨p1, fun hb r k => up r (p2 hb r (fun m2 => Sy_swap (unw_pop ?_) (by rw [List.append_assoc]; exact k m2))), fun hb => up _ (p3 hb)⟩
            unfold Pst at p1
            unfold Bd at hb
            show thr _ ≤ 3
            unfold thr
            repeat' split
            all_goals omega
        · rw [if_neg h5] at h
          cases h
          exact ⟨fun _ => ⟨fun _ m => Sy_full (Or.inl ⟨h1, m.2 (by omega)⟩) (by omega), fun h => absurd h nl⟩, (fun s h => by cases h)⟩
      rw [if_neg h1] at h
      have up0 : ∀ r, St tk nm 3 mn i H out r → St tk nm 5 mn i H out r := fun r k => ⟨fun _ m => k.1 nl3 ⟨fun _ _ => h1, (fun h => by omega)⟩, fun h => absurd h nl⟩
      rcases rThen_inv h with ⟨e1, rfl⟩ | ⟨j1, s1, q', e1, e2, rfl⟩
      · obtain ⟨w1, -⟩ := ih _ _ _ _ _ e1 ho (fun h => absurd h nl3) H out mn hc (by show tp H < 5; omega)
        exact ⟨fun _ => up0 _ (w1 rfl), (fun s h => by cases h)⟩
      obtain ⟨-, w2⟩ := ih _ _ _ _ _ e1 ho (fun h => absurd h nl3) H out mn hc (by show tp H < 5; omega)
      obtain ⟨p1, p2, -⟩ := w2 s1 rfl
      have nB3 : ∀ t, ¬ Bd 3 t := fun t e => absurd e.1 (by omega)
      by_cases h9 : tk j1 = 9 ∨ tk j1 = 10
      · rw [if_pos h9] at e2
        obtain ⟨q2, e3, rfl⟩ := rAdd_inv e2
        obtain ⟨g, hg⟩ : ∃ g, g = sgo (tk j1) := ⟨_, rfl⟩
        have rg4 : rk g = 4 ∧ 11 ≤ g ∧ g ≠ 13 ∧ g ≠ 19 ∧ thr (tk j1) = 5 := by rcases h9 with e | e <;> rw [hg, e] <;> decide
        rw [← hg] at h ⊢
        have un : ∀ o', unw (thr (tk j1)) H o' = (H, o') := fun o' => unw_nop (by omega)
        have mo : mnOK 3 (tk (j1 + 1)) (decide (tk j1 = 14 ∨ tk j1 = 15)) := ⟨fun _ e => absurd (of_decide_eq_true e) (by omega), (fun h => by omega)⟩
        have up : ∀ r, St tk nm 3 (decide (tk j1 = 14 ∨ tk j1 = 15)) (j1 + 1) (g :: H) (out ++ s1) r → St tk nm 5 mn i H out r := fun r k => up0 r (p2 (nB3 _) r (fun m2 => Sy_sign (by omega) (fun e => by rw [un] at e; have e7 : tp H = 4 := e.2; omega) (by rw [un, ← hg]; exact k.1 nl3 mo)))
        obtain ⟨w3, w4⟩ := ih _ _ _ _ _ e3 ho (fun h => absurd h nl3) (g :: H) (out ++ s1) (decide (tk j1 = 14 ∨ tk j1 = 15)) ((cnt_sg rg4.2.1 rg4.2.2.1 rg4.2.2.2.1).trans hc) (by show rk g < 5; omega)
        cases q2 with
        | none => exact ⟨fun _ => up _ (w3 rfl), (fun s h => by cases h)⟩
        | some s2 =>
          refine ⟨(fun h => by cases h), fun s hs => ?_⟩
          cases hs
          obtain ⟨p4, p5, -⟩ := w4 s2 rfl
          refine ⟨?_, fun hb r k => up r (p5 (nB3 _) r (fun m2 => Sy_swap (unw_pop ?_) (by have := k m2; simp only [List.append_assoc] at this ⊢; exact this))), fun hb => up _ (p5 (nB3 _) _ (fun m2 => Sy_twice hb.2 ?_))⟩
          · unfold Pst at p4 ⊢; omega
          · unfold Pst at p4
            unfold Bd at hb
            rw [rg4.1]
            unfold thr
            repeat' split
            all_goals omega
          · have t5 : thr (tk j) = 5 := by rcases hb.2 with e | e <;> rw [e] <;> decide
            rw [unw_nop (by show rk g < _; omega)]
            exact rg4.1
      · rw [if_neg h9] at e2
        cases e2
        refine ⟨(fun h => by cases h), fun s hs => ?_⟩
        cases hs
        refine ⟨?_, fun _ r k => up0 r (p2 (nB3 _) r (fun m2 => by simpa only [List.append_nil] using k m2)), fun hb => absurd hb.2 h9⟩
        unfold Pst at p1 ⊢; omega
    | 6, h => exact wq_then (a := 5) (b := 7) (Or.inr (Or.inr (Or.inl ⟨rfl, rfl, rfl⟩))) (fun j q e => ih _ _ _ _ _ e) (fun i j q e => ih _ _ _ _ _ e) h
    | 7, h =>
      rw [rd] at h
      by_cases h1 : tk i = 15
      · rw [if_pos h1] at h
        exact wq_loop (a := 5) (Or.inr (Or.inr (Or.inl ⟨rfl, rfl, h1, rfl⟩))) (fun i j q e => ih _ _ _ _ _ e) (fun i j q e => ih _ _ _ _ _ e) h
      · rw [if_neg h1] at h
        cases h
        exact wq_stop (by unfold isL; omega) (Or.inr (Or.inr (Or.inl ⟨rfl, h1⟩)))
    | 8, h => exact wq_then (a := 6) (b := 9) (Or.inr (Or.inr (Or.inr ⟨rfl, rfl, rfl⟩))) (fun j q e => ih _ _ _ _ _ e) (fun i j q e => ih _ _ _ _ _ e) h
    | 9, h =>
      rw [rd] at h
      by_cases h1 : tk i = 14
      · rw [if_pos h1] at h
        exact wq_loop (a := 6) (Or.inr (Or.inr (Or.inr ⟨rfl, rfl, h1, rfl⟩))) (fun i j q e => ih _ _ _ _ _ e) (fun i j q e => ih _ _ _ _ _ e) h
      · rw [if_neg h1] at h
        cases h
        exact wq_stop (by unfold isL; omega) (Or.inr (Or.inr (Or.inr ⟨rfl, h1⟩)))
    | K + 10, h => cases h
end
