/-! THE MODEL'S TEXT -/
theorem z_text_full {X : Nat × (Nat → Int32)} {d : Nat} {G : zG} (hS : SG G) {J : zI} (h8 : J 57 8 = zi 6) : Cv X d 129 [.ref 57] G J (some (.int (-4)), G, J) :=
  Cv.of hq_129 (z_le rfl) rfl (wp_Z_text hS ⟨fun h => absurd h8 h, fun _ => rfl⟩)
theorem z_text {X : Nat × (Nat → Int32)} {d : Nat} {G : zG} (hS : SG G) {m n : Nat} (hm : m < 6) {J : zI} {b : Nat → Int32} (h8 : J 57 8 = zi m) (hB : ByZ J b n) : ∃ J2 : zI, ByZ J2 b n ∧ J2 57 18 = zi 0 ∧ Hz0 m J2 [] ∧ FT m J J2 ∧ ∀ res, Ev X d 129 26 [.ref 57, .int 1, .int (zi 0)] [] G J2 res → Cv X d 129 [.ref 57] G J res := by
  refine ⟨z_up (z_up J 57 18 0) 57 26 0, (hB.up (by decide)).up (by decide), by rw [up_place (by decide), up_same]; rfl, ⟨by rw [up_place (by decide), up_place (by decide)]; exact h8, up_same, fun k hk => absurd hk (Nat.not_lt_zero _)⟩, ⟨fun c a _ _ _ => by rw [up_cell a, up_cell a], fun k _ _ x y => by rw [up_place (by omega), up_place (by omega)], fun k _ => by rw [up_cell (by decide), up_cell (by decide)], fun k _ => by rw [up_cell (by decide), up_cell (by decide)]⟩, fun res k => Cv.of hq_129 (z_le rfl) rfl (wp_Z_text hS ⟨fun _ A gA B gB => by rw [gB, gA]; exact k, fun h => absurd ((zi_eq (b := 6) (by omega) (by omega)).1 (h8.symm.trans h)) (by omega)⟩)⟩
theorem put_same {G : zG} (hS : SG G) : (zn G, zs G, zk G, zl G, z_upR (zr G) 39 0 (some 44)) = G := by
  have e : z_upR (zr G) 39 0 (some 44) = zr G := by
    funext b k
    unfold z_upR
    split
    · rename_i h
      rw [h.1, h.2]
      exact (SGr hS rfl).symm
    · rfl
  rw [e]
/-- both read the text that is fed -/
theorem both_text {X : Nat × (Nat → Int32)} {G : zG} (hS : SG G) {m n : Nat} (hm : m < 6) (hn : n ≤ 160) {I J : zI} (h7 : I 0 7 = zi m) (h9 : I 0 9 = zi n) (h8 : J 57 8 = zi m) (h5 : J 57 5 = zi n) (hb : ∀ k, k < n → I 44 k = J 61 k) (hw : WDs J) :
    (∃ (e : Nat) (I1 J1 : zI), e ≤ n ∧ Cv X 58 42 [.ref 0] G I (some (.int (-100 - zi e)), G, z_up I1 0 9 0) ∧ Cv X 58 129 [.ref 57] G J (some (.int (-100 - zi e)), G, J1) ∧ FrW I I1 ∧ FT m J J1 ∧ J1 57 5 = 0 ∧ J1 57 8 = zi m) ∨
    (∃ (ss : List (List Nat)) (I1 J1 : zI) (f : Nat → Int32), FrW I I1 ∧ (∀ k, k < ss.flatten.length → f k = I1 41 k) ∧ Cv X 58 42 [.ref 0] G I (some (.int (zi m)), zPR_ (zLW G ss.flatten.length) 43 m (zn G), z_up (zLWI G ss.flatten.length (z_up I1 0 9 0) f) 0 7 (zi (m + 1))) ∧ Cv X 58 129 [.ref 57] (zPR_ (zLW G ss.flatten.length) 43 m (zn G)) J (some (.int (zi m)), zPR_ (zLW G ss.flatten.length) 43 m (zn G), J1) ∧ FT m J J1 ∧ J1 57 5 = 0 ∧ J1 57 8 = zi (m + 1) ∧ ss.flatten.length ≤ 160 ∧ TxR m I1 J1 ss) := by
  obtain ⟨I1, v, M, -, kc, fw, r⟩ := c_read (X := X) (put_same hS) hS.five hm (b := J 61) hn hb
  have h71 : I1 0 7 = zi m := by rw [fw 0 (by decide) (by decide) (by decide)]; exact h7
  rcases r with ⟨e, le, rfl, -, rm⟩ | ⟨rfl, ss, -, c8, cl, rm⟩
  · obtain ⟨J2, b1, b2, b3, F2, go⟩ := z_text (X := X) (d := 5) hS (b := J 61) (n := n) hm h8 ⟨h5, fun _ _ => rfl, hw⟩
    obtain ⟨J1, k1, F1, z5, z8⟩ := rm hS J2 b1 b2 b3
    exact Or.inl ⟨e, I1, J1, le, c_text_no hS hm h7 h9 kc (fun h => absurd ((zi_lt (b := 0) (by omega) (by omega)).1 h) (by omega)), (go _ k1).deep (by omega), fw, F2.tr F1, z5, z8⟩
  · have hS1 : SG (zPR_ (zLW G ss.flatten.length) 43 m (zn G)) := (zLW_SG hS).put43
    obtain ⟨J2, b1, b2, b3, F2, go⟩ := z_text (X := X) (d := 5) hS1 (b := J 61) (n := n) hm h8 ⟨h5, fun _ _ => rfl, hw⟩
    obtain ⟨J1, k1, F1, z5, z8, T⟩ := rm hS1 J2 b1 b2 b3
    obtain ⟨f, hf, kt⟩ := c_text_yes hS hm h7 h9 kc rfl cl c8 h71
    exact Or.inr ⟨ss, I1, J1, f, fw, hf, kt, (go _ k1).deep (by omega), F2.tr F1, z5, z8, cl, T⟩
