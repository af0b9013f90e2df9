/-! THE CELLS THAT STAND FROM THE START ON: 0 .. 56 the class's (0 itself; 1, 9, 17 its households with seven rows each; 25 .. 38 its morning; 39 .. 42 its reader; 43 texts, 44 tape, 45 .. 49 rows, 50, 51; 52 .. 56 the first law), 57 .. 79 the reference's (57 itself). Laws that come later: 80 + 5 k .. -/
def zKdL : List Nat := [4, 0, 6, 6, 6, 6, 6, 6, 6, 0, 6, 6, 6, 6, 6, 6, 6, 0, 6, 6, 6, 6, 6, 6, 6, 2, 8, 6, 6, 6, 6, 8, 6, 6, 6, 6, 6, 6, 6, 3, 6, 6, 6, 7, 6, 8, 6, 6, 6, 6, 6, 6, 1, 6, 6, 6, 6, 5, 6, 6, 6, 6, 6, 6, 6, 6, 6, 6, 6, 6, 6, 6, 6, 6, 6, 6, 6, 6, 6, 6]
/-- lengths, where they are rows (53: steps of the first law, 26) -/
def zLnL : List Nat := [13, 9, 4, 4, 4, 4, 4, 4, 4, 9, 4, 4, 4, 4, 4, 4, 4, 9, 4, 4, 4, 4, 4, 4, 4, 5, 4, 30, 30, 30, 30, 4, 31, 31, 31, 31, 4, 4, 4, 10, 0, 160, 4, 6, 160, 4, 40, 40, 40, 40, 4, 4, 4, 9, 4, 6, 40, 39, 4, 4, 20, 160, 1200, 24, 20, 4, 4, 160, 54, 96, 200, 200, 6, 124, 120, 4, 4, 4, 4, 4]
/-- the references that stay -/
def zRf (a j : Nat) : Option Nat := match a with
  | 0 => [some 1, some 9, some 17, none, some 25, some 39, some 43, none, some 44, none, some 45, some 50, some 51].getD j none
  | 1 => if j < 7 then some (2 + j) else none
  | 9 => if j < 7 then some (10 + j) else none
  | 17 => if j < 7 then some (18 + j) else none
  | 25 => [some 26, some 31, some 36, some 37, some 38].getD j none
  | 26 => if j < 4 then some (27 + j) else none
  | 31 => if j < 4 then some (32 + j) else none
  | 39 => [some 44, none, none, none, none, none, none, some 41, none, some 42].getD j none
  | 45 => if j < 4 then some (46 + j) else none
  | 52 => if j < 4 then some (53 + j) else none
  | 57 => [none, some 58, some 59, some 60, some 61, none, some 62, some 63, none, none, none, none, none, some 64, some 65, some 66, some 67, some 68, none, none, none, none, some 69, some 70, none, none, none, some 71, some 72, some 73, some 74, some 75, some 76, some 77, none, none, none, some 78, some 79].getD j none
  | _ => none
/-- they stand -/
def SG (G : zG) : Prop := 80 ≤ zn G ∧ (∀ a k : Nat, zKdL[a]? = some k → zk G a = k) ∧ (∀ a k : Nat, zLnL[a]? = some k → zl G a = k) ∧ ∀ a j b : Nat, zRf a j = some b → zr G a j = some b
theorem SGn {G : zG} (h : SG G) {a : Nat} (ha : a < 80) : a < zn G := Nat.lt_of_lt_of_le ha h.1
theorem SGk {G : zG} (h : SG G) {a k : Nat} (ha : zKdL[a]? = some k) : zk G a = k := h.2.1 a k ha
theorem SGl {G : zG} (h : SG G) {a k : Nat} (ha : zLnL[a]? = some k) : zl G a = k := h.2.2.1 a k ha
theorem SGr {G : zG} (h : SG G) {a j b : Nat} (ha : zRf a j = some b) : zr G a j = some b := h.2.2.2 a j b ha
theorem SGi {G : zG} (h : SG G) {a k : Nat} (ha : zLnL[a]? = some k) {i : Int32} (hi : z_inr i k) : z_inr i (zl G a) := by rw [SGl h ha]; exact hi
/-- an object at o with m rows of ints behind it -/
def VB (G : zG) (o k m : Nat) (ln : Nat → Nat) : Prop := o + m < zn G ∧ zk G o = k ∧ ∀ j, j < m → zr G o j = some (o + (j + 1)) ∧ zk G (o + (j + 1)) = 6 ∧ zl G (o + (j + 1)) = ln j
abbrev HH (G : zG) (o : Nat) : Prop := VB G o 0 7 (fun _ => 4)
def lwL (G : zG) (w : Nat) : Nat → Nat := fun j => match j with
  | 0 => zl G (w + 1)
  | 1 => 4
  | 2 => 6
  | _ => 40
abbrev LW (G : zG) (w : Nat) : Prop := VB G w 1 4 (lwL G w)
theorem VB.lt {G : zG} {o k m : Nat} {ln : Nat → Nat} (h : VB G o k m ln) {b : Nat} (hb : b ≤ o + m) : b < zn G := Nat.lt_of_le_of_lt hb h.1
theorem VB.inr {G : zG} {o k m : Nat} {ln : Nat → Nat} (h : VB G o k m ln) {j n : Nat} (hj : j < m) (hn : ln j = n) {i : Int32} (hi : z_inr i n) : z_inr i (zl G (o + (j + 1))) := by rw [(h.2.2 j hj).2.2, hn]; exact hi
theorem SG.H {G : zG} (h : SG G) {o : Nat} (ho : o = 1 ∨ o = 9 ∨ o = 17) : HH G o := by
  have h7 : ∀ j, j < 7 → j = 0 ∨ j = 1 ∨ j = 2 ∨ j = 3 ∨ j = 4 ∨ j = 5 ∨ j = 6 := by omega
  rcases ho with rfl | rfl | rfl
  · refine ⟨SGn h (by decide), SGk h rfl, fun j hj => ?_⟩
    rcases h7 j hj with rfl | rfl | rfl | rfl | rfl | rfl | rfl <;> exact ⟨SGr h rfl, SGk h rfl, SGl h rfl⟩
  · refine ⟨SGn h (by decide), SGk h rfl, fun j hj => ?_⟩
    rcases h7 j hj with rfl | rfl | rfl | rfl | rfl | rfl | rfl <;> exact ⟨SGr h rfl, SGk h rfl, SGl h rfl⟩
  · refine ⟨SGn h (by decide), SGk h rfl, fun j hj => ?_⟩
    rcases h7 j hj with rfl | rfl | rfl | rfl | rfl | rfl | rfl <;> exact ⟨SGr h rfl, SGk h rfl, SGl h rfl⟩
/-- a row of an array of rows: outer cell a, inner ones from b on, of length n -/
theorem SGrow {G : zG} (h : SG G) {a b n : Nat} (hc : (a = 26 ∧ b = 27 ∧ n = 30) ∨ (a = 31 ∧ b = 32 ∧ n = 31) ∨ (a = 45 ∧ b = 46 ∧ n = 40)) {k : Nat} (hk : k < 4) : zr G a k = some (b + k) ∧ b + k < zn G ∧ zk G (b + k) = 6 ∧ zl G (b + k) = n := by
  have h4 : k = 0 ∨ k = 1 ∨ k = 2 ∨ k = 3 := by omega
  rcases hc with ⟨rfl, rfl, rfl⟩ | ⟨rfl, rfl, rfl⟩ | ⟨rfl, rfl, rfl⟩ <;> rcases h4 with rfl | rfl | rfl | rfl <;> exact ⟨SGr h rfl, SGn h (by decide), SGk h rfl, SGl h rfl⟩
