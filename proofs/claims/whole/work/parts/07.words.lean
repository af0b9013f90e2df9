/-! The tables' words, by their places. -/
/-- a table beside its places -/
theorem z_zip {α β : Type} {l : List α} {k : List β} (hl : l.length = k.length) {f : α × β → Bool} (h : (l.zip k).all f = true) {a : α} (ha : a ∈ l) : ∃ b, f (a, b) = true := by
  obtain ⟨i, hi⟩ := List.getElem?_of_mem ha
  have h1 := (List.getElem?_eq_some_iff.mp hi).1
  have h2 : k[i]? = some (k[i]'(by omega)) := List.getElem?_eq_getElem (by omega)
  refine ⟨_, List.all_eq_true.mp h (a, k[i]'(by omega)) (List.mem_of_getElem? (i := i) ?_)⟩
  rw [List.getElem?_zip_eq_some]
  exact ⟨hi, h2⟩
theorem z_zipI {α β : Type} {l : List α} {k : List β} (hl : l.length = k.length) {f : α × β → Bool} (h : (l.zip k).all f = true) {a : α} {i : Nat} (hi : l[i]? = some a) : ∃ b, k[i]? = some b ∧ f (a, b) = true := by
  have h1 := (List.getElem?_eq_some_iff.mp hi).1
  have h2 : k[i]? = some (k[i]'(by omega)) := List.getElem?_eq_getElem (by omega)
  refine ⟨_, h2, List.all_eq_true.mp h (a, k[i]'(by omega)) (List.mem_of_getElem? (i := i) ?_)⟩
  rw [List.getElem?_zip_eq_some]
  exact ⟨hi, h2⟩
def z_has (k : Nat) (w : Cond) : Bool := decide (lw_tbl[k]? = some w) && goodWord w
theorem z_has_in {k : Nat} {w : Cond} (h : z_has k w = true) : w ∈ zGW := by
  unfold z_has at h
  simp only [Bool.and_eq_true, decide_eq_true_eq] at h
  exact zGW_in h.1 h.2
def zFw (q : (Nat × Nat) × (Nat × Nat)) : Cond := match zCl[q.2.1]? with
  | some r => .fieldLink (zR q.1.1) q.1.2 r.1 (r.2.1 q.2.2).2.1 (r.2.1 q.2.2).2.2.1
  | none => .initialized ""
set_option maxRecDepth 100000 in
theorem zF_ok : (zF.zip zFp).all (fun q => z_has q.2 (zFw q.1)) = true := by decide +kernel
theorem zF_len : zF.length = zFp.length := by decide +kernel
set_option maxRecDepth 100000 in
theorem zK_ok : (zK.zip zKp).all (fun q => z_has q.2 (.constant (zR q.1.1.1) q.1.1.2 q.1.2)) = true := by decide +kernel
theorem zK_len : zK.length = zKp.length := by decide +kernel
set_option maxRecDepth 100000 in
theorem zKL_ok : (zKL.zip zKLp).all (fun q => z_has q.2 (.constantLong (zR q.1.1.1) q.1.1.2 q.1.2)) = true := by decide +kernel
theorem zKL_len : zKL.length = zKLp.length := by decide +kernel
set_option maxRecDepth 100000 in
theorem zN_okw : (zN.zip zNp).all (fun q => z_has q.2 (.classLink (zR q.1.1.1) q.1.1.2 q.1.2.2)) = true := by decide +kernel
theorem zN_len : zN.length = zNp.length := by decide +kernel
/-- the link of a call -/
def zLw (o i kd : Nat) (y : MethodName) : Cond := match kd with
  | 3 => .methodLinkNest (zR o) i y "TooHotTooCold"
  | 4 => .methodLinkNest (zR o) i y "TooHotTooCold"
  | 5 => .methodLink (zR o) i Lib.objectInit
  | 10 => .methodLink (zR o) i Lib.Math.max.name
  | 11 => .methodLink (zR o) i Lib.Math.min.name
  | 12 => .methodLink (zR o) i Lib.Math.abs.name
  | 13 => .methodLink (zR o) i arraycopyName
  | 16 => .methodLink (zR o) i ⟨"[I", "clone", "()Ljava/lang/Object;"⟩
  | _ => .methodLink (zR o) i y
def zMn (μ : Nat) : MethodName := match zM[μ]? with
  | some q => q.1
  | none => x
set_option maxRecDepth 100000 in
theorem zC_ok : (zC.zip zCp).all (fun q => decide (lw_tbl[q.2]? = some (zLw q.1.1.1 q.1.1.2 q.1.2.1 (zMn q.1.2.2))) && (goodWord (zLw q.1.1.1 q.1.1.2 q.1.2.1 (zMn q.1.2.2)) || decide (q.1.2.1 = 3 ∨ q.1.2.1 = 4))) = true := by decide +kernel
theorem zC_len : zC.length = zCp.length := by decide +kernel
/-- a method's own words; r: the places -/
def zMw (q : zMT) (r : Nat × Nat × Nat × Nat × Nat) : Bool := if r.2.2.2.2 = 9 then decide (q.1 = x) else
  z_has r.2.1 (.initialized q.1.cls) &&
  (if r.2.2.2.2 = 0 then z_has r.2.2.1 (.static q.1) else if r.2.2.2.2 = 1 then z_has r.2.2.1 (.instanceMethod q.1) && z_has r.2.2.2.1 (.selects q.1.cls q.1 q.1) else z_has r.2.2.1 (.instanceMethod q.1) && decide (q.1.name = "<init>") && decide (q.2.2.2.1 = none)) &&
  decide (q.1.cls = zR q.2.2.2.2.1) && plainName q.1.cls && decide (q.1.cls ≠ "java/lang/invoke/MethodHandle" ∧ q.1.cls ≠ "java/lang/invoke/VarHandle" ∧ (parseMethodDescriptor q.1.desc).map (fun d => d.parameters.length) = some q.2.2.2.2.2) && decide (q.2.2.1 ≤ 40)
set_option maxRecDepth 100000 in
theorem zM_ok : (zM.zip zMp).all (fun q => zMw q.1 q.2) = true := by decide +kernel
theorem zM_len : zM.length = zMp.length := by decide +kernel
/-- a call's kind is its method's -/
def zCk (q : (Nat × Nat) × (Nat × Nat)) : Bool := match zMp[q.2.2]? with
  | some r => (if q.2.1 = 0 ∨ q.2.1 = 3 then decide (r.2.2.2.2 = 0) else if q.2.1 = 1 then decide (r.2.2.2.2 = 1) else if q.2.1 = 2 ∨ q.2.1 = 4 then decide (r.2.2.2.2 = 2) else true)
  | none => false
set_option maxRecDepth 100000 in
theorem zC_kind : zC.all zCk = true := by decide +kernel
/-- what the JDK's methods without code here want -/
def zPw : List (Nat × Cond) := [(92, .instanceMethod Lib.objectInit), (93, .code Lib.objectInit ⟨#[0xb1]⟩ 1 none), (77, .initialized "java/lang/Math"), (366, .static Lib.Math.max.name), (367, .code Lib.Math.max.name Lib.Math.max.code 2 (some .int)), (227, .static Lib.Math.min.name), (228, .code Lib.Math.min.name Lib.Math.min.code 2 (some .int)),
  (580, .static Lib.Math.abs.name), (581, .code Lib.Math.abs.name Lib.Math.abs.code 1 (some .int)), (381, .native arraycopyName), (83, .initialized "java/lang/System"), (372, .sameMethod "[I" "java/lang/Object" "clone" "()Ljava/lang/Object;"), (373, .native ⟨"java/lang/Object", "clone", "()Ljava/lang/Object;"⟩), (374, .instanceMethod ⟨"java/lang/Object", "clone", "()Ljava/lang/Object;"⟩),
  (375, .selects "[I" ⟨"[I", "clone", "()Ljava/lang/Object;"⟩ ⟨"java/lang/Object", "clone", "()Ljava/lang/Object;"⟩),
  (826, .fieldLink "TooHotTooCold" 178 "TooHotTooCold" "KIND_ABOVE" "[I"), (224, .fieldLink "java/lang/String" 38 "java/lang/String" "COMPACT_STRINGS" "Z"), (243, .fieldLink "java/lang/String" 1053 "jdk/internal/util/Preconditions" "SIOOBE_FORMATTER" "Ljava/util/function/BiFunction;"), (1297, .fieldLink "java/lang/String" 9 "java/lang/String" "value" "[B"), (1298, .fieldLink "java/lang/String" 15 "java/lang/String" "coder" "B"), (145, .arrayClass .int)]
set_option maxRecDepth 100000 in
theorem zPw_ok : zPw.all (fun q => z_has q.1 q.2) = true := by decide +kernel
set_option maxRecDepth 100000 in
theorem zPw_st : (Cond.static arraycopyName) ∈ zGW := by decide +kernel
set_option maxRecDepth 100000 in
theorem zCl_inst : zCl.all (fun q => decide (Cond.instantiable q.1 q.2.2 ∈ lw_tbl) && goodWord (Cond.instantiable q.1 q.2.2) && decide (Cond.initialized q.1 ∈ lw_tbl) && goodWord (Cond.initialized q.1)) = true := by decide +kernel
theorem zS_lt : ∀ q ∈ zS, q.2.1 < 13 := by decide +kernel
set_option maxRecDepth 100000 in
set_option maxHeartbeats 4000000 in
theorem zMc_0 : (zM_0.drop 1).map (fun q => Cond.code q.1 q.2.1 q.2.2.1 q.2.2.2.1) = [90, 98, 150, 179, 219, 223, 232, 236, 239, 242, 247, 270, 273, 277, 280, 283, 287, 292, 308, 312, 315, 319, 323, 327, 331, 335, 339, 343, 347].filterMap (fun i => lw_tbl[i]?) := rfl
set_option maxRecDepth 100000 in
set_option maxHeartbeats 4000000 in
theorem zMc_1 : zM_1.map (fun q => Cond.code q.1 q.2.1 q.2.2.1 q.2.2.2.1) = [351, 355, 358, 362, 370, 386, 404, 448, 452, 456, 460, 464, 468, 472, 476, 480, 484, 487, 491, 495, 499, 505, 508, 513, 517, 521, 524, 528, 532, 536].filterMap (fun i => lw_tbl[i]?) := rfl
set_option maxRecDepth 100000 in
set_option maxHeartbeats 4000000 in
theorem zMc_2 : zM_2.map (fun q => Cond.code q.1 q.2.1 q.2.2.1 q.2.2.2.1) = [539, 543, 549, 553, 558, 563, 566, 572, 578, 586, 590, 594, 598, 603, 607, 611, 615, 619, 623, 627, 630, 637, 641, 645, 650, 654, 657, 661, 665, 669].filterMap (fun i => lw_tbl[i]?) := rfl
set_option maxRecDepth 100000 in
set_option maxHeartbeats 4000000 in
theorem zMc_3 : zM_3.map (fun q => Cond.code q.1 q.2.1 q.2.2.1 q.2.2.2.1) = [673, 677, 681, 685, 689, 693, 697, 701, 705, 709, 713, 717, 720, 724, 728, 732, 736, 740, 744, 748, 753, 758, 762, 766, 771, 778, 783, 786, 790, 794].filterMap (fun i => lw_tbl[i]?) := rfl
set_option maxRecDepth 100000 in
set_option maxHeartbeats 4000000 in
theorem zMc_4 : zM_4.map (fun q => Cond.code q.1 q.2.1 q.2.2.1 q.2.2.2.1) = [798, 802, 805, 809, 813, 817, 822, 825, 832, 837, 841, 844, 848, 852, 857, 861, 864, 868, 872, 876, 880, 1002, 1006, 1010, 1014, 1017, 1022, 1026, 1030, 1035].filterMap (fun i => lw_tbl[i]?) := rfl
set_option maxRecDepth 100000 in
set_option maxHeartbeats 4000000 in
theorem zMc_5 : zM_5.map (fun q => Cond.code q.1 q.2.1 q.2.2.1 q.2.2.2.1) = [1039, 1042, 1045, 1049, 1053, 1056, 1060, 1064, 1068, 1074, 1078, 1082, 1086, 1090, 1093, 1097, 1101, 1105, 1108, 1112, 1116, 1120, 1124, 1128, 1132, 1136, 1140, 1144, 1148, 1152].filterMap (fun i => lw_tbl[i]?) := rfl
set_option maxRecDepth 100000 in
set_option maxHeartbeats 4000000 in
theorem zMc_6 : zM_6.map (fun q => Cond.code q.1 q.2.1 q.2.2.1 q.2.2.2.1) = [1156, 1160, 1164, 1168, 1172, 1176, 1180, 1184, 1188, 1192, 1196, 1200, 1204, 1208, 1212, 1216, 1220, 1224, 1228, 1232, 1236, 1240, 1244, 1249, 1256, 1261, 1264, 1268, 1272, 1276].filterMap (fun i => lw_tbl[i]?) := rfl
set_option maxRecDepth 100000 in
set_option maxHeartbeats 4000000 in
theorem zMc_7 : zM_7.map (fun q => Cond.code q.1 q.2.1 q.2.2.1 q.2.2.2.1) = [1280, 1284, 1288, 1293, 1296].filterMap (fun i => lw_tbl[i]?) := rfl
theorem zcast : (Cond.castable "[I" "java/lang/Cloneable") ∈ lw_tbl := List.mem_of_getElem? (i := 376) (by decide +kernel)
