/-! THE LAW'S LOOP -/
section
variable {X : Nat × (Nat → Int32)} {i : Nat}
variable {n m : Nat} {G : zG} {I : zI}
theorem law_step (hi : i + 7 ≤ X.1) (hX : X.1 ≤ 3584) (R : Rel n m G I I) {k : Nat} (hk : k < 64) : ∃ (n2 m2 : Nat) (G2 : zG) (J : zI), Rel n2 m2 G2 J J ∧ ∀ res, Ev X 1000 0 1611 [.retAddr (0 + 1), .ref 0, .ref 57, .int (zi i)] [] G2 J res → Ev X 1000 0 33 [.retAddr (0 + 1), .ref 0, .ref 57, .int (zi i)] [.int (zi k)] G I res := by
  rcases Nat.lt_or_ge k 40 with h | h
  · match k, h with
    | 0, _ =>
      obtain ⟨n2, m2, G2, J, R2, go⟩ := law_0 (n := n) (m := m) hi hX R
      exact ⟨n2, m2, G2, J, R2, fun res h => Ev_tableIn (tgt := 208) (off := 175) hq_0' (show decode code 33 = .ok (.tableswitch 1578 0 39 #[175, 198, 273, 286, 309, 372, 415, 458, 491, 534, 567, 600, 623, 646, 669, 702, 735, 778, 801, 844, 877, 900, 923, 956, 989, 1012, 1055, 1098, 1131, 1174, 1197, 1230, 1263, 1317, 1330, 1343, 1386, 1429, 1492, 1545], 175) by decide +kernel) (by decide) (by decide) rfl (by decide) (go res h)⟩
    | 1, _ =>
      obtain ⟨n2, m2, G2, J, R2, go⟩ := law_1 (n := n) (m := m) hi hX R
      exact ⟨n2, m2, G2, J, R2, fun res h => Ev_tableIn (tgt := 231) (off := 198) hq_0' (show decode code 33 = .ok (.tableswitch 1578 0 39 #[175, 198, 273, 286, 309, 372, 415, 458, 491, 534, 567, 600, 623, 646, 669, 702, 735, 778, 801, 844, 877, 900, 923, 956, 989, 1012, 1055, 1098, 1131, 1174, 1197, 1230, 1263, 1317, 1330, 1343, 1386, 1429, 1492, 1545], 175) by decide +kernel) (by decide) (by decide) rfl (by decide) (go res h)⟩
    | 2, _ =>
      obtain ⟨n2, m2, G2, J, R2, go⟩ := law_2 (n := n) (m := m) hi hX R
      exact ⟨n2, m2, G2, J, R2, fun res h => Ev_tableIn (tgt := 306) (off := 273) hq_0' (show decode code 33 = .ok (.tableswitch 1578 0 39 #[175, 198, 273, 286, 309, 372, 415, 458, 491, 534, 567, 600, 623, 646, 669, 702, 735, 778, 801, 844, 877, 900, 923, 956, 989, 1012, 1055, 1098, 1131, 1174, 1197, 1230, 1263, 1317, 1330, 1343, 1386, 1429, 1492, 1545], 175) by decide +kernel) (by decide) (by decide) rfl (by decide) (go res h)⟩
    | 3, _ =>
      obtain ⟨n2, m2, G2, J, R2, go⟩ := law_3 (n := n) (m := m) hi hX R
      exact ⟨n2, m2, G2, J, R2, fun res h => Ev_tableIn (tgt := 319) (off := 286) hq_0' (show decode code 33 = .ok (.tableswitch 1578 0 39 #[175, 198, 273, 286, 309, 372, 415, 458, 491, 534, 567, 600, 623, 646, 669, 702, 735, 778, 801, 844, 877, 900, 923, 956, 989, 1012, 1055, 1098, 1131, 1174, 1197, 1230, 1263, 1317, 1330, 1343, 1386, 1429, 1492, 1545], 175) by decide +kernel) (by decide) (by decide) rfl (by decide) (go res h)⟩
    | 4, _ =>
      obtain ⟨n2, m2, G2, J, R2, go⟩ := law_4 (n := n) (m := m) hi hX R
      exact ⟨n2, m2, G2, J, R2, fun res h => Ev_tableIn (tgt := 342) (off := 309) hq_0' (show decode code 33 = .ok (.tableswitch 1578 0 39 #[175, 198, 273, 286, 309, 372, 415, 458, 491, 534, 567, 600, 623, 646, 669, 702, 735, 778, 801, 844, 877, 900, 923, 956, 989, 1012, 1055, 1098, 1131, 1174, 1197, 1230, 1263, 1317, 1330, 1343, 1386, 1429, 1492, 1545], 175) by decide +kernel) (by decide) (by decide) rfl (by decide) (go res h)⟩
    | 5, _ =>
      obtain ⟨n2, m2, G2, J, R2, go⟩ := law_5 (n := n) (m := m) hi hX R
      exact ⟨n2, m2, G2, J, R2, fun res h => Ev_tableIn (tgt := 405) (off := 372) hq_0' (show decode code 33 = .ok (.tableswitch 1578 0 39 #[175, 198, 273, 286, 309, 372, 415, 458, 491, 534, 567, 600, 623, 646, 669, 702, 735, 778, 801, 844, 877, 900, 923, 956, 989, 1012, 1055, 1098, 1131, 1174, 1197, 1230, 1263, 1317, 1330, 1343, 1386, 1429, 1492, 1545], 175) by decide +kernel) (by decide) (by decide) rfl (by decide) (go res h)⟩
    | 6, _ =>
      obtain ⟨n2, m2, G2, J, R2, go⟩ := law_6 (n := n) (m := m) hi hX R
      exact ⟨n2, m2, G2, J, R2, fun res h => Ev_tableIn (tgt := 448) (off := 415) hq_0' (show decode code 33 = .ok (.tableswitch 1578 0 39 #[175, 198, 273, 286, 309, 372, 415, 458, 491, 534, 567, 600, 623, 646, 669, 702, 735, 778, 801, 844, 877, 900, 923, 956, 989, 1012, 1055, 1098, 1131, 1174, 1197, 1230, 1263, 1317, 1330, 1343, 1386, 1429, 1492, 1545], 175) by decide +kernel) (by decide) (by decide) rfl (by decide) (go res h)⟩
    | 7, _ =>
      obtain ⟨n2, m2, G2, J, R2, go⟩ := law_7 (n := n) (m := m) hi hX R
      exact ⟨n2, m2, G2, J, R2, fun res h => Ev_tableIn (tgt := 491) (off := 458) hq_0' (show decode code 33 = .ok (.tableswitch 1578 0 39 #[175, 198, 273, 286, 309, 372, 415, 458, 491, 534, 567, 600, 623, 646, 669, 702, 735, 778, 801, 844, 877, 900, 923, 956, 989, 1012, 1055, 1098, 1131, 1174, 1197, 1230, 1263, 1317, 1330, 1343, 1386, 1429, 1492, 1545], 175) by decide +kernel) (by decide) (by decide) rfl (by decide) (go res h)⟩
    | 8, _ =>
      obtain ⟨n2, m2, G2, J, R2, go⟩ := law_8 (n := n) (m := m) hi hX R
      exact ⟨n2, m2, G2, J, R2, fun res h => Ev_tableIn (tgt := 524) (off := 491) hq_0' (show decode code 33 = .ok (.tableswitch 1578 0 39 #[175, 198, 273, 286, 309, 372, 415, 458, 491, 534, 567, 600, 623, 646, 669, 702, 735, 778, 801, 844, 877, 900, 923, 956, 989, 1012, 1055, 1098, 1131, 1174, 1197, 1230, 1263, 1317, 1330, 1343, 1386, 1429, 1492, 1545], 175) by decide +kernel) (by decide) (by decide) rfl (by decide) (go res h)⟩
    | 9, _ =>
      obtain ⟨n2, m2, G2, J, R2, go⟩ := law_9 (n := n) (m := m) hi hX R
      exact ⟨n2, m2, G2, J, R2, fun res h => Ev_tableIn (tgt := 567) (off := 534) hq_0' (show decode code 33 = .ok (.tableswitch 1578 0 39 #[175, 198, 273, 286, 309, 372, 415, 458, 491, 534, 567, 600, 623, 646, 669, 702, 735, 778, 801, 844, 877, 900, 923, 956, 989, 1012, 1055, 1098, 1131, 1174, 1197, 1230, 1263, 1317, 1330, 1343, 1386, 1429, 1492, 1545], 175) by decide +kernel) (by decide) (by decide) rfl (by decide) (go res h)⟩
    | 10, _ =>
      obtain ⟨n2, m2, G2, J, R2, go⟩ := law_10 (n := n) (m := m) hi hX R
      exact ⟨n2, m2, G2, J, R2, fun res h => Ev_tableIn (tgt := 600) (off := 567) hq_0' (show decode code 33 = .ok (.tableswitch 1578 0 39 #[175, 198, 273, 286, 309, 372, 415, 458, 491, 534, 567, 600, 623, 646, 669, 702, 735, 778, 801, 844, 877, 900, 923, 956, 989, 1012, 1055, 1098, 1131, 1174, 1197, 1230, 1263, 1317, 1330, 1343, 1386, 1429, 1492, 1545], 175) by decide +kernel) (by decide) (by decide) rfl (by decide) (go res h)⟩
    | 11, _ =>
      obtain ⟨n2, m2, G2, J, R2, go⟩ := law_11 (n := n) (m := m) hi hX R
      exact ⟨n2, m2, G2, J, R2, fun res h => Ev_tableIn (tgt := 633) (off := 600) hq_0' (show decode code 33 = .ok (.tableswitch 1578 0 39 #[175, 198, 273, 286, 309, 372, 415, 458, 491, 534, 567, 600, 623, 646, 669, 702, 735, 778, 801, 844, 877, 900, 923, 956, 989, 1012, 1055, 1098, 1131, 1174, 1197, 1230, 1263, 1317, 1330, 1343, 1386, 1429, 1492, 1545], 175) by decide +kernel) (by decide) (by decide) rfl (by decide) (go res h)⟩
    | 12, _ =>
      obtain ⟨n2, m2, G2, J, R2, go⟩ := law_12 (n := n) (m := m) hi hX R
      exact ⟨n2, m2, G2, J, R2, fun res h => Ev_tableIn (tgt := 656) (off := 623) hq_0' (show decode code 33 = .ok (.tableswitch 1578 0 39 #[175, 198, 273, 286, 309, 372, 415, 458, 491, 534, 567, 600, 623, 646, 669, 702, 735, 778, 801, 844, 877, 900, 923, 956, 989, 1012, 1055, 1098, 1131, 1174, 1197, 1230, 1263, 1317, 1330, 1343, 1386, 1429, 1492, 1545], 175) by decide +kernel) (by decide) (by decide) rfl (by decide) (go res h)⟩
    | 13, _ =>
      obtain ⟨n2, m2, G2, J, R2, go⟩ := law_13 (n := n) (m := m) hi hX R
      exact ⟨n2, m2, G2, J, R2, fun res h => Ev_tableIn (tgt := 679) (off := 646) hq_0' (show decode code 33 = .ok (.tableswitch 1578 0 39 #[175, 198, 273, 286, 309, 372, 415, 458, 491, 534, 567, 600, 623, 646, 669, 702, 735, 778, 801, 844, 877, 900, 923, 956, 989, 1012, 1055, 1098, 1131, 1174, 1197, 1230, 1263, 1317, 1330, 1343, 1386, 1429, 1492, 1545], 175) by decide +kernel) (by decide) (by decide) rfl (by decide) (go res h)⟩
    | 14, _ =>
      obtain ⟨n2, m2, G2, J, R2, go⟩ := law_14 (n := n) (m := m) hi hX R
      exact ⟨n2, m2, G2, J, R2, fun res h => Ev_tableIn (tgt := 702) (off := 669) hq_0' (show decode code 33 = .ok (.tableswitch 1578 0 39 #[175, 198, 273, 286, 309, 372, 415, 458, 491, 534, 567, 600, 623, 646, 669, 702, 735, 778, 801, 844, 877, 900, 923, 956, 989, 1012, 1055, 1098, 1131, 1174, 1197, 1230, 1263, 1317, 1330, 1343, 1386, 1429, 1492, 1545], 175) by decide +kernel) (by decide) (by decide) rfl (by decide) (go res h)⟩
    | 15, _ =>
      obtain ⟨n2, m2, G2, J, R2, go⟩ := law_15 (n := n) (m := m) hi hX R
      exact ⟨n2, m2, G2, J, R2, fun res h => Ev_tableIn (tgt := 735) (off := 702) hq_0' (show decode code 33 = .ok (.tableswitch 1578 0 39 #[175, 198, 273, 286, 309, 372, 415, 458, 491, 534, 567, 600, 623, 646, 669, 702, 735, 778, 801, 844, 877, 900, 923, 956, 989, 1012, 1055, 1098, 1131, 1174, 1197, 1230, 1263, 1317, 1330, 1343, 1386, 1429, 1492, 1545], 175) by decide +kernel) (by decide) (by decide) rfl (by decide) (go res h)⟩
    | 16, _ =>
      obtain ⟨n2, m2, G2, J, R2, go⟩ := law_16 (n := n) (m := m) hi hX R
      exact ⟨n2, m2, G2, J, R2, fun res h => Ev_tableIn (tgt := 768) (off := 735) hq_0' (show decode code 33 = .ok (.tableswitch 1578 0 39 #[175, 198, 273, 286, 309, 372, 415, 458, 491, 534, 567, 600, 623, 646, 669, 702, 735, 778, 801, 844, 877, 900, 923, 956, 989, 1012, 1055, 1098, 1131, 1174, 1197, 1230, 1263, 1317, 1330, 1343, 1386, 1429, 1492, 1545], 175) by decide +kernel) (by decide) (by decide) rfl (by decide) (go res h)⟩
    | 17, _ =>
      obtain ⟨n2, m2, G2, J, R2, go⟩ := law_17 (n := n) (m := m) hi hX R
      exact ⟨n2, m2, G2, J, R2, fun res h => Ev_tableIn (tgt := 811) (off := 778) hq_0' (show decode code 33 = .ok (.tableswitch 1578 0 39 #[175, 198, 273, 286, 309, 372, 415, 458, 491, 534, 567, 600, 623, 646, 669, 702, 735, 778, 801, 844, 877, 900, 923, 956, 989, 1012, 1055, 1098, 1131, 1174, 1197, 1230, 1263, 1317, 1330, 1343, 1386, 1429, 1492, 1545], 175) by decide +kernel) (by decide) (by decide) rfl (by decide) (go res h)⟩
    | 18, _ =>
      obtain ⟨n2, m2, G2, J, R2, go⟩ := law_18 (n := n) (m := m) hi hX R
      exact ⟨n2, m2, G2, J, R2, fun res h => Ev_tableIn (tgt := 834) (off := 801) hq_0' (show decode code 33 = .ok (.tableswitch 1578 0 39 #[175, 198, 273, 286, 309, 372, 415, 458, 491, 534, 567, 600, 623, 646, 669, 702, 735, 778, 801, 844, 877, 900, 923, 956, 989, 1012, 1055, 1098, 1131, 1174, 1197, 1230, 1263, 1317, 1330, 1343, 1386, 1429, 1492, 1545], 175) by decide +kernel) (by decide) (by decide) rfl (by decide) (go res h)⟩
    | 19, _ =>
      obtain ⟨n2, m2, G2, J, R2, go⟩ := law_19 (n := n) (m := m) hi hX R
      exact ⟨n2, m2, G2, J, R2, fun res h => Ev_tableIn (tgt := 877) (off := 844) hq_0' (show decode code 33 = .ok (.tableswitch 1578 0 39 #[175, 198, 273, 286, 309, 372, 415, 458, 491, 534, 567, 600, 623, 646, 669, 702, 735, 778, 801, 844, 877, 900, 923, 956, 989, 1012, 1055, 1098, 1131, 1174, 1197, 1230, 1263, 1317, 1330, 1343, 1386, 1429, 1492, 1545], 175) by decide +kernel) (by decide) (by decide) rfl (by decide) (go res h)⟩
    | 20, _ =>
      obtain ⟨n2, m2, G2, J, R2, go⟩ := law_20 (n := n) (m := m) hi hX R
      exact ⟨n2, m2, G2, J, R2, fun res h => Ev_tableIn (tgt := 910) (off := 877) hq_0' (show decode code 33 = .ok (.tableswitch 1578 0 39 #[175, 198, 273, 286, 309, 372, 415, 458, 491, 534, 567, 600, 623, 646, 669, 702, 735, 778, 801, 844, 877, 900, 923, 956, 989, 1012, 1055, 1098, 1131, 1174, 1197, 1230, 1263, 1317, 1330, 1343, 1386, 1429, 1492, 1545], 175) by decide +kernel) (by decide) (by decide) rfl (by decide) (go res h)⟩
    | 21, _ =>
      obtain ⟨n2, m2, G2, J, R2, go⟩ := law_21 (n := n) (m := m) hi hX R
      exact ⟨n2, m2, G2, J, R2, fun res h => Ev_tableIn (tgt := 933) (off := 900) hq_0' (show decode code 33 = .ok (.tableswitch 1578 0 39 #[175, 198, 273, 286, 309, 372, 415, 458, 491, 534, 567, 600, 623, 646, 669, 702, 735, 778, 801, 844, 877, 900, 923, 956, 989, 1012, 1055, 1098, 1131, 1174, 1197, 1230, 1263, 1317, 1330, 1343, 1386, 1429, 1492, 1545], 175) by decide +kernel) (by decide) (by decide) rfl (by decide) (go res h)⟩
    | 22, _ =>
      obtain ⟨n2, m2, G2, J, R2, go⟩ := law_22 (n := n) (m := m) hi hX R
      exact ⟨n2, m2, G2, J, R2, fun res h => Ev_tableIn (tgt := 956) (off := 923) hq_0' (show decode code 33 = .ok (.tableswitch 1578 0 39 #[175, 198, 273, 286, 309, 372, 415, 458, 491, 534, 567, 600, 623, 646, 669, 702, 735, 778, 801, 844, 877, 900, 923, 956, 989, 1012, 1055, 1098, 1131, 1174, 1197, 1230, 1263, 1317, 1330, 1343, 1386, 1429, 1492, 1545], 175) by decide +kernel) (by decide) (by decide) rfl (by decide) (go res h)⟩
    | 23, _ =>
      obtain ⟨n2, m2, G2, J, R2, go⟩ := law_23 (n := n) (m := m) hi hX R
      exact ⟨n2, m2, G2, J, R2, fun res h => Ev_tableIn (tgt := 989) (off := 956) hq_0' (show decode code 33 = .ok (.tableswitch 1578 0 39 #[175, 198, 273, 286, 309, 372, 415, 458, 491, 534, 567, 600, 623, 646, 669, 702, 735, 778, 801, 844, 877, 900, 923, 956, 989, 1012, 1055, 1098, 1131, 1174, 1197, 1230, 1263, 1317, 1330, 1343, 1386, 1429, 1492, 1545], 175) by decide +kernel) (by decide) (by decide) rfl (by decide) (go res h)⟩
    | 24, _ =>
      obtain ⟨n2, m2, G2, J, R2, go⟩ := law_24 (n := n) (m := m) hi hX R
      exact ⟨n2, m2, G2, J, R2, fun res h => Ev_tableIn (tgt := 1022) (off := 989) hq_0' (show decode code 33 = .ok (.tableswitch 1578 0 39 #[175, 198, 273, 286, 309, 372, 415, 458, 491, 534, 567, 600, 623, 646, 669, 702, 735, 778, 801, 844, 877, 900, 923, 956, 989, 1012, 1055, 1098, 1131, 1174, 1197, 1230, 1263, 1317, 1330, 1343, 1386, 1429, 1492, 1545], 175) by decide +kernel) (by decide) (by decide) rfl (by decide) (go res h)⟩
    | 25, _ =>
      obtain ⟨n2, m2, G2, J, R2, go⟩ := law_25 (n := n) (m := m) hi hX R
      exact ⟨n2, m2, G2, J, R2, fun res h => Ev_tableIn (tgt := 1045) (off := 1012) hq_0' (show decode code 33 = .ok (.tableswitch 1578 0 39 #[175, 198, 273, 286, 309, 372, 415, 458, 491, 534, 567, 600, 623, 646, 669, 702, 735, 778, 801, 844, 877, 900, 923, 956, 989, 1012, 1055, 1098, 1131, 1174, 1197, 1230, 1263, 1317, 1330, 1343, 1386, 1429, 1492, 1545], 175) by decide +kernel) (by decide) (by decide) rfl (by decide) (go res h)⟩
    | 26, _ =>
      obtain ⟨n2, m2, G2, J, R2, go⟩ := law_26 (n := n) (m := m) hi hX R
      exact ⟨n2, m2, G2, J, R2, fun res h => Ev_tableIn (tgt := 1088) (off := 1055) hq_0' (show decode code 33 = .ok (.tableswitch 1578 0 39 #[175, 198, 273, 286, 309, 372, 415, 458, 491, 534, 567, 600, 623, 646, 669, 702, 735, 778, 801, 844, 877, 900, 923, 956, 989, 1012, 1055, 1098, 1131, 1174, 1197, 1230, 1263, 1317, 1330, 1343, 1386, 1429, 1492, 1545], 175) by decide +kernel) (by decide) (by decide) rfl (by decide) (go res h)⟩
    | 27, _ =>
      obtain ⟨n2, m2, G2, J, R2, go⟩ := law_27 (n := n) (m := m) hi hX R
      exact ⟨n2, m2, G2, J, R2, fun res h => Ev_tableIn (tgt := 1131) (off := 1098) hq_0' (show decode code 33 = .ok (.tableswitch 1578 0 39 #[175, 198, 273, 286, 309, 372, 415, 458, 491, 534, 567, 600, 623, 646, 669, 702, 735, 778, 801, 844, 877, 900, 923, 956, 989, 1012, 1055, 1098, 1131, 1174, 1197, 1230, 1263, 1317, 1330, 1343, 1386, 1429, 1492, 1545], 175) by decide +kernel) (by decide) (by decide) rfl (by decide) (go res h)⟩
    | 28, _ =>
      obtain ⟨n2, m2, G2, J, R2, go⟩ := law_28 (n := n) (m := m) hi hX R
      exact ⟨n2, m2, G2, J, R2, fun res h => Ev_tableIn (tgt := 1164) (off := 1131) hq_0' (show decode code 33 = .ok (.tableswitch 1578 0 39 #[175, 198, 273, 286, 309, 372, 415, 458, 491, 534, 567, 600, 623, 646, 669, 702, 735, 778, 801, 844, 877, 900, 923, 956, 989, 1012, 1055, 1098, 1131, 1174, 1197, 1230, 1263, 1317, 1330, 1343, 1386, 1429, 1492, 1545], 175) by decide +kernel) (by decide) (by decide) rfl (by decide) (go res h)⟩
    | 29, _ =>
      obtain ⟨n2, m2, G2, J, R2, go⟩ := law_29 (n := n) (m := m) hi hX R
      exact ⟨n2, m2, G2, J, R2, fun res h => Ev_tableIn (tgt := 1207) (off := 1174) hq_0' (show decode code 33 = .ok (.tableswitch 1578 0 39 #[175, 198, 273, 286, 309, 372, 415, 458, 491, 534, 567, 600, 623, 646, 669, 702, 735, 778, 801, 844, 877, 900, 923, 956, 989, 1012, 1055, 1098, 1131, 1174, 1197, 1230, 1263, 1317, 1330, 1343, 1386, 1429, 1492, 1545], 175) by decide +kernel) (by decide) (by decide) rfl (by decide) (go res h)⟩
    | 30, _ =>
      obtain ⟨n2, m2, G2, J, R2, go⟩ := law_30 (n := n) (m := m) hi hX R
      exact ⟨n2, m2, G2, J, R2, fun res h => Ev_tableIn (tgt := 1230) (off := 1197) hq_0' (show decode code 33 = .ok (.tableswitch 1578 0 39 #[175, 198, 273, 286, 309, 372, 415, 458, 491, 534, 567, 600, 623, 646, 669, 702, 735, 778, 801, 844, 877, 900, 923, 956, 989, 1012, 1055, 1098, 1131, 1174, 1197, 1230, 1263, 1317, 1330, 1343, 1386, 1429, 1492, 1545], 175) by decide +kernel) (by decide) (by decide) rfl (by decide) (go res h)⟩
    | 31, _ =>
      obtain ⟨n2, m2, G2, J, R2, go⟩ := law_31 (n := n) (m := m) hi hX R
      exact ⟨n2, m2, G2, J, R2, fun res h => Ev_tableIn (tgt := 1263) (off := 1230) hq_0' (show decode code 33 = .ok (.tableswitch 1578 0 39 #[175, 198, 273, 286, 309, 372, 415, 458, 491, 534, 567, 600, 623, 646, 669, 702, 735, 778, 801, 844, 877, 900, 923, 956, 989, 1012, 1055, 1098, 1131, 1174, 1197, 1230, 1263, 1317, 1330, 1343, 1386, 1429, 1492, 1545], 175) by decide +kernel) (by decide) (by decide) rfl (by decide) (go res h)⟩
    | 32, _ =>
      obtain ⟨n2, m2, G2, J, R2, go⟩ := law_32 (n := n) (m := m) hi hX R
      exact ⟨n2, m2, G2, J, R2, fun res h => Ev_tableIn (tgt := 1296) (off := 1263) hq_0' (show decode code 33 = .ok (.tableswitch 1578 0 39 #[175, 198, 273, 286, 309, 372, 415, 458, 491, 534, 567, 600, 623, 646, 669, 702, 735, 778, 801, 844, 877, 900, 923, 956, 989, 1012, 1055, 1098, 1131, 1174, 1197, 1230, 1263, 1317, 1330, 1343, 1386, 1429, 1492, 1545], 175) by decide +kernel) (by decide) (by decide) rfl (by decide) (go res h)⟩
    | 33, _ =>
      obtain ⟨n2, m2, G2, J, R2, go⟩ := law_33 (n := n) (m := m) hi hX R
      exact ⟨n2, m2, G2, J, R2, fun res h => Ev_tableIn (tgt := 1350) (off := 1317) hq_0' (show decode code 33 = .ok (.tableswitch 1578 0 39 #[175, 198, 273, 286, 309, 372, 415, 458, 491, 534, 567, 600, 623, 646, 669, 702, 735, 778, 801, 844, 877, 900, 923, 956, 989, 1012, 1055, 1098, 1131, 1174, 1197, 1230, 1263, 1317, 1330, 1343, 1386, 1429, 1492, 1545], 175) by decide +kernel) (by decide) (by decide) rfl (by decide) (go res h)⟩
    | 34, _ =>
      obtain ⟨n2, m2, G2, J, R2, go⟩ := law_34 (n := n) (m := m) hi hX R
      exact ⟨n2, m2, G2, J, R2, fun res h => Ev_tableIn (tgt := 1363) (off := 1330) hq_0' (show decode code 33 = .ok (.tableswitch 1578 0 39 #[175, 198, 273, 286, 309, 372, 415, 458, 491, 534, 567, 600, 623, 646, 669, 702, 735, 778, 801, 844, 877, 900, 923, 956, 989, 1012, 1055, 1098, 1131, 1174, 1197, 1230, 1263, 1317, 1330, 1343, 1386, 1429, 1492, 1545], 175) by decide +kernel) (by decide) (by decide) rfl (by decide) (go res h)⟩
    | 35, _ =>
      obtain ⟨n2, m2, G2, J, R2, go⟩ := law_35 (n := n) (m := m) hi hX R
      exact ⟨n2, m2, G2, J, R2, fun res h => Ev_tableIn (tgt := 1376) (off := 1343) hq_0' (show decode code 33 = .ok (.tableswitch 1578 0 39 #[175, 198, 273, 286, 309, 372, 415, 458, 491, 534, 567, 600, 623, 646, 669, 702, 735, 778, 801, 844, 877, 900, 923, 956, 989, 1012, 1055, 1098, 1131, 1174, 1197, 1230, 1263, 1317, 1330, 1343, 1386, 1429, 1492, 1545], 175) by decide +kernel) (by decide) (by decide) rfl (by decide) (go res h)⟩
    | 36, _ =>
      obtain ⟨n2, m2, G2, J, R2, go⟩ := law_36 (n := n) (m := m) hi hX R
      exact ⟨n2, m2, G2, J, R2, fun res h => Ev_tableIn (tgt := 1419) (off := 1386) hq_0' (show decode code 33 = .ok (.tableswitch 1578 0 39 #[175, 198, 273, 286, 309, 372, 415, 458, 491, 534, 567, 600, 623, 646, 669, 702, 735, 778, 801, 844, 877, 900, 923, 956, 989, 1012, 1055, 1098, 1131, 1174, 1197, 1230, 1263, 1317, 1330, 1343, 1386, 1429, 1492, 1545], 175) by decide +kernel) (by decide) (by decide) rfl (by decide) (go res h)⟩
    | 37, _ =>
      obtain ⟨n2, m2, G2, J, R2, go⟩ := law_37 (n := n) (m := m) hi hX R
      exact ⟨n2, m2, G2, J, R2, fun res h => Ev_tableIn (tgt := 1462) (off := 1429) hq_0' (show decode code 33 = .ok (.tableswitch 1578 0 39 #[175, 198, 273, 286, 309, 372, 415, 458, 491, 534, 567, 600, 623, 646, 669, 702, 735, 778, 801, 844, 877, 900, 923, 956, 989, 1012, 1055, 1098, 1131, 1174, 1197, 1230, 1263, 1317, 1330, 1343, 1386, 1429, 1492, 1545], 175) by decide +kernel) (by decide) (by decide) rfl (by decide) (go res h)⟩
    | 38, _ =>
      obtain ⟨n2, m2, G2, J, R2, go⟩ := law_38 (n := n) (m := m) hi hX R
      exact ⟨n2, m2, G2, J, R2, fun res h => Ev_tableIn (tgt := 1525) (off := 1492) hq_0' (show decode code 33 = .ok (.tableswitch 1578 0 39 #[175, 198, 273, 286, 309, 372, 415, 458, 491, 534, 567, 600, 623, 646, 669, 702, 735, 778, 801, 844, 877, 900, 923, 956, 989, 1012, 1055, 1098, 1131, 1174, 1197, 1230, 1263, 1317, 1330, 1343, 1386, 1429, 1492, 1545], 175) by decide +kernel) (by decide) (by decide) rfl (by decide) (go res h)⟩
    | 39, _ =>
      obtain ⟨n2, m2, G2, J, R2, go⟩ := law_39 (n := n) (m := m) hi hX R
      exact ⟨n2, m2, G2, J, R2, fun res h => Ev_tableIn (tgt := 1578) (off := 1545) hq_0' (show decode code 33 = .ok (.tableswitch 1578 0 39 #[175, 198, 273, 286, 309, 372, 415, 458, 491, 534, 567, 600, 623, 646, 669, 702, 735, 778, 801, 844, 877, 900, 923, 956, 989, 1012, 1055, 1098, 1131, 1174, 1197, 1230, 1263, 1317, 1330, 1343, 1386, 1429, 1492, 1545], 175) by decide +kernel) (by decide) (by decide) rfl (by decide) (go res h)⟩
    | k + 40, h => exact absurd h (by omega)
  · exact ⟨n, m, G, I, R, fun res go => Ev_tableOut (tgt := 1611) hq_0' (show decode code 33 = .ok (.tableswitch 1578 0 39 #[175, 198, 273, 286, 309, 372, 415, 458, 491, 534, 567, 600, 623, 646, 669, 702, 735, 778, 801, 844, 877, 900, 923, 956, 989, 1012, 1055, 1098, 1131, 1174, 1197, 1230, 1263, 1317, 1330, 1343, 1386, 1429, 1492, 1545], 175) by decide +kernel) (Or.inr (by rw [zi_int (by omega)]; omega)) (by decide) go⟩
end
theorem law_end {X : Nat × (Nat → Int32)} {i : Nat} {G : zG} {I : zI} (hX : X.1 ≤ 3584) (hi : i ≤ 3584) (h : X.1 < i + 7) : Ev X 1000 0 18 [.retAddr (0 + 1), .ref 0, .ref 57, .int (zi i)] [] G I (some (.int 1), G, I) := by
  have e : zi X.1 - 7 < zi i := by
    have e7 : (7 : Int32).toInt = 7 := rfl
    have l := zi_int (n := X.1) (by omega)
    have li := zi_int (n := i) (by omega)
    refine z_lt.2 ?_
    rw [z_sub (by omega) (by omega)]
    omega
  refine Ev_iload_n hq_0' (show decode code 18 = .ok (.iload_n 3, 1) by decide +kernel) rfl ?_
  refine Ev_aloadx_n hq_0' (show decode code 19 = .ok (.aload_n 0, 1) by decide +kernel) (by omega) rfl ?_
  refine Ev_alenx (q := X) hq_0' (show decode code 20 = .ok (.arraylength, 1) by decide +kernel) rfl ?_
  refine Ev_bipush (v := 7) hq_0' (show decode code 21 = .ok (.bipush 7, 2) by decide +kernel) (by decide) ?_
  refine Ev_isub hq_0' (show decode code 23 = .ok (.isub, 1) by decide +kernel) ?_
  refine Ev_icmp_gt (tgt := 1617) hq_0' (show decode code 24 = .ok (.if_icmp .gt 1593, 3) by decide +kernel) (by decide) (fun _ => ?_) (fun q => absurd e q)
  refine Ev_iconst (v := 1) hq_0' (show decode code 1617 = .ok (.iconst 1, 1) by decide +kernel) (by decide) ?_
  exact Ev_iret hq_0' (show decode code 1618 = .ok (.ireturn, 1) by decide +kernel) rfl rfl
theorem law_loop {X : Nat × (Nat → Int32)} (hX : X.1 ≤ 3584) : ∀ (r i n m : Nat) (G : zG) (I : zI), X.1 < i + 7 + 7 * r → i ≤ 3584 → Rel n m G I I → ∃ (n2 m2 : Nat) (G2 : zG) (J : zI), Rel n2 m2 G2 J J ∧ Ev X 1000 0 18 [.retAddr (0 + 1), .ref 0, .ref 57, .int (zi i)] [] G I (some (.int 1), G2, J) := by
  intro r
  induction r with
  | zero =>
    intro i n m G I h hi R
    exact ⟨n, m, G, I, R, law_end hX hi (by omega)⟩
  | succ r ih =>
    intro i n m G I h hi R
    rcases Nat.lt_or_ge X.1 (i + 7) with e | e
    · exact ⟨n, m, G, I, R, law_end hX hi e⟩
    · obtain ⟨k, hk, ek⟩ := and63 (X.2 i)
      obtain ⟨n2, m2, G2, J2, R2, go⟩ := law_step e hX R hk
      obtain ⟨n3, m3, G3, J3, R3, k3⟩ := ih (i + 7) n2 m2 G2 J2 (by omega) (by omega) R2
      refine ⟨n3, m3, G3, J3, R3, ?_⟩
      have hq := hq_0'
      have nx : ¬ zi X.1 - 7 < zi i := by
        rw [show zi X.1 - 7 = zi (X.1 - 7) from zi_sub (b := 7) (by omega)]
        exact fun q => absurd ((zi_lt (by omega) (by omega)).1 q) (by omega)
      refine Ev_iload_n hq_0' (show decode code 18 = .ok (.iload_n 3, 1) by decide +kernel) rfl ?_
      refine Ev_aloadx_n hq_0' (show decode code 19 = .ok (.aload_n 0, 1) by decide +kernel) (by omega) rfl ?_
      refine Ev_alenx (q := X) hq_0' (show decode code 20 = .ok (.arraylength, 1) by decide +kernel) rfl ?_
      refine Ev_bipush (v := 7) hq_0' (show decode code 21 = .ok (.bipush 7, 2) by decide +kernel) (by decide) ?_
      refine Ev_isub hq_0' (show decode code 23 = .ok (.isub, 1) by decide +kernel) ?_
      refine Ev_icmp_gt (tgt := 1617) hq_0' (show decode code 24 = .ok (.if_icmp .gt 1593, 3) by decide +kernel) (by decide) (fun q => absurd q nx) (fun _ => ?_)
      refine Ev_aloadx_n hq_0' (show decode code 27 = .ok (.aload_n 0, 1) by decide +kernel) (by omega) rfl ?_
      refine Ev_iload_n hq_0' (show decode code 28 = .ok (.iload_n 3, 1) by decide +kernel) rfl ?_
      refine Ev_ialds hq_0' (show decode code 29 = .ok (.iaload, 1) by decide +kernel) (zi_inr (by omega) (by omega)) ?_
      rw [zi_nat (show i < _ by omega)]
      refine Ev_bipush (v := 63) hq_0' (show decode code 30 = .ok (.bipush 63, 2) by decide +kernel) (by decide) ?_
      refine Ev_iand hq_0' (show decode code 32 = .ok (.iand, 1) by decide +kernel) ?_
      rw [ek]
      refine go _ ?_
      refine Ev_iinc (v := zi (i + 7)) (lo2 := [.retAddr (0 + 1), .ref 0, .ref 57, .int (zi (i + 7))]) hq_0' (show decode code 1611 = .ok (.iinc 3 7, 3) by decide +kernel) rfl (zi_add (b := 7)) rfl ?_
      exact Ev_goto (tgt := 18) hq_0' (show decode code 1614 = .ok (.goto (-1596), 3) by decide +kernel) (by decide) k3
set_option maxRecDepth 20000 in
theorem z_runs : zRuns := by
  intro X hX
  obtain ⟨I4, J4, kT, kZ, R⟩ := start_rel (X := X)
  obtain ⟨n, m, G, J, R2, k⟩ := law_loop hX 3584 0 0 1 mG45 J4 (by omega) (by omega) R
  have t := R2.T
  have t6 := t.2.1
  have rm := R2.room
  have go : Ev X 1000 0 0 [.retAddr (0 + 1), zU, zU, zU] [] cG0 zI0 (some (.int 1), G, J) := by
    refine Ev_nO (c := 4) (l := 13) (G2 := cG1) (I2 := cI1 zI0) hq_0' (show decode code 0 = .ok (.new 7, 3) by decide +kernel) rfl (by decide) rfl rfl cG0_n rfl rfl ?_
    refine Ev_dup hq_0' (show decode code 3 = .ok (.dup, 1) by decide +kernel) rfl ?_
    refine Ev_spec (as := []) hq_0' (show decode code 4 = .ok (.invokespecial 9, 3) by decide +kernel) rfl (by decide) hq_1 rfl (z_le rfl) (kT.deep (by omega)) ?_
    refine Ev_astore_n (lo2 := [.retAddr (0 + 1), .ref 0, zU, zU]) hq_0' (show decode code 7 = .ok (.astore_n 1, 1) by decide +kernel) (z_le rfl) rfl ?_
    refine Ev_nO (c := 5) (l := 39) (G2 := mG1) (I2 := mI1 I4) hq_0' (show decode code 8 = .ok (.new 10, 3) by decide +kernel) rfl (by decide) rfl rfl mG0_n rfl rfl ?_
    refine Ev_dup hq_0' (show decode code 11 = .ok (.dup, 1) by decide +kernel) rfl ?_
    refine Ev_spec (as := []) hq_0' (show decode code 12 = .ok (.invokespecial 12, 3) by decide +kernel) rfl (by decide) hq_128 rfl (z_le rfl) (kZ.deep (by omega)) ?_
    refine Ev_astore_n (lo2 := [.retAddr (0 + 1), .ref 0, .ref 57, zU]) hq_0' (show decode code 15 = .ok (.astore_n 2, 1) by decide +kernel) (z_le rfl) rfl ?_
    refine Ev_iconst (v := zi 0) hq_0' (show decode code 16 = .ok (.iconst 0, 1) by decide +kernel) (by decide) ?_
    exact Ev_istore_n (lo2 := [.retAddr (0 + 1), .ref 0, .ref 57, .int (zi 0)]) hq_0' (show decode code 17 = .ok (.istore_n 3, 1) by decide +kernel) (z_le rfl) rfl k
  obtain ⟨f, e⟩ := go
  exact ⟨f, G, J, e, by omega, by omega⟩
