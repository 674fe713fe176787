-- what the launch gives
def nwL : List Cond := flatC (Jvm.Cond.and given_1 narrow_1)
def siL : List Nat := [150, 156, 159, 162, 165, 168, 171, 174, 177, 180, 183, 186, 191, 194, 197, 200, 203, 206, 209, 212, 215, 218, 221, 224, 227, 230, 233, 236, 239]
def exL : List Nat := [1022, 1033, 1043, 1053, 1067, 1085, 1093, 1105, 928, 937, 946, 1015, 1007, 953, 971, 983, 1075, 1119, 1130, 1142, 1155, 1166, 1114, 961, 966, 997, 1002, 992, 924]
def coL : List Nat := [1023, 1034, 1044, 1054, 1068, 1086, 1094, 1106, 929, 938, 947, 1016, 1008, 954, 972, 984, 1076, 1120, 1131, 1143, 1156, 1167, 1115, 962, 967, 998, 1003, 993, 925]
def arL : List Nat := [1024, 1035, 1045, 1055, 1069, 1087, 1095, 1107, 930, 939, 948, 1017, 1009, 955, 973, 985, 1077, 1121, 1132, 1144, 1157, 1168, 1116, 963, 968, 999, 1004, 994, 926]
def leL : List Nat := [1025, 1036, 1046, 1056, 1070, 1088, 1096, 1108, 931, 940, 949, 1018, 1010, 956, 974, 986, 1078, 1122, 1133, 1145, 1158, 1169, 1117, 964, 969, 1000, 1005, 995, 927]
def elL : List (List Nat) := [[1026, 1027, 1028, 1029, 1030, 1031], [1037, 1038, 1039, 1040, 1041], [1047, 1048, 1049, 1050, 1051], [1057, 1058, 1059, 1060, 1061, 1062, 1063, 1064, 1065], [1071, 1072, 1073], [1089, 1090, 1091], [1097, 1098, 1099, 1100, 1101, 1102, 1103], [1109, 1110, 1111, 1112], [932, 933, 934, 935], [941, 942, 943, 944], [950, 951], [1019, 1020], [1011, 1012, 1013], [957, 958, 959], [975, 976, 977, 978, 979, 980, 981], [987, 988, 989, 990], [1079, 1080, 1081, 1082, 1083], [1123, 1124, 1125, 1126, 1127, 1128], [1134, 1135, 1136, 1137, 1138, 1139, 1140], [1146, 1147, 1148, 1149, 1150, 1151, 1152, 1153], [1159, 1160, 1161, 1162, 1163, 1164], [1170, 1171, 1172, 1173, 1174], [1118], [965], [970], [1001], [1006], [996], []]
def kxL : List Nat := [109, 113, 117, 121, 125, 133, 137, 141, 57, 61, 65, 105, 101, 69, 81, 85, 129, 151, 155, 159, 163, 167, 145, 73, 77, 93, 97, 89, 8, 4, 53]
def koL : List Nat := [110, 114, 118, 122, 126, 134, 138, 142, 58, 62, 66, 106, 102, 70, 82, 86, 130, 152, 156, 160, 164, 168, 146, 74, 78, 94, 98, 90, 9, 5, 54]
def kcL : List Nat := [112, 116, 120, 124, 128, 136, 140, 144, 60, 64, 68, 108, 104, 72, 84, 88, 132, 154, 158, 162, 166, 170, 148, 76, 80, 96, 100, 92, 11, 7, 56]
def klL : List Nat := [111, 115, 119, 123, 127, 135, 139, 143, 59, 63, 67, 107, 103, 71, 83, 87, 131, 153, 157, 161, 165, 169, 147, 75, 79, 95, 99, 91, 10, 6, 55]
def kaL : List Nat := [17, 18, 19, 20, 21, 22, 23, 24, 25, 26, 27, 28, 29, 30, 31, 32, 33, 34, 35, 36, 37, 38, 39, 40, 41, 42, 43, 44, 45, 46, 47]
def lsL : List Nat := [887, 906, 927, 929, 940, 959, 961, 963, 797, 799, 818, 877, 875, 838, 858, 860, 946, 2237, 2238, 2239, 2240, 2241, 965, 840, 842, 871, 873, 869, 718, 192, 779]
def rkL : List (Nat × Nat) := [(1743, 936), (1750, 945), (1759, 952), (1772, 960), (1781, 982), (1782, 991), (1791, 1084), (1792, 1129), (1793, 1141), (1794, 1154), (1795, 1165), (1796, 1175), (1797, 1014), (1798, 1021), (1803, 1032), (1812, 1042), (1821, 1052), (1830, 1066), (1831, 1074), (1860, 1092), (1865, 1104), (1866, 1113), (2236, 9999), (2242, 9999), (2243, 9999), (2244, 9999), (2245, 9999), (2246, 9999), (2247, 9999), (2248, 9999), (2249, 9999), (2250, 9999), (2251, 9999), (2252, 9999), (2253, 9999), (2254, 9999), (2255, 9999), (2256, 9999), (2257, 9999), (2258, 9999), (2259, 9999), (2260, 9999), (2261, 9999), (2262, 9999), (2263, 9999), (2264, 9999), (2265, 9999), (2266, 9999), (2267, 9999), (2268, 9999), (2269, 9999)]
def xrL : List (Nat × Nat) := [(1010, 287), (1046, 320), (1067, 354), (1091, 386), (1116, 413), (1134, 442), (1147, 458), (1177, 484), (1208, 512), (1215, 534), (1232, 558), (1234, 579), (1235, 613), (1281, 637), (1531, 659), (1614, 700)]
def ncL : List (List Nat) := [[0, 247, 215, 199, 231], [186, 0, 218, 202, 234], [184, 249, 0, 200, 233], [183, 248, 216, 0, 232], [185, 250, 217, 201, 0]]
def tmS (i : Nat) : Term := .string "RivalWeds$Kind" (siL.getD i 0)
def tmV (i : Nat) : Term := .field (tmS i) "java/lang/String" "value" "[B"
def tmK (k : Nat) : Term := .static "RivalWeds$Kind" (kindNm.getD k "") "LRivalWeds$Kind;"
set_option maxRecDepth 100000 in
theorem h_ex : ∀ i, i < 29 → nwL[exL.getD i 0]? = some (.exactly (tmS i) "java/lang/String") := by decide +kernel
set_option maxRecDepth 100000 in
theorem h_co : ∀ i, i < 29 → nwL[coL.getD i 0]? = some (.eq (.field (tmS i) "java/lang/String" "coder" "B") (.int 0)) := by decide +kernel
set_option maxRecDepth 100000 in
theorem h_ar : ∀ i, i < 29 → nwL[arL.getD i 0]? = some (.arrayOf (tmV i) .byte) := by decide +kernel
set_option maxRecDepth 100000 in
theorem h_le : ∀ i, i < 29 → nwL[leL.getD i 0]? = some (.eq (.length (tmV i)) (.int (Int32.ofNat (lenS.getD i 0)))) := by decide +kernel
set_option maxRecDepth 100000 in
theorem h_el : ∀ i, i < 29 → ∀ j, j < lenS.getD i 0 → nwL[(elL.getD i []).getD j 0]? = some (.eq (.elem (tmV i) (.int (Int32.ofNat j))) (.int ((bytS.getD i []).getD j 0))) := by decide +kernel
set_option maxRecDepth 100000 in
theorem h_kx : ∀ k, k < 31 → nwL[kxL.getD k 0]? = some (.exactly (tmK k) "RivalWeds$Kind") := by decide +kernel
set_option maxRecDepth 100000 in
theorem h_ko : ∀ k, k < 31 → nwL[koL.getD k 0]? = some (.eq (.field (tmK k) "java/lang/Enum" "ordinal" "I") (.int (Int32.ofNat k))) := by decide +kernel
set_option maxRecDepth 100000 in
theorem h_kc : ∀ k, k < 31 → nwL[kcL.getD k 0]? = some (.eq (.field (tmK k) "RivalWeds$Kind" "code" "I") (.int (kindC.getD k 0))) := by decide +kernel
set_option maxRecDepth 100000 in
theorem h_kl : ∀ k, k < 31 → nwL[klL.getD k 0]? = some (.eq (.field (tmK k) "RivalWeds$Kind" "letters" "Ljava/lang/String;") (tmS (kindS.getD k 0))) := by decide +kernel
set_option maxRecDepth 100000 in
theorem h_ka : ∀ k, k < 31 → nwL[kaL.getD k 0]? = some (.eq (.elem (.static "RivalWeds$Kind" "ALL" "[LRivalWeds$Kind;") (.int (Int32.ofNat k))) (tmK k)) := by decide +kernel
set_option maxRecDepth 100000 in
theorem h_ls : ∀ k, k < 31 → tables_1[lsL.getD k 0]? = some (.laysStatic "RivalWeds$Kind" (kindNm.getD k "") "LRivalWeds$Kind;") := by decide +kernel
set_option maxRecDepth 100000 in
theorem h_rk1 : ∀ n, n < strRefs.length → tables_1[(rkL.getD n (0, 0)).1]? = some (.stringRef (strRefs.getD n ("", 0, "", 0)).1 (strRefs.getD n ("", 0, "", 0)).2.1 (strRefs.getD n ("", 0, "", 0)).2.2.1) := by decide +kernel
set_option maxRecDepth 100000 in
theorem h_rk2 : ∀ n, n < strRefs.length → ((strRefs.getD n ("", 0, "", 0)).1 = "RivalWeds$Kind" ∧ (strRefs.getD n ("", 0, "", 0)).2.1 = siL.getD (strRefs.getD n ("", 0, "", 0)).2.2.2 0 ∨ nwL[(rkL.getD n (0, 0)).2]? = some (.eq (.string (strRefs.getD n ("", 0, "", 0)).1 (strRefs.getD n ("", 0, "", 0)).2.1) (tmS (strRefs.getD n ("", 0, "", 0)).2.2.2))) ∧ (strRefs.getD n ("", 0, "", 0)).2.2.2 < 29 := by decide +kernel
set_option maxRecDepth 100000 in
theorem h_xr : ∀ n, n < excRefs.length → tables_1[(xrL.getD n (0, 0)).1]? = some (.stringRef (excRefs.getD n ("", 0, "")).1 (excRefs.getD n ("", 0, "")).2.1 (excRefs.getD n ("", 0, "")).2.2) ∧ nwL[(xrL.getD n (0, 0)).2]? = some (.exactly (.string (excRefs.getD n ("", 0, "")).1 (excRefs.getD n ("", 0, "")).2.1) "java/lang/String") := by decide +kernel
set_option maxRecDepth 100000 in
theorem h_nc : ∀ a, a < 5 → ∀ b, b < 5 → a = b ∨ nwL[(ncL.getD a []).getD b 0]? = some (.not (.castable (excN.getD a "") (excN.getD b ""))) := by decide +kernel
theorem h_ks : ∀ k, k < 31 → kindS.getD k 0 < 29 := by decide +kernel
theorem h_lens : ∀ i, i < 29 → lenS.getD i 0 < 2147483648 := by decide +kernel
theorem lwG_out {w : Cond} (h : w ∈ lwG) (hx : w ∉ selX := by decide +kernel) : w ∈ lw_tbl := by
  rcases List.mem_append.mp (List.mem_filter.mp h).1 with h1 | h1
  · exact absurd h1 hx
  · exact h1
theorem nI_inj0 {a b : Nat} (ha : a < 6000) (hb : b < 6000) (h : Int32.ofNat a = Int32.ofNat b) : a = b := (nI_eq (by omega) (by omega)).mp h
theorem uo_X0 : ∀ w ∈ u_ws RX0 TX0 4, w ∈ lw_tbl := fun w hw => lwG_out (uin_X0 w hw) ((by decide +kernel : ∀ w ∈ u_ws RX0 TX0 4, w ∉ selX) w hw)
theorem uo_X2 : ∀ w ∈ u_ws RX2 TX2 6, w ∈ lw_tbl := fun w hw => lwG_out (uin_X2 w hw) ((by decide +kernel : ∀ w ∈ u_ws RX2 TX2 6, w ∉ selX) w hw)
theorem uo_X3 : ∀ w ∈ u_ws RX3 TX3 14, w ∈ lw_tbl := fun w hw => lwG_out (uin_X3 w hw) ((by decide +kernel : ∀ w ∈ u_ws RX3 TX3 14, w ∉ selX) w hw)
theorem uo_X4 : ∀ w ∈ u_ws RX4 TX4 7, w ∈ lw_tbl := fun w hw => lwG_out (uin_X4 w hw) ((by decide +kernel : ∀ w ∈ u_ws RX4 TX4 7, w ∉ selX) w hw)
theorem uo_X5 : ∀ w ∈ u_ws RX5 TX5 3, w ∈ lw_tbl := fun w hw => lwG_out (uin_X5 w hw) ((by decide +kernel : ∀ w ∈ u_ws RX5 TX5 3, w ∉ selX) w hw)
theorem uo_X6 : ∀ w ∈ u_ws RX6 TX6 1, w ∈ lw_tbl := fun w hw => lwG_out (uin_X6 w hw) ((by decide +kernel : ∀ w ∈ u_ws RX6 TX6 1, w ∉ selX) w hw)
theorem uo_X8 : ∀ w ∈ u_ws RX8 TX8 5, w ∈ lw_tbl := fun w hw => lwG_out (uin_X8 w hw) ((by decide +kernel : ∀ w ∈ u_ws RX8 TX8 5, w ∉ selX) w hw)
theorem uo_X9 : ∀ w ∈ u_ws RX9 TX9 20, w ∈ lw_tbl := fun w hw => lwG_out (uin_X9 w hw) ((by decide +kernel : ∀ w ∈ u_ws RX9 TX9 20, w ∉ selX) w hw)
theorem uo_X10 : ∀ w ∈ u_ws RX10 TX10 14, w ∈ lw_tbl := fun w hw => lwG_out (uin_X10 w hw) ((by decide +kernel : ∀ w ∈ u_ws RX10 TX10 14, w ∉ selX) w hw)
theorem uo_X11 : ∀ w ∈ u_ws RX11 TX11 17, w ∈ lw_tbl := fun w hw => lwG_out (uin_X11 w hw) ((by decide +kernel : ∀ w ∈ u_ws RX11 TX11 17, w ∉ selX) w hw)
theorem uo_X12 : ∀ w ∈ u_ws RX12 TX12 24, w ∈ lw_tbl := fun w hw => lwG_out (uin_X12 w hw) ((by decide +kernel : ∀ w ∈ u_ws RX12 TX12 24, w ∉ selX) w hw)
section START
variable {b : Nat} {s : State}
theorem ns {k : Nat} {w : Cond} (hgv : (Jvm.Cond.and given_1 narrow_1).before #[Value.ref b] s = true) (h : nwL[k]? = some w) : w.before #[Value.ref b] s = true := flat_of_before _ hgv w (List.mem_of_getElem? h)
theorem nt {k : Nat} {w : Cond} (hts : ∀ w ∈ lw_tbl, w.before #[Value.ref b] s = true) (h : tables_1[k]? = some w) : w.before #[Value.ref b] s = true := hts w (List.mem_append_right _ (List.mem_of_getElem? h))
theorem notA : ∀ a : Nat, a < s.heap.size → ¬ (fun q : Nat => s.heap.size ≤ q) a := fun _ h => Nat.not_le.mpr h
theorem st_str (hgv : (Jvm.Cond.and given_1 narrow_1).before #[Value.ref b] s = true) {i : Nat} (hi : i < 29) : ∃ q : Nat × Nat, (tmS i).eval #[Value.ref b] s none [] s = some (.ref q.1) ∧ va_O "java/lang/String" q.1 (fun q : Nat => s.heap.size ≤ q) s s.heap ∧ va_OF "java/lang/String" "coder" "B" (.int 0) q.1 (fun q : Nat => s.heap.size ≤ q) s s.heap ∧ va_OF "java/lang/String" "value" "[B" (.ref q.2) q.1 (fun q : Nat => s.heap.size ≤ q) s s.heap ∧ va_T .byte q.2 (lenS.getD i 0) (fun j => .int ((bytS.getD i []).getD j 0)) (fun q : Nat => s.heap.size ≤ q) s s.heap := by
  have hex := ns hgv (h_ex i hi)
  obtain ⟨a, c, cA, kA, q1, -⟩ := Cond.exactly_spec (args := #[Value.ref b]) (first := s) (o := none) (s := s) (idx := []) (t := tmS i) (cls := "java/lang/String") hex
  obtain ⟨t, ht, hT⟩ := va_Tof (f := fun j => .int ((bytS.getD i []).getD j 0)) (A := fun q : Nat => s.heap.size ≤ q) (h_lens i hi) (ns hgv (h_ar i hi)) (va_eqt (ns hgv (h_le i hi))) (fun j hj => va_eqt (ns hgv (h_el i hi j hj))) notA
  exact ⟨(a, t), q1, va_Oof hex q1 notA, vk_OFof q1 (va_eqt (ns hgv (h_co i hi))) notA, vk_OFof q1 ht notA, hT⟩
theorem st_kind (hts : ∀ w ∈ lw_tbl, w.before #[Value.ref b] s = true) (hgv : (Jvm.Cond.and given_1 narrow_1).before #[Value.ref b] s = true) {sad : Nat → Nat} (hs : ∀ i, i < 29 → (tmS i).eval #[Value.ref b] s none [] s = some (.ref (sad i))) {k : Nat} (hk : k < 31) : ∃ a : Nat, (tmK k).eval #[Value.ref b] s none [] s = some (.ref a) ∧ (Term.field (tmK k) "java/lang/Enum" "ordinal" "I").eval #[Value.ref b] s none [] s = some (.int (Int32.ofNat k)) ∧ va_Z "RivalWeds$Kind" (kindNm.getD k "") "LRivalWeds$Kind;" (.ref a) (fun q : Nat => s.heap.size ≤ q) s s.heap ∧ va_O "RivalWeds$Kind" a (fun q : Nat => s.heap.size ≤ q) s s.heap ∧
    va_OF "RivalWeds$Kind" "letters" "Ljava/lang/String;" (.ref (sad (kindS.getD k 0))) a (fun q : Nat => s.heap.size ≤ q) s s.heap ∧ va_OF "RivalWeds$Kind" "code" "I" (.int (kindC.getD k 0)) a (fun q : Nat => s.heap.size ≤ q) s s.heap := by
  have hex := ns hgv (h_kx k hk)
  obtain ⟨a, c, cA, kA, q1, -⟩ := Cond.exactly_spec (args := #[Value.ref b]) (first := s) (o := none) (s := s) (idx := []) (t := tmK k) (cls := "RivalWeds$Kind") hex
  exact ⟨a, q1, va_eqt (ns hgv (h_ko k hk)), va_Zref (nt hts (h_ls k hk)) (nt hts (k := 8) (by decide +kernel)) q1 notA, va_Oof hex q1 notA, vk_OFof q1 (va_eqv (ns hgv (h_kl k hk)) (hs _ (h_ks k hk))) notA, vk_OFof q1 (va_eqt (ns hgv (h_kc k hk))) notA⟩
theorem st_arr {ty : FieldType} (hno : ∀ C, ty ≠ .object C) (h : (Cond.arrayClass ty).before #[Value.ref b] s = true) : ∃ cA : ClassId, ArrOfT s cA ty ∧ va_RA s cA ty := by
  obtain ⟨c, k, comp, h1, h2, h3⟩ := Cond.arrayClass_spec (args := #[Value.ref b]) (first := s) (o := none) (s := s) (idx := []) h
  refine ⟨c, fun n z => ⟨fun k h => (by cases h), k, h2, comp, h3⟩, ?_⟩
  unfold va_RA
  cases ty <;> first | exact absurd rfl (hno _) | exact h1
theorem st_arrO {C : String} (h : (Cond.arrayOver (.object C)).before #[Value.ref b] s = true) : ∃ cA : ClassId, ArrOfT s cA (.object C) ∧ va_RA s cA (.object C) := by
  obtain ⟨comp, c, k, h1, h2, h3, h4, h5⟩ := Cond.arrayOver_spec (args := #[Value.ref b]) (first := s) (o := none) (s := s) (idx := []) h
  exact ⟨c, fun n z => ⟨fun k h => (by cases h), k, h3, comp, h4⟩, k, comp, h3, h4, h1, h5⟩
theorem st_cls (hts : ∀ w ∈ lw_tbl, w.before #[Value.ref b] s = true) : ∃ D : va_G, ∀ (c : Nat) (q : vw_C), vCl[c]? = some q → u_Kn s q.1 q.2.1 q.2.2 (D.1 c) (D.2 c) := by
  obtain ⟨c0, i0, h0⟩ := u_known (C := RX0) (T := TX0) (N := 4) (n := 4) hts uo_X0 (nt hts (k := 323) (by decide +kernel))
  obtain ⟨c1, i1, h1⟩ := u_known (C := RX1) (T := TX1) (N := 0) (n := 5) hts (fun w hw => nomatch hw) (nt hts (k := 727) (by decide +kernel))
  obtain ⟨c2, i2, h2⟩ := u_known (C := RX2) (T := TX2) (N := 6) (n := 6) hts uo_X2 (nt hts (k := 150) (by decide +kernel))
  obtain ⟨c3, i3, h3⟩ := u_known (C := RX3) (T := TX3) (N := 14) (n := 14) hts uo_X3 (nt hts (k := 258) (by decide +kernel))
  obtain ⟨c4, i4, h4⟩ := u_known (C := RX4) (T := TX4) (N := 7) (n := 7) hts uo_X4 (nt hts (k := 284) (by decide +kernel))
  obtain ⟨c5, i5, h5⟩ := u_known (C := RX5) (T := TX5) (N := 3) (n := 3) hts uo_X5 (nt hts (k := 348) (by decide +kernel))
  obtain ⟨c6, i6, h6⟩ := u_known (C := RX6) (T := TX6) (N := 1) (n := 1) hts uo_X6 (nt hts (k := 39) (by decide +kernel))
  obtain ⟨c7, i7, h7⟩ := u_known (C := RX8) (T := TX8) (N := 5) (n := 5) hts uo_X8 (nt hts (k := 366) (by decide +kernel))
  obtain ⟨c8, i8, h8⟩ := u_known (C := RX9) (T := TX9) (N := 20) (n := 20) hts uo_X9 (nt hts (k := 50) (by decide +kernel))
  obtain ⟨c9, i9, h9⟩ := u_known (C := RX10) (T := TX10) (N := 14) (n := 14) hts uo_X10 (nt hts (k := 179) (by decide +kernel))
  obtain ⟨c10, i10, h10⟩ := u_known (C := RX11) (T := TX11) (N := 17) (n := 17) hts uo_X11 (nt hts (k := 31) (by decide +kernel))
  obtain ⟨c11, i11, h11⟩ := u_known (C := RX12) (T := TX12) (N := 24) (n := 24) hts uo_X12 (nt hts (k := 1617) (by decide +kernel))
  refine ⟨(fun k => [c0, c1, c2, c3, c4, c5, c6, c7, c8, c9, c10, c11].getD k c0, fun k => [i0, i1, i2, i3, i4, i5, i6, i7, i8, i9, i10, i11].getD k i0), fun c q hq => ?_⟩
  match c, hq with
  | 0, hq => cases hq; exact h0
  | 1, hq => cases hq; exact h1
  | 2, hq => cases hq; exact h2
  | 3, hq => cases hq; exact h3
  | 4, hq => cases hq; exact h4
  | 5, hq => cases hq; exact h5
  | 6, hq => cases hq; exact h6
  | 7, hq => cases hq; exact h7
  | 8, hq => cases hq; exact h8
  | 9, hq => cases hq; exact h9
  | 10, hq => cases hq; exact h10
  | 11, hq => cases hq; exact h11
  | c + 12, hq => simp [vCl] at hq
set_option maxRecDepth 100000 in
theorem whole_gok (l : Launch) (hflags : l.flags = flags0) (hts : ∀ w ∈ lw_tbl, w.before #[Value.ref b] s = true) (hgv : (Jvm.Cond.and given_1 narrow_1).before #[Value.ref b] s = true) : ∃ (Γ : Gm) (D : va_G), Γ.1 = s.heap.size ∧ Gok l Γ D s ∧ va_AO "RivalWeds$Town" s ∧ va_AO "RivalWeds$Kind" s := by
  obtain ⟨D, hD⟩ := st_cls hts
  obtain ⟨c1, a1, r1⟩ := st_arr (ty := .int) (fun C h => by cases h) (nt hts (k := 48) (by decide +kernel))
  obtain ⟨c2, a2, r2⟩ := st_arr (ty := .boolean) (fun C h => by cases h) (nt hts (k := 1695) (by decide +kernel))
  obtain ⟨c3, a3, r3⟩ := st_arr (ty := .long) (fun C h => by cases h) (nt hts (k := 2201) (by decide +kernel))
  have hoT := nt hts (k := 177) (w := .arrayOver (.object "RivalWeds$Town")) (by decide +kernel)
  have hoK := nt hts (k := 190) (w := .arrayOver (.object "RivalWeds$Kind")) (by decide +kernel)
  obtain ⟨c4, a4, r4⟩ := st_arrO hoT
  obtain ⟨c5, a5, r5⟩ := st_arrO hoK
  have hS0 : ∀ i, ∃ q : Nat × Nat, i < 29 → (tmS i).eval #[Value.ref b] s none [] s = some (.ref q.1) ∧ va_O "java/lang/String" q.1 (fun q : Nat => s.heap.size ≤ q) s s.heap ∧ va_OF "java/lang/String" "coder" "B" (.int 0) q.1 (fun q : Nat => s.heap.size ≤ q) s s.heap ∧ va_OF "java/lang/String" "value" "[B" (.ref q.2) q.1 (fun q : Nat => s.heap.size ≤ q) s s.heap ∧ va_T .byte q.2 (lenS.getD i 0) (fun j => .int ((bytS.getD i []).getD j 0)) (fun q : Nat => s.heap.size ≤ q) s s.heap := by
    intro i
    by_cases hi : i < 29
    · obtain ⟨q, h⟩ := st_str hgv hi
      exact ⟨q, fun _ => h⟩
    · exact ⟨(0, 0), fun h => absurd h hi⟩
  obtain ⟨sa, hsa⟩ := Classical.axiomOfChoice hS0
  have hsE : ∀ i, i < 29 → (tmS i).eval #[Value.ref b] s none [] s = some (.ref (sa i).1) := fun i hi => (hsa i hi).1
  have hK0 : ∀ k, ∃ a : Nat, k < 31 → (tmK k).eval #[Value.ref b] s none [] s = some (.ref a) ∧ (Term.field (tmK k) "java/lang/Enum" "ordinal" "I").eval #[Value.ref b] s none [] s = some (.int (Int32.ofNat k)) ∧ va_Z "RivalWeds$Kind" (kindNm.getD k "") "LRivalWeds$Kind;" (.ref a) (fun q : Nat => s.heap.size ≤ q) s s.heap ∧ va_O "RivalWeds$Kind" a (fun q : Nat => s.heap.size ≤ q) s s.heap ∧
    va_OF "RivalWeds$Kind" "letters" "Ljava/lang/String;" (.ref (sa (kindS.getD k 0)).1) a (fun q : Nat => s.heap.size ≤ q) s s.heap ∧ va_OF "RivalWeds$Kind" "code" "I" (.int (kindC.getD k 0)) a (fun q : Nat => s.heap.size ≤ q) s s.heap := by
    intro k
    by_cases hk : k < 31
    · obtain ⟨a, h⟩ := st_kind hts hgv hsE hk
      exact ⟨a, fun _ => h⟩
    · exact ⟨0, fun h => absurd h hk⟩
  obtain ⟨ka, hka⟩ := Classical.axiomOfChoice hK0
  obtain ⟨al, hal, hAL⟩ := va_Tof (tm := .static "RivalWeds$Kind" "ALL" "[LRivalWeds$Kind;") (ty := .object "RivalWeds$Kind") (N := 31) (f := fun j => .ref (ka j)) (A := fun q : Nat => s.heap.size ≤ q) (by decide) (ns hgv (k := 14) (by decide +kernel)) (va_eqt (ns hgv (k := 15) (by decide +kernel))) (fun j hj => va_eqv (ns hgv (h_ka j hj)) (hka j hj).1) notA
  let ad : Nat → Nat := fun n => if n < 100 then ka n else if n < 200 then (sa (n - 100)).1 else if n < 300 then (sa (n - 200)).2 else al
  have adk : ∀ k, k < 31 → ad k = ka k := fun k hk => if_pos (by omega)
  have ads : ∀ i, i < 29 → ad (100 + i) = (sa i).1 := fun i hi => by
    show (if 100 + i < 100 then _ else if 100 + i < 200 then _ else _) = _
    rw [if_neg (by omega), if_pos (by omega), Nat.add_sub_cancel_left]
  have adv : ∀ i, i < 29 → ad (200 + i) = (sa i).2 := fun i hi => by
    show (if 200 + i < 100 then _ else if 200 + i < 200 then _ else if 200 + i < 300 then _ else _) = _
    rw [if_neg (by omega), if_neg (by omega), if_pos (by omega), Nat.add_sub_cancel_left]
  have ada : ad 300 = al := rfl
  refine ⟨(s.heap.size, (c1, c2, c3, c4, c5), ad), D, rfl, ⟨⟨hD, fun k q hq => ?_⟩, ?_, ?_, ?_, ?_, ?_, ?_, ?_, ?_⟩, va_AO.of hoT, va_AO.of hoK⟩
  · have hq9 : ([(c1, .int), (c2, .boolean), (c3, .long), (c4, .object "RivalWeds$Town"), (c5, .object "RivalWeds$Kind")] : List (ClassId × FieldType))[k]? = some q := hq
    match k, hq9 with
    | 0, h => cases h; exact ⟨a1, r1⟩
    | 1, h => cases h; exact ⟨a2, r2⟩
    | 2, h => cases h; exact ⟨a3, r3⟩
    | 3, h => cases h; exact ⟨a4, r4⟩
    | 4, h => cases h; exact ⟨a5, r5⟩
    | k + 5, h => simp at h
  · unfold Launch.stackTraces; rw [hflags]; decide
  · intro w hw
    have h9 : w ∈ lw_tbl ∧ w.onTables = true := (by decide +kernel : ∀ w ∈ nestW, w ∈ lw_tbl ∧ w.onTables = true) w hw
    exact va_Nw.of h9.2 (hts w h9.1)
  · intro w hw
    have h9 : w ∈ lw_tbl ∧ w.onTables = true := (by decide +kernel : ∀ w ∈ declW, w ∈ lw_tbl ∧ w.onTables = true) w hw
    exact va_Nw.of h9.2 (hts w h9.1)
  · intro i hi
    obtain ⟨-, h2, h3, h4, h5⟩ := hsa i hi
    show va_O _ (ad (100 + i)) _ _ _ ∧ va_OF _ _ _ _ (ad (100 + i)) _ _ _ ∧ va_OF _ _ _ (.ref (ad (200 + i))) (ad (100 + i)) _ _ _ ∧ va_T _ (ad (200 + i)) _ _ _ _ _
    rw [ads i hi, adv i hi]
    exact ⟨h2, h3, h4, h5⟩
  · refine ⟨fun q hq => ?_, fun q hq => ?_⟩
    · obtain ⟨n, hn⟩ := List.getElem?_of_mem hq
      have hl : n < strRefs.length := (List.getElem?_eq_some_iff.mp hn).1
      have e1 : strRefs.getD n ("", 0, "", 0) = q := by rw [List.getD_eq_getElem?_getD, hn]; rfl
      have g1 := h_rk1 n hl
      have g2 := h_rk2 n hl
      rw [e1] at g1 g2
      show vk_R q.1 q.2.1 q.2.2.1 (ad (100 + q.2.2.2)) s
      rw [ads _ g2.2]
      refine vk_R.of (nt hts g1) ?_
      rcases g2.1 with ⟨h1, h2⟩ | h1
      · rw [h1, h2]; exact hsE _ g2.2
      · exact va_eqv (ns hgv h1) (hsE _ g2.2)
    · obtain ⟨n, hn⟩ := List.getElem?_of_mem hq
      have hl : n < excRefs.length := (List.getElem?_eq_some_iff.mp hn).1
      have e1 : excRefs.getD n ("", 0, "") = q := by rw [List.getD_eq_getElem?_getD, hn]; rfl
      have g1 := h_xr n hl
      rw [e1] at g1
      obtain ⟨a, c, cA, kA, q1, -⟩ := Cond.exactly_spec (args := #[Value.ref b]) (first := s) (o := none) (s := s) (idx := []) (ns hgv g1.2)
      exact ⟨a, vk_R.of (nt hts g1.1) q1⟩
  · refine ⟨fun k hk => ?_, fun i j hi hj hij => ?_, ?_, ?_⟩
    · obtain ⟨-, -, h3, h4, h5, h6⟩ := hka k hk
      show va_Z _ _ _ (.ref (ad k)) _ _ _ ∧ va_O _ (ad k) _ _ _ ∧ va_OF _ _ _ (.ref (ad (100 + kindS.getD k 0))) (ad k) _ _ _ ∧ va_OF _ _ _ _ (ad k) _ _ _
      rw [adk k hk, ads _ (h_ks k hk)]
      exact ⟨h3, h4, h5, h6⟩
    · have h9 : ad i = ad j := hij
      rw [adk i hi, adk j hj] at h9
      have e1 := (hka i hi).2.1
      have e2 := (hka j hj).2.1
      rw [va_fe (hka i hi).1] at e1
      rw [va_fe (hka j hj).1] at e2
      rw [h9, e2] at e1
      have h7 := Value.int.inj (Option.some.inj e1)
      exact (nI_inj0 (by omega) (by omega) h7).symm
    · exact va_Zref (nt hts (k := 723) (by decide +kernel)) (nt hts (k := 8) (by decide +kernel)) hal notA
    · show va_T _ al 31 (fun j => .ref (ad j)) _ _ _
      obtain ⟨cell, h1, h2, h3, h4, h5, h6⟩ := hAL
      exact ⟨cell, h1, h2, h3, h4, h5, fun j hj => by show _ = some (Value.ref (ad j)); rw [adk j hj]; exact h6.1 j hj, h6.2⟩
  · refine ⟨va_Zof (nt hts (k := 738) (by decide +kernel)) (nt hts (k := 17) (by decide +kernel)) (va_eqi (ns hgv (k := 48) (by decide +kernel))) notA, va_Zqof (nt hts (k := 754) (by decide +kernel)) (nt hts (k := 19) (by decide +kernel)) (ns hgv (k := 49) (by decide +kernel)) notA, vx_Zqof (nt hts (k := 994) (by decide +kernel)) (nt hts (k := 21) (by decide +kernel)) (ns hgv (k := 149) (by decide +kernel)) notA, vx_Zqof (nt hts (k := 996) (by decide +kernel)) (nt hts (k := 21) (by decide +kernel)) (ns hgv (k := 150) (by decide +kernel)) notA⟩
  · refine ⟨fun e he => ?_, fun e he f hf hne => ?_⟩
    · have h9 : Cond.castable e e ∈ lw_tbl := (by decide +kernel : ∀ e ∈ excN, Cond.castable e e ∈ lw_tbl) e he
      exact va_Nw.of rfl (hts _ h9)
    · obtain ⟨i, hi⟩ := List.getElem?_of_mem he
      obtain ⟨j, hj⟩ := List.getElem?_of_mem hf
      have li : i < 5 := (List.getElem?_eq_some_iff.mp hi).1
      have lj : j < 5 := (List.getElem?_eq_some_iff.mp hj).1
      have e1 : excN.getD i "" = e := by rw [List.getD_eq_getElem?_getD, hi]; rfl
      have e2 : excN.getD j "" = f := by rw [List.getD_eq_getElem?_getD, hj]; rfl
      rcases h_nc i li j lj with h1 | h1
      · subst h1
        exact absurd (e1.symm.trans e2) hne
      · rw [e1, e2] at h1
        exact va_Nc.of (ns hgv h1)
end START
