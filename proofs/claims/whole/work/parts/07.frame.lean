/-! What holds of a frame while the light machine goes. -/
theorem qa_cl_get : ∀ c, c < 13 → vwCl[c]? = some (qa_own c, qa_clT c, qa_cn c) := by
  intro c h
  rcases (show c = 0 ∨ c = 1 ∨ c = 2 ∨ c = 3 ∨ c = 4 ∨ c = 5 ∨ c = 6 ∨ c = 7 ∨ c = 8 ∨ c = 9 ∨ c = 10 ∨ c = 11 ∨ c = 12 by omega) with rfl | rfl | rfl | rfl | rfl | rfl | rfl | rfl | rfl | rfl | rfl | rfl | rfl <;> rfl
theorem qa_mW {w : Cond} (h : (decide (w ∈ lw_tbl) && goodWord w) = true) : w ∈ qa_W := by
  obtain ⟨h1, h2⟩ := qa_and h
  exact List.mem_filter.mpr ⟨of_decide_eq_true h1, h2⟩
set_option maxRecDepth 20000 in
theorem qa_cl_in9 : (List.range 13).all (fun c => (u_ws (qa_own c) (qa_clT c) (qa_cn c)).all fun w => decide (w ∈ lw_tbl) && goodWord w) = true := by decide +kernel
theorem qa_cl_in {c : Nat} (h : c < 13) : ∀ w ∈ u_ws (qa_own c) (qa_clT c) (qa_cn c), w ∈ qa_W := fun w hw => qa_mW (List.all_eq_true.mp (List.all_eq_true.mp qa_cl_in9 c (List.mem_range.mpr h)) w hw)
theorem qa_cl_ty : ∀ c, c < 13 → ∀ k, k < qa_cn c → parseFieldDescriptor (qa_clT c k).2.2.1 = some (qa_cty c k) := by decide +kernel
theorem qa_cl_nm : ∀ c, c < 13 → ∀ a, a < qa_cn c → ∀ b, b < qa_cn c → a ≠ b → (qa_clT c a).2.1 ≠ (qa_clT c b).2.1 := by decide +kernel
def qa_isRT (t : FieldType) : Bool := match t with | .object _ => true | .array _ => true | _ => false
theorem qa_kd9 : ∀ k, k < 60 → qa_oc k < 13 → qa_nf k = qa_cn (qa_oc k) ∧ ∀ j, j < qa_nf k → (match qa_tg k j with | 0 => decide (qa_cty (qa_oc k) j = .int) | 1 => decide (qa_cty (qa_oc k) j = .boolean) | 2 => decide (qa_cty (qa_oc k) j = .long) | _ => qa_isRT (qa_cty (qa_oc k) j)) = true := by decide +kernel
set_option maxRecDepth 20000 in
theorem qa_pf9 : (qa_pf.all fun q => match q with | (o, i, k, j, n) => match n with
  | true => decide (Cond.fieldLinkNest (qa_own o) i (qa_clT (qa_oc k) j).1 (qa_clT (qa_oc k) j).2.1 (qa_clT (qa_oc k) j).2.2.1 "DitchOpen" ∈ lw_tbl) && !(qa_clT (qa_oc k) j).2.2.2
  | false => decide (Cond.fieldLink (qa_own o) i (qa_clT (qa_oc k) j).1 (qa_clT (qa_oc k) j).2.1 (qa_clT (qa_oc k) j).2.2.1 ∈ lw_tbl) && (goodWord (Cond.fieldLink (qa_own o) i (qa_clT (qa_oc k) j).1 (qa_clT (qa_oc k) j).2.1 (qa_clT (qa_oc k) j).2.2.1) && decide ((qa_clT (qa_oc k) j).1 = qa_own (qa_oc k)))) = true := by decide +kernel
/-- the links to nest mates' fields and methods are no words that a contract can ask for: they are carried beside -/
def qa_nest (U : State) : Prop := (∀ q, q ∈ qa_pf → q.2.2.2.2 = true → va_Nw (Cond.fieldLinkNest (qa_own q.1) q.2.1 (qa_clT (qa_oc q.2.2.1) q.2.2.2.1).1 (qa_clT (qa_oc q.2.2.1) q.2.2.2.1).2.1 (qa_clT (qa_oc q.2.2.1) q.2.2.2.1).2.2.1 "DitchOpen") U) ∧
  (∀ q, q ∈ qa_pm → q.2.2.2.2 = true → va_Nw (Cond.methodLinkNest (qa_own q.1) q.2.1 (qa_y q.2.2.1) "DitchOpen") U)
theorem qa_nest_warm {s U : State} (hW : s.WarmedH U.vm) (h : qa_nest s) : qa_nest U := ⟨fun q h1 h2 => va_Nw.warmF hW (h.1 q h1 h2), fun q h1 h2 => va_Nw.warmM hW (h.2 q h1 h2)⟩
theorem qa_nest_same {s U : State} (hv : U.vm = s.vm) (h : qa_nest s) : qa_nest U := ⟨fun q h1 h2 => va_Nw.same rfl hv.symm (h.1 q h1 h2), fun q h1 h2 => va_Nw.same rfl hv.symm (h.2 q h1 h2)⟩
theorem qa_pf_use {U : State} (hN : qa_nest U) {o i k j : Nat} (h : qa_pfc o i k j = true) :
    (va_Nw (Cond.fieldLinkNest (qa_own o) i (qa_clT (qa_oc k) j).1 (qa_clT (qa_oc k) j).2.1 (qa_clT (qa_oc k) j).2.2.1 "DitchOpen") U ∧ (qa_clT (qa_oc k) j).2.2.2 = false) ∨
    (Cond.fieldLink (qa_own o) i (qa_clT (qa_oc k) j).1 (qa_clT (qa_oc k) j).2.1 (qa_clT (qa_oc k) j).2.2.1 ∈ qa_W ∧ (qa_clT (qa_oc k) j).1 = qa_own (qa_oc k)) := by
  obtain ⟨⟨o', i', k', j', n⟩, hq, h2⟩ := List.any_eq_true.mp h
  obtain ⟨e1, h2⟩ := qa_and h2
  obtain ⟨e2, h2⟩ := qa_and h2
  obtain ⟨e3, e4⟩ := qa_and h2
  cases qa_beq e1; cases qa_beq e2; cases qa_beq e3; cases qa_beq e4
  have h3 := List.all_eq_true.mp qa_pf9 _ hq
  cases n with
  | true => exact Or.inl ⟨hN.1 _ hq rfl, by simpa using (qa_and h3).2⟩
  | false =>
    obtain ⟨a, b⟩ := qa_and h3
    obtain ⟨b, c⟩ := qa_and b
    exact Or.inr ⟨qa_mW (by rw [a, b]; rfl), of_decide_eq_true c⟩
set_option maxRecDepth 20000 in
theorem qa_pc9 : (qa_pc.all fun q => decide (Cond.constant (qa_own q.1) q.2.1 q.2.2 ∈ lw_tbl) && goodWord (Cond.constant (qa_own q.1) q.2.1 q.2.2)) = true := by decide +kernel
set_option maxRecDepth 20000 in
theorem qa_pl9 : (qa_pl.all fun q => decide (Cond.constantLong (qa_own q.1) q.2.1 q.2.2 ∈ lw_tbl) && goodWord (Cond.constantLong (qa_own q.1) q.2.1 q.2.2)) = true := by decide +kernel
theorem qa_ps9 : ∀ q, q ∈ qa_ps → q.2.2 < 3 ∧ qa_own q.1 = (qa_stx q.2.2).1 ∧ q.2.1 = (qa_stx q.2.2).2.1 := by decide +kernel
set_option maxRecDepth 20000 in
theorem qa_pg9 : (qa_pg.all fun q => decide (60 ≤ q.2.2 ∧ q.2.2 < 64) && (decide (Cond.fieldLink (qa_own q.1) q.2.1 (qa_sown q.2.2).1 (qa_sown q.2.2).2 "[I" ∈ lw_tbl) && goodWord (Cond.fieldLink (qa_own q.1) q.2.1 (qa_sown q.2.2).1 (qa_sown q.2.2).2 "[I"))) = true := by decide +kernel
set_option maxRecDepth 20000 in
theorem qa_pn9 : (qa_pn.all fun q => match Nat.blt (qa_oc q.2.2) 13 with
  | true => (decide (Cond.classLink (qa_own q.1) q.2.1 (qa_own (qa_oc q.2.2)) ∈ lw_tbl) && goodWord (Cond.classLink (qa_own q.1) q.2.1 (qa_own (qa_oc q.2.2)))) && ((decide (Cond.instantiable (qa_own (qa_oc q.2.2)) (qa_cn (qa_oc q.2.2)) ∈ lw_tbl) && goodWord (Cond.instantiable (qa_own (qa_oc q.2.2)) (qa_cn (qa_oc q.2.2)))) && (decide (Cond.initialized (qa_own (qa_oc q.2.2)) ∈ lw_tbl) && goodWord (Cond.initialized (qa_own (qa_oc q.2.2)))))
  | false => match qa_ti q.2.2 with
    | 6 => decide (Cond.classLink (qa_own q.1) q.2.1 "[[I" ∈ lw_tbl) && goodWord (Cond.classLink (qa_own q.1) q.2.1 "[[I")
    | _ => decide (Cond.classLink (qa_own q.1) q.2.1 (qa_own (qa_oc (qa_tk q.2.2 0))) ∈ lw_tbl) && goodWord (Cond.classLink (qa_own q.1) q.2.1 (qa_own (qa_oc (qa_tk q.2.2 0))))) = true := by decide +kernel
def qa_pmf (q : Nat × Nat × Nat × Nat × Bool) : List Cond := match q with
  | (o, i, c, v, n) => match Nat.ble 1000 c with
    | true => (match c with
      | 1000 => [.methodLink (qa_own o) i Lib.Math.max.name, .static Lib.Math.max.name, .initialized "java/lang/Math", .code Lib.Math.max.name Lib.Math.max.code 2 (some .int)]
      | 1001 => [.methodLink (qa_own o) i Lib.Math.min.name, .static Lib.Math.min.name, .initialized "java/lang/Math", .code Lib.Math.min.name Lib.Math.min.code 2 (some .int)]
      | 1002 => [.methodLink (qa_own o) i Lib.Math.abs.name, .static Lib.Math.abs.name, .initialized "java/lang/Math", .code Lib.Math.abs.name Lib.Math.abs.code 1 (some .int)]
      | 1003 => [.methodLink (qa_own o) i Lib.MathLoose.max_long.x, .static Lib.MathLoose.max_long.x, .initialized "java/lang/Math", .code Lib.MathLoose.max_long.x Lib.MathLoose.max_long.code 4 (some .long)]
      | 1004 => [.methodLink (qa_own o) i Lib.MathLoose.min_long.x, .static Lib.MathLoose.min_long.x, .initialized "java/lang/Math", .code Lib.MathLoose.min_long.x Lib.MathLoose.min_long.code 4 (some .long)]
      | 1005 => [.methodLink (qa_own o) i (qa_y2 1005), .instanceMethod (qa_y2 1005), .selects "java/lang/String" (qa_y2 1005) (qa_y2 1005), .initialized "java/lang/String"]
      | 1006 => [.methodLink (qa_own o) i (qa_y2 1006), .instanceMethod (qa_y2 1006), .selects "java/lang/String" (qa_y2 1006) (qa_y2 1006), .initialized "java/lang/String"]
      | 1007 => [.methodLink (qa_own o) i yL_reach, .static yL_reach, .initialized RL]
      | _ => [.methodLink (qa_own o) i objectInit, .instanceMethod objectInit, .code objectInit ⟨#[0xb1]⟩ 1 none])
    | false => .initialized (qa_y c).cls :: .initialized (qa_y c).cls :: (match n with | true => .initialized (qa_y c).cls | false => .methodLink (qa_own o) i (qa_y c)) :: (match v with
      | 0 => [.static (qa_y c)]
      | 1 => [.instanceMethod (qa_y c), .selects (qa_y c).cls (qa_y c) (qa_y c)]
      | _ => [.instanceMethod (qa_y c)])
def qa_pk (w : Cond) (i : Nat) : Bool := decide (lw_tbl[i]? = some w) && goodWord w
def qa_pkz (l : List ((Nat × Nat × Nat × Nat × Bool) × List Nat)) : Bool := l.all fun q => decide ((qa_pmf q.1).length = q.2.length) && ((qa_pmf q.1).zip q.2).all fun r => qa_pk r.1 r.2
def qa_pp0 : List (List Nat) := [[186, 139, 140], [113, 113, 516, 517], [111, 111, 640, 641, 642], [111, 111, 644, 645, 646], [111, 111, 520, 521, 522], [524, 525, 526, 123], [111, 111, 610, 611, 612], [113, 113, 616, 617], [620, 539, 540, 123], [113, 113, 621, 622], [111, 111, 624, 625, 626], [111, 111, 636, 637, 638], [252, 139, 140], [118, 118, 118, 257], [794, 556, 125, 557], [113, 113, 786, 787, 788], [117, 117, 790, 792, 19], [113, 113, 795, 796, 797], [118, 118, 799, 800, 801], [117, 117, 803, 805, 20], [117, 117, 1244, 783, 784], [118, 118, 987, 988, 989], [117, 117, 992, 940, 941], [117, 117, 993, 944, 945], [847, 553, 125, 554], [115, 115, 899, 735, 736], [115, 115, 900, 739, 740], [117, 117, 901, 813, 814], [117, 117, 1010, 984, 985], [117, 117, 1011, 1012, 1013], [117, 117, 1016, 896, 897], [117, 117, 816, 818, 21], [117, 117, 820, 822, 22], [117, 117, 848, 850, 24], [117, 117, 852, 854, 25], [117, 117, 864, 866, 26], [117, 117, 875, 877, 28], [117, 117, 879, 881, 29], [118, 118, 828, 829, 830], [117, 117, 824, 826, 23]]
set_option maxRecDepth 40000 in
theorem qa_pz0 : qa_pkz (((qa_pm.drop 0).take 40).zip qa_pp0) = true ∧ qa_pp0.length = ((qa_pm.drop 0).take 40).length := by decide +kernel
def qa_pp1 : List (List Nat) := [[114, 114, 832, 833, 834], [118, 118, 856, 857, 858], [118, 118, 860, 861, 862], [117, 117, 868, 870, 27], [118, 118, 963, 964, 965], [117, 117, 959, 960, 961], [117, 117, 1015, 956, 957], [117, 117, 923, 925, 31], [117, 117, 928, 929, 930], [118, 118, 927, 911, 912], [118, 118, 1290, 1291, 1292], [393, 139, 140], [117, 117, 1114, 1036, 1037], [120, 120, 1110, 1111, 1112], [117, 117, 1120, 1121, 1122], [1124, 553, 125, 554], [117, 117, 1125, 1007, 1008], [117, 117, 1126, 940, 941], [120, 120, 1132, 1134, 37], [120, 120, 1136, 1138, 38], [117, 117, 1140, 960, 961], [120, 120, 1154, 1128, 1129], [120, 120, 1149, 1107, 1108], [120, 120, 1150, 1152, 39], [199, 139, 140], [114, 114, 656, 658, 5], [111, 111, 660, 641, 642], [111, 111, 705, 645, 646], [111, 111, 661, 521, 522], [114, 114, 662, 664, 6], [114, 114, 682, 683], [114, 114, 685, 687, 10], [114, 114, 677, 679, 9], [114, 114, 701, 703, 14], [114, 114, 689, 691, 11], [114, 114, 693, 695, 12], [111, 111, 674, 611, 612], [114, 114, 697, 699, 13], [114, 114, 666, 668, 7], [114, 114, 670, 672, 8]]
set_option maxRecDepth 40000 in
theorem qa_pz1 : qa_pkz (((qa_pm.drop 40).take 40).zip qa_pp1) = true ∧ qa_pp1.length = ((qa_pm.drop 40).take 40).length := by decide +kernel
def qa_pp2 : List (List Nat) := [[676, 525, 526, 123], [111, 111, 681, 625, 626], [114, 114, 836, 837], [114, 114, 839, 840], [114, 114, 844, 845], [169, 139, 140], [112, 112, 1304, 1306, 43], [112, 112, 1310, 1312, 44], [112, 112, 1316, 1318, 45], [117, 117, 1308, 907, 908], [118, 118, 1309, 1291, 1292], [1314, 553, 125, 554], [1315, 556, 125, 557], [217, 139, 140], [111, 111, 714, 625, 626], [111, 111, 715, 641, 642], [111, 111, 716, 645, 646], [259, 139, 140], [118, 118, 991, 800, 801], [118, 118, 1294, 964, 965], [118, 118, 914, 829, 830], [419, 139, 140], [110, 110, 110, 768], [117, 117, 1184, 984, 985], [117, 117, 1185, 907, 908], [117, 117, 1186, 896, 897], [118, 118, 1195, 829, 830], [1196, 1197, 125, 1198], [121, 121, 1191, 1193, 42], [121, 121, 1180, 1182, 40], [121, 121, 1187, 1189, 41], [117, 117, 1203, 755, 756], [146, 139, 140], [111, 111, 475, 476], [111, 111, 478, 480, 0], [111, 111, 628, 521, 522], [111, 111, 629, 630], [377, 139, 140], [117, 117, 1006, 1007, 1008], [119, 119, 1017, 1019, 32]]
set_option maxRecDepth 40000 in
theorem qa_pz2 : qa_pkz (((qa_pm.drop 80).take 40).zip qa_pp2) = true ∧ qa_pp2.length = ((qa_pm.drop 80).take 40).length := by decide +kernel
def qa_pp3 : List (List Nat) := [[117, 117, 1022, 940, 941], [117, 117, 1021, 929, 930], [117, 117, 1035, 1036, 1037], [115, 115, 1047, 735, 736], [119, 119, 1048, 1050, 33], [117, 117, 1052, 984, 985], [117, 117, 1053, 1012, 1013], [115, 115, 1054, 739, 740], [117, 117, 1055, 813, 814], [119, 119, 1064, 1066, 34], [117, 117, 1068, 896, 897], [119, 119, 1077, 1079, 35], [117, 117, 1081, 956, 957], [119, 119, 1090, 1092, 36], [1094, 556, 125, 557], [117, 117, 1249, 907, 908], [117, 117, 1270, 1271, 1272], [119, 119, 1348, 1337, 1338], [117, 117, 1240, 1241, 1242], [117, 117, 1258, 1259, 1260], [117, 117, 1245, 1246, 1247], [117, 117, 1228, 1229, 1230], [117, 117, 1220, 1221, 1222], [117, 117, 1224, 1225, 1226], [230, 139, 140], [110, 110, 110, 768], [138, 139, 140], [111, 111, 111, 144], [112, 112, 112, 167], [113, 113, 113, 184], [114, 114, 114, 197], [115, 115, 115, 215], [116, 116, 116, 228], [117, 117, 249, 250], [119, 119, 374, 375], [120, 120, 390, 391], [121, 121, 416, 417], [111, 111, 471, 472, 473], [111, 111, 486, 487, 488], [110, 110, 494, 496, 1]]
set_option maxRecDepth 40000 in
theorem qa_pz3 : qa_pkz (((qa_pm.drop 120).take 40).zip qa_pp3) = true ∧ qa_pp3.length = ((qa_pm.drop 120).take 40).length := by decide +kernel
def qa_pp4 : List (List Nat) := [[110, 110, 500, 502, 2], [111, 111, 717, 718, 719], [111, 111, 504, 505, 506], [110, 110, 508, 510, 3], [113, 113, 512, 513, 514], [110, 110, 648, 650, 4], [114, 114, 652, 653, 654], [110, 110, 706, 708, 15], [115, 115, 710, 711, 712], [117, 117, 750, 751, 752], [110, 110, 730, 732, 16], [110, 110, 811, 768], [115, 115, 734, 735, 736], [115, 115, 738, 739, 740], [111, 111, 746, 747, 748], [117, 117, 754, 755, 756], [116, 116, 763, 764, 765], [110, 110, 774, 776, 17], [110, 110, 778, 780, 18], [117, 117, 782, 783, 784], [117, 117, 812, 813, 814], [117, 117, 883, 884, 885], [110, 110, 891, 893, 30], [117, 117, 895, 896, 897], [117, 117, 906, 907, 908], [118, 118, 910, 911, 912], [117, 117, 919, 920, 921], [110, 110, 936, 937], [117, 117, 939, 940, 941], [117, 117, 943, 944, 945], [117, 117, 947, 948, 949], [117, 117, 955, 956, 957], [117, 117, 975, 976, 977], [117, 117, 983, 984, 985], [119, 119, 1002, 1003, 1004], [119, 119, 1031, 1032, 1033], [119, 119, 1043, 1044, 1045], [119, 119, 1060, 1061, 1062], [119, 119, 1073, 1074, 1075], [119, 119, 1086, 1087, 1088]]
set_option maxRecDepth 40000 in
theorem qa_pz4 : qa_pkz (((qa_pm.drop 160).take 40).zip qa_pp4) = true ∧ qa_pp4.length = ((qa_pm.drop 160).take 40).length := by decide +kernel
def qa_pp5 : List (List Nat) := [[110, 110, 1099, 1100], [120, 120, 1102, 1103, 1104], [120, 120, 1106, 1107, 1108], [120, 120, 1115, 1111, 1112], [120, 120, 1116, 1117, 1118], [120, 120, 1127, 1128, 1129], [120, 120, 1145, 1146, 1147], [120, 120, 1159, 1160, 1161], [121, 121, 1167, 1168, 1169], [121, 121, 1176, 1177, 1178], [121, 121, 1199, 1200, 1201], [121, 121, 1208, 1209, 1210], [119, 119, 1216, 1217, 1218], [119, 119, 1236, 1237, 1238], [119, 119, 1254, 1255, 1256], [119, 119, 1266, 1267, 1268], [119, 119, 1278, 1279, 1280], [117, 117, 1286, 1287, 1288], [118, 118, 1295, 1291, 1292], [112, 112, 1300, 1301, 1302], [110, 110, 1324, 1325], [117, 117, 1327, 1328, 1329], [119, 119, 1336, 1337, 1338], [119, 119, 1344, 1345, 1346], [1425, 139, 140], [122, 122, 1576, 1577], [122, 122, 1599, 1601, 50], [122, 122, 1603, 1605, 51], [122, 122, 1595, 1597, 49], [122, 122, 1617, 1618], [122, 122, 1667, 1669, 64], [122, 122, 1647, 1649, 59], [122, 122, 1671, 1672], [122, 122, 1643, 1645, 58], [122, 122, 1655, 1657, 61], [122, 122, 1651, 1653, 60], [122, 122, 1663, 1665, 63], [122, 122, 1659, 1661, 62], [122, 122, 1678, 1679], [122, 122, 1639, 1641, 57]]
set_option maxRecDepth 40000 in
theorem qa_pz5 : qa_pkz (((qa_pm.drop 200).take 40).zip qa_pp5) = true ∧ qa_pp5.length = ((qa_pm.drop 200).take 40).length := by decide +kernel
def qa_pp6 : List (List Nat) := [[122, 122, 1635, 1637, 56], [122, 122, 1674, 1676, 65], [122, 122, 1681, 1683, 66], [122, 122, 1685, 1687, 67], [122, 122, 1627, 1629, 54], [122, 122, 1631, 1633, 55], [122, 122, 1689, 1691, 68], [1781, 1782, 125, 1783], [1784, 1785, 125, 1786], [122, 122, 1776, 1777], [122, 122, 1773, 1774], [122, 122, 1769, 1771, 82], [122, 122, 1620, 1621], [122, 122, 1607, 1608], [122, 122, 1610, 1611], [122, 122, 1613, 1615, 52], [122, 122, 1591, 1593, 48], [122, 122, 1587, 1589, 47], [122, 122, 1623, 1625, 53], [122, 122, 1693, 1695, 69], [122, 122, 1705, 1707, 70], [122, 122, 1713, 1715, 71], [122, 122, 1725, 1727, 72], [122, 122, 1729, 1731, 73], [122, 122, 1733, 1735, 74], [122, 122, 1753, 1755, 78], [122, 122, 1749, 1751, 77], [122, 122, 1757, 1759, 79], [122, 122, 1765, 1767, 81], [122, 122, 1761, 1763, 80], [122, 122, 1787, 1789, 83], [122, 122, 1745, 1747, 76], [122, 122, 1791, 1793, 84], [1798, 556, 125, 557], [122, 122, 1741, 1743, 75], [122, 122, 1803, 1805, 85], [122, 122, 1815, 1817, 86], [122, 122, 1823, 1824], [122, 122, 1830, 1832, 87], [122, 122, 1846, 1848, 89]]
set_option maxRecDepth 40000 in
theorem qa_pz6 : qa_pkz (((qa_pm.drop 240).take 40).zip qa_pp6) = true ∧ qa_pp6.length = ((qa_pm.drop 240).take 40).length := by decide +kernel
def qa_pp7 : List (List Nat) := [[122, 122, 1850, 1852, 90], [122, 122, 1854, 1856, 91], [122, 122, 1858, 1860, 92], [122, 122, 1842, 1844, 88], [122, 122, 1871, 1873, 93], [1875, 553, 125, 554], [122, 122, 1884, 1886, 94], [122, 122, 1888, 1890, 95], [122, 122, 1896, 1898, 96], [122, 122, 1900, 1902, 97], [1920, 1197, 125, 1198], [122, 122, 1916, 1918, 98], [122, 122, 1933, 1935, 99], [122, 122, 1937, 1939, 100], [122, 122, 1953, 1955, 101], [122, 122, 1961, 1963, 102], [122, 122, 1969, 1971, 103], [122, 122, 1977, 1979, 104], [122, 122, 1989, 1991, 106], [122, 122, 1985, 1987, 105], [122, 122, 1997, 1999, 107], [122, 122, 2005, 2006], [122, 122, 2016, 2018, 108], [110, 110, 135, 136], [122, 122, 1422, 1423], [110, 110, 467, 468, 469], [122, 122, 1572, 1573, 1574], [110, 110, 482, 483, 484], [122, 122, 1579, 1580, 1581], [110, 110, 490, 491, 492], [122, 122, 1583, 1584, 1585], [110, 110, 722, 723, 724], [122, 122, 1697, 1698, 1699], [1349, 1350, 109], [122, 122, 1701, 1702, 1703], [122, 122, 1568, 1569, 1570], [110, 110, 726, 727, 728], [122, 122, 1709, 1710, 1711], [110, 110, 759, 760, 761], [122, 122, 1717, 1718, 1719]]
set_option maxRecDepth 40000 in
theorem qa_pz7 : qa_pkz (((qa_pm.drop 280).take 40).zip qa_pp7) = true ∧ qa_pp7.length = ((qa_pm.drop 280).take 40).length := by decide +kernel
def qa_pp8 : List (List Nat) := [[110, 110, 770, 771, 772], [122, 122, 1721, 1722, 1723], [110, 110, 807, 808, 809], [122, 122, 1737, 1738, 1739], [110, 110, 887, 888, 889], [122, 122, 1799, 1800, 1801], [110, 110, 902, 903, 904], [122, 122, 1807, 1808, 1809], [110, 110, 915, 916, 917], [122, 122, 1811, 1812, 1813], [110, 110, 932, 933, 934], [122, 122, 1819, 1820, 1821], [110, 110, 951, 952, 953], [122, 122, 1826, 1827, 1828], [110, 110, 967, 968, 969], [122, 122, 1834, 1835, 1836], [110, 110, 998, 999, 1000], [122, 122, 1838, 1839, 1840], [110, 110, 1023, 1024, 1025], [122, 122, 1862, 1863, 1864], [110, 110, 1027, 1028, 1029], [122, 122, 1867, 1868, 1869], [110, 110, 1039, 1040, 1041], [122, 122, 1876, 1877, 1878], [110, 110, 1095, 1096, 1097], [122, 122, 1880, 1881, 1882], [110, 110, 1141, 1142, 1143], [122, 122, 1892, 1893, 1894], [110, 110, 1155, 1156, 1157], [122, 122, 1904, 1905, 1906], [110, 110, 1163, 1164, 1165], [122, 122, 1908, 1909, 1910], [110, 110, 1172, 1173, 1174], [122, 122, 1912, 1913, 1914], [110, 110, 1204, 1205, 1206], [122, 122, 1921, 1922, 1923], [110, 110, 1212, 1213, 1214], [122, 122, 1925, 1926, 1927], [110, 110, 1232, 1233, 1234], [122, 122, 1929, 1930, 1931]]
set_option maxRecDepth 40000 in
theorem qa_pz8 : qa_pkz (((qa_pm.drop 320).take 40).zip qa_pp8) = true ∧ qa_pp8.length = ((qa_pm.drop 320).take 40).length := by decide +kernel
def qa_pp9 : List (List Nat) := [[110, 110, 1250, 1251, 1252], [122, 122, 1941, 1942, 1943], [110, 110, 1262, 1263, 1264], [122, 122, 1945, 1946, 1947], [110, 110, 1056, 1057, 1058], [122, 122, 1949, 1950, 1951], [110, 110, 1069, 1070, 1071], [122, 122, 1957, 1958, 1959], [110, 110, 1082, 1083, 1084], [122, 122, 1965, 1966, 1967], [110, 110, 1274, 1275, 1276], [122, 122, 1973, 1974, 1975], [110, 110, 1282, 1283, 1284], [122, 122, 1981, 1982, 1983], [110, 110, 1296, 1297, 1298], [122, 122, 1993, 1994, 1995], [110, 110, 1320, 1321, 1322], [122, 122, 2001, 2002, 2003], [110, 110, 971, 972, 973], [122, 122, 2008, 2009, 2010], [110, 110, 1332, 1333, 1334], [122, 122, 2012, 2013, 2014], [110, 110, 1340, 1341, 1342], [122, 122, 2020, 2021, 2022], [110, 110, 979, 980, 981], [122, 122, 2024, 2025, 2026], [110, 110, 994, 995, 996], [122, 122, 2028, 2029, 2030], [110, 110, 742, 743, 744], [122, 122, 2032, 2033, 2034]]
set_option maxRecDepth 40000 in
theorem qa_pz9 : qa_pkz (((qa_pm.drop 360).take 40).zip qa_pp9) = true ∧ qa_pp9.length = ((qa_pm.drop 360).take 40).length := by decide +kernel
theorem qa_pk_use {q : Nat × Nat × Nat × Nat × Bool} {l : List (Nat × Nat × Nat × Nat × Bool)} {ps : List (List Nat)} (h : qa_pkz (l.zip ps) = true ∧ ps.length = l.length) (hq : q ∈ l) : ((qa_pmf q).all fun w => decide (w ∈ lw_tbl) && goodWord w) = true := by
  obtain ⟨i, hi⟩ := List.getElem?_of_mem hq
  have hl : i < l.length := (List.getElem?_eq_some_iff.mp hi).1
  have hp : ps[i]? = some ps[i] := List.getElem?_eq_getElem (by rw [h.2]; exact hl)
  have hz : (l.zip ps)[i]? = some (q, ps[i]) := by rw [List.getElem?_zip_eq_some]; exact ⟨hi, hp⟩
  obtain ⟨e1, e2⟩ := qa_and (List.all_eq_true.mp h.1 _ (List.mem_of_getElem? hz))
  have e1 := of_decide_eq_true e1
  refine List.all_eq_true.mpr fun w hw => ?_
  obtain ⟨j, hj⟩ := List.getElem?_of_mem hw
  have hjl : j < (qa_pmf q).length := (List.getElem?_eq_some_iff.mp hj).1
  have hj2 : (ps[i])[j]? = some (ps[i])[j] := List.getElem?_eq_getElem (by rw [← e1]; exact hjl)
  have hz2 : ((qa_pmf q).zip ps[i])[j]? = some (w, (ps[i])[j]) := by rw [List.getElem?_zip_eq_some]; exact ⟨hj, hj2⟩
  obtain ⟨g1, g2⟩ := qa_and (List.all_eq_true.mp e2 _ (List.mem_of_getElem? hz2))
  have g1 := of_decide_eq_true g1
  rw [show decide (w ∈ lw_tbl) = true from decide_eq_true (List.mem_of_getElem? g1), Bool.true_and]
  exact g2
theorem qa_pm9 : ∀ q ∈ qa_pm, ((qa_pmf q).all fun w => decide (w ∈ lw_tbl) && goodWord w) = true := by
  intro q hq
  have h : ∃ j, j < 10 ∧ q ∈ (qa_pm.drop (40 * j)).take 40 := by
    obtain ⟨i, hi⟩ := List.getElem?_of_mem hq
    have hl : i < qa_pm.length := (List.getElem?_eq_some_iff.mp hi).1
    have hn : qa_pm.length = 390 := by decide +kernel
    refine ⟨i / 40, by omega, ?_⟩
    refine List.mem_of_getElem? (i := i % 40) ?_
    rw [List.getElem?_take_of_lt (by omega), List.getElem?_drop, show 40 * (i / 40) + i % 40 = i by omega]
    exact hi
  obtain ⟨j, hj, h⟩ := h
  match j, hj, h with
  | 0, _, h => exact qa_pk_use qa_pz0 h
  | 1, _, h => exact qa_pk_use qa_pz1 h
  | 2, _, h => exact qa_pk_use qa_pz2 h
  | 3, _, h => exact qa_pk_use qa_pz3 h
  | 4, _, h => exact qa_pk_use qa_pz4 h
  | 5, _, h => exact qa_pk_use qa_pz5 h
  | 6, _, h => exact qa_pk_use qa_pz6 h
  | 7, _, h => exact qa_pk_use qa_pz7 h
  | 8, _, h => exact qa_pk_use qa_pz8 h
  | 9, _, h => exact qa_pk_use qa_pz9 h
  | j + 10, hj, _ => exact absurd hj (by omega)
theorem qa_pmx : ∀ q, q ∈ qa_pm → q.2.2.1 < 1000 → ((qa_y q.2.2.1).cls ≠ "java/lang/invoke/MethodHandle" ∧ (qa_y q.2.2.1).cls ≠ "java/lang/invoke/VarHandle") ∧ plainName (qa_y q.2.2.1).cls = true ∧ (q.2.2.2.1 = 2 → (qa_y q.2.2.1).name = "<init>" ∧ qa_ret q.2.2.1 = none) ∧ qa_mL q.2.2.1 ≤ 45 ∧ (q.2.2.2.2 = true → q.2.2.2.1 = 0 ∨ q.2.2.2.1 = 2) ∧ q.2.2.2.1 < 3 ∧ ((qa_cst q.2.2.1).1 = 0 → (qa_cst q.2.2.1).2 = 0) := by decide +kernel
theorem qa_pmx2 : ∀ q, q ∈ qa_pm → q.2.2.1 < 1000 → q.2.2.1 < 311 := by decide +kernel
def qa_tys (z : qa_S) : List (ClassId × FieldType) := (List.range 7).map fun t => (z.2.1 t, qa_aty t)
theorem qa_tys_get {z : qa_S} {t : Nat} (h : t < 7) : (qa_tys z)[t]? = some (z.2.1 t, qa_aty t) := by
  unfold qa_tys
  rw [List.getElem?_map, List.getElem?_range h]
  rfl
theorem qa_ti9 : ∀ k, k < 60 → qa_ti k < 7 ∧ (qa_ea k = 0 → qa_aty (qa_ti k) = .int) ∧ (qa_ea k = 2 → qa_aty (qa_ti k) = .long) ∧ (qa_ea k = 3 → (qa_tk k 0 < 60 ∧ (qa_oc (qa_tk k 0) < 13 → qa_aty (qa_ti k) = .object (qa_own (qa_oc (qa_tk k 0)))) ∧ (¬ qa_oc (qa_tk k 0) < 13 → qa_aty (qa_ti k) = .array .int ∧ qa_ea (qa_tk k 0) = 0))) := by decide +kernel
def qa_SF (z : qa_S) (U : State) (H : Heap) : Prop :=
  (∀ k, 60 ≤ k → k < 64 → va_Z (qa_sown k).1 (qa_sown k).2 "[I" (.ref (z.2.2.2.1 k 0)) (qa_A z) U H ∧ va_T .int (z.2.2.2.1 k 0) (qa_len k) (fun j => .int (qa_stc k j)) (qa_A z) U H) ∧
  va_T .int (z.2.2.2.1 65 0) z.2.2.2.2.1 (fun j => .int (z.2.2.2.2.2 j)) (qa_A z) U H ∧ z.2.2.2.2.1 ≤ 3584 ∧
  (∀ t, t < 3 → vk_R (qa_stx t).1 (qa_stx t).2.1 (qa_stx t).2.2 (z.2.2.2.1 64 t) U) ∧
  (∃ adV, vk_S 3 [3, 4, 8] [qa_str 0, qa_str 1, qa_str 2] (z.2.2.2.1 64) adV (qa_A z) U H) ∧ va_Z "java/lang/String" "COMPACT_STRINGS" "Z" (.int 1) (qa_A z) U H ∧ qa_nest U
theorem qa_SF_moved {z : qa_S} {u U : State} {H : Heap} (h : qa_SF z u u.heap) (hW : u.WarmedH U.vm) (hq : ∀ a : Nat, a < u.heap.size → ¬ qa_A z a → H[a]? = u.heap[a]?) : qa_SF z U H := by
  obtain ⟨h1, h2, h3, h4, ⟨adV, h5⟩, h6, h7⟩ := h
  exact ⟨fun k a b => ⟨((h1 k a b).1.moved hW.alike).kept hq, ((h1 k a b).2.moved hW.alike).kept hq⟩, (h2.moved hW.alike).kept hq, h3, fun t ht => (h4 t ht).warm hW, ⟨adV, (h5.moved hW.alike).kept hq⟩, (h6.moved hW.alike).kept hq, qa_nest_warm hW h7⟩
theorem qa_SF_same {z : qa_S} {u U : State} (hv : U.vm = u.vm) (hh : U.heap = u.heap) (h : qa_SF z u u.heap) : qa_SF z U U.heap := by
  obtain ⟨h1, h2, h3, h4, ⟨adV, h5⟩, h6, h7⟩ := h
  have ha : u.vm.Alike U.vm := by rw [hv]; exact Vm.Alike.refl _
  rw [hh]
  exact ⟨fun k a b => ⟨(h1 k a b).1.moved ha, (h1 k a b).2.moved ha⟩, h2.moved ha, h3, fun t ht => (h4 t ht).same hv, ⟨adV, h5.moved ha⟩, h6.moved ha, qa_nest_same hv h7⟩
/-- valid stacks -/
def qa_sv (s : LMem) : LStk → Prop
  | [] => True
  | v :: l => qa_vv s v ∧ qa_sv s l
theorem qa_sv_le {s s' : LMem} (h : gN s ≤ gN s') : ∀ {l : LStk}, qa_sv s l → qa_sv s' l
  | [], _ => trivial
  | _ :: _, hv => ⟨qa_vv_le h hv.1, qa_sv_le h hv.2⟩
def qa_lo (z : qa_S) (s : LMem) (nL : Nat) (ls : Array Slot) (loc : LLoc) : Prop := ls.size = nL ∧ lv_wf ls ∧ loc.length = nL ∧ ∀ (i : Nat) (v : LV), qa_nth loc i = some (some v) → ls[i]? = some (.val (qa_val z v)) ∧ qa_vv s v
theorem qa_lo_le {z : qa_S} {s s' : LMem} {nL : Nat} {ls : Array Slot} {loc : LLoc} (h : gN s ≤ gN s') (hl : qa_lo z s nL ls loc) : qa_lo z s' nL ls loc := ⟨hl.1, hl.2.1, hl.2.2.1, fun i v hv => ⟨(hl.2.2.2 i v hv).1, qa_vv_le h (hl.2.2.2 i v hv).2⟩⟩
theorem qa_nth_lt {α : Type} : ∀ {l : List α} {n : Nat} {a : α}, qa_nth l n = some a → n < l.length
  | [], _, _, h => by cases h
  | _ :: _, 0, _, _ => Nat.succ_pos _
  | _ :: l, n + 1, _, h => Nat.succ_lt_succ (qa_nth_lt (l := l) h)
theorem qa_st1_len : ∀ (loc : LLoc) (i : Nat) (v : LV), (qa_st1 loc i v).length = loc.length
  | [], _, _ => rfl
  | _ :: _, 0, _ => rfl
  | a :: l, n + 1, v => by simp [qa_st1, qa_st1_len l n v]
theorem qa_clr_len : ∀ (loc : LLoc) (i : Nat), (qa_clr loc i).length = loc.length
  | [], _ => rfl
  | _ :: _, 0 => rfl
  | a :: l, n + 1 => by simp [qa_clr, qa_clr_len l n]
theorem qa_nth_st1 : ∀ (loc : LLoc) (i : Nat) (v : LV) (j : Nat) (u : LV), qa_nth (qa_st1 loc i v) j = some (some u) → (j = i ∧ u = v) ∨ (j ≠ i ∧ qa_nth loc j = some (some u) ∧ ¬ (j + 1 = i ∧ qa_isL u = true))
  | [], _, _, _, _, h => by cases h
  | a :: l, 0, v, 0, u, h => by cases h; exact Or.inl ⟨rfl, rfl⟩
  | a :: l, 0, v, j + 1, u, h => Or.inr ⟨by omega, h, by omega⟩
  | a :: l, i + 1, v, 0, u, h => by
    refine Or.inr ⟨by omega, ?_⟩
    cases i with
    | zero =>
      have h1 : some (qa_inv a) = some (some u) := h
      rcases a with _ | (x | x | x)
      · cases h1
      · cases h1; exact ⟨rfl, by simp [qa_isL]⟩
      · cases h1
      · cases h1; exact ⟨rfl, by simp [qa_isL]⟩
    | succ i =>
      have h1 : some a = some (some u) := h
      cases h1
      exact ⟨rfl, by omega⟩
  | a :: l, i + 1, v, j + 1, u, h => by
    rcases qa_nth_st1 l i v j u h with ⟨h1, h2⟩ | ⟨h1, h2, h3⟩
    · exact Or.inl ⟨by omega, h2⟩
    · exact Or.inr ⟨by omega, h2, fun q => h3 ⟨by omega, q.2⟩⟩
theorem qa_nth_clr : ∀ (loc : LLoc) (i j : Nat) (u : LV), qa_nth (qa_clr loc i) j = some (some u) → j ≠ i ∧ qa_nth loc j = some (some u)
  | [], _, _, _, h => by cases h
  | a :: l, 0, 0, u, h => by cases h
  | a :: l, 0, j + 1, u, h => ⟨by omega, h⟩
  | a :: l, i + 1, 0, u, h => ⟨by omega, h⟩
  | a :: l, i + 1, j + 1, u, h => by
    obtain ⟨h1, h2⟩ := qa_nth_clr l i j u h
    exact ⟨by omega, h2⟩
/-- the locals as the kit lists them -/
def qa_lv (z : qa_S) (loc : LLoc) : List (Nat × Value) := (List.range loc.length).filterMap fun i => match qa_nth loc i with | some (some v) => some (i, qa_val z v) | _ => none
theorem qa_lv_mem {z : qa_S} {loc : LLoc} {i : Nat} {v : LV} (h : qa_nth loc i = some (some v)) : (i, qa_val z v) ∈ qa_lv z loc :=
  List.mem_filterMap.mpr ⟨i, List.mem_range.mpr (qa_nth_lt h), by rw [h]⟩
theorem qa_lv_has {z : qa_S} {s : LMem} {nL : Nat} {ls : Array Slot} {loc : LLoc} (h : qa_lo z s nL ls loc) : lv_has ls nL (qa_lv z loc) := by
  refine ⟨h.1, h.2.1, fun q hq => ?_⟩
  obtain ⟨i, -, hi⟩ := List.mem_filterMap.mp hq
  cases hn : qa_nth loc i with
  | none => rw [hn] at hi; cases hi
  | some a =>
    rw [hn] at hi
    cases a with
    | none => cases hi
    | some v => cases hi; exact (h.2.2.2 i v hn).1
theorem qa_cat1 {z : qa_S} {v : LV} (h : qa_isL v = false) : (qa_val z v).category = 1 := by
  rcases v with x | x | ⟨k, _ | i⟩ <;> first | rfl | cases h
theorem qa_cat2 {z : qa_S} {v : LV} (h : (qa_val z v).category = 2) : qa_isL v = true := by
  cases h1 : qa_isL v with
  | true => rfl
  | false => rw [qa_cat1 h1] at h; cases h
theorem qa_lo_st1 {z : qa_S} {s : LMem} {nL : Nat} {ls ls' : Array Slot} {loc : LLoc} (h : qa_lo z s nL ls loc) {i : Nat} {v : LV} (hv : qa_vv s v)
    (h' : lv_has ls' nL ((i, qa_val z v) :: (qa_lv z loc).filter (fun q => !(q.1 == i) && !(q.1 + 1 == i && q.2.category == 2)))) : qa_lo z s nL ls' (qa_st1 loc i v) := by
  refine ⟨h'.1, h'.2.1, by rw [qa_st1_len]; exact h.2.2.1, fun j u hj => ?_⟩
  rcases qa_nth_st1 loc i v j u hj with ⟨rfl, rfl⟩ | ⟨h1, h2, h3⟩
  · exact ⟨h'.2.2 _ List.mem_cons_self, hv⟩
  · refine ⟨h'.2.2 (j, qa_val z u) (List.mem_cons_of_mem _ (List.mem_filter.mpr ⟨qa_lv_mem h2, ?_⟩)), (h.2.2.2 j u h2).2⟩
    have e1 : ((j : Nat) == i) = false := by simpa using h1
    have e2 : (((j + 1 : Nat) == i) && ((qa_val z u).category == 2)) = false := by
      cases h9 : ((j + 1 : Nat) == i) && ((qa_val z u).category == 2) with
      | false => rfl
      | true =>
        simp only [Bool.and_eq_true, beq_iff_eq] at h9
        exact absurd ⟨h9.1, qa_cat2 h9.2⟩ h3
    show (!((j : Nat) == i) && !((j + 1 == i) && ((qa_val z u).category == 2))) = true
    rw [e1, e2]
    rfl
theorem qa_lo_st2 {z : qa_S} {s : LMem} {nL : Nat} {ls ls' : Array Slot} {loc : LLoc} (h : qa_lo z s nL ls loc) {i : Nat} {v : LV} (hv : qa_vv s v)
    (h' : lv_has ls' nL ((i, qa_val z v) :: (qa_lv z loc).filter (fun q => !(q.1 == i) && (!(q.1 == i + 1) && !(q.1 + 1 == i && q.2.category == 2))))) : qa_lo z s nL ls' (qa_clr (qa_st1 loc i v) (i + 1)) := by
  refine ⟨h'.1, h'.2.1, by rw [qa_clr_len, qa_st1_len]; exact h.2.2.1, fun j u hj => ?_⟩
  obtain ⟨hj1, hj⟩ := qa_nth_clr _ _ _ _ hj
  rcases qa_nth_st1 loc i v j u hj with ⟨rfl, rfl⟩ | ⟨h1, h2, h3⟩
  · exact ⟨h'.2.2 _ List.mem_cons_self, hv⟩
  · refine ⟨h'.2.2 (j, qa_val z u) (List.mem_cons_of_mem _ (List.mem_filter.mpr ⟨qa_lv_mem h2, ?_⟩)), (h.2.2.2 j u h2).2⟩
    have e1 : ((j : Nat) == i) = false := by simpa using h1
    have e0 : ((j : Nat) == i + 1) = false := by simpa using hj1
    have e2 : (((j + 1 : Nat) == i) && ((qa_val z u).category == 2)) = false := by
      cases h9 : ((j + 1 : Nat) == i) && ((qa_val z u).category == 2) with
      | false => rfl
      | true =>
        simp only [Bool.and_eq_true, beq_iff_eq] at h9
        exact absurd ⟨h9.1, qa_cat2 h9.2⟩ h3
    show (!((j : Nat) == i) && (!((j : Nat) == i + 1) && !((j + 1 == i) && ((qa_val z u).category == 2)))) = true
    rw [e1, e0, e2]
    rfl
