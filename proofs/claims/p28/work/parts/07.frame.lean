/-! What holds of a frame while the light machine goes. -/
theorem qa_cl_get : ∀ c, c < 13 → vwCl[c]? = some (qa_own c, qa_clT c, qa_cn c) := by
  intro c h
  rcases (show c = 0 ∨ c = 1 ∨ c = 2 ∨ c = 3 ∨ c = 4 ∨ c = 5 ∨ c = 6 ∨ c = 7 ∨ c = 8 ∨ c = 9 ∨ c = 10 ∨ c = 11 ∨ c = 12 by omega) with rfl | rfl | rfl | rfl | rfl | rfl | rfl | rfl | rfl | rfl | rfl | rfl | rfl <;> rfl
theorem qa_mW {w : Cond} (h : (decide (w ∈ lw_tbl) && goodWord w) = true) : w ∈ qa_W := by
  obtain ⟨h1, h2⟩ := qa_and h
  exact List.mem_filter.mpr ⟨of_decide_eq_true h1, h2⟩
set_option maxRecDepth 20000 in
theorem qa_cl_in9 : (List.range 13).all (fun c => (u_ws (qa_own c) (qa_clT c) (qa_cn c)).all fun w => decide (w ∈ lw_tbl) && goodWord w) = true := by decide +kernel
theorem qa_cl_in {c : Nat} (h : c < 13) : ∀ w ∈ u_ws (qa_own c) (qa_clT c) (qa_cn c), w ∈ qa_W := fun w hw => qa_mW (List.all_eq_true.mp (List.all_eq_true.mp qa_cl_in9 c (List.mem_range.mpr h)) w hw)
theorem qa_cl_ty : ∀ c, c < 13 → ∀ k, k < qa_cn c → parseFieldDescriptor (qa_clT c k).2.2.1 = some (qa_cty c k) := by decide +kernel
theorem qa_cl_nm : ∀ c, c < 13 → ∀ a, a < qa_cn c → ∀ b, b < qa_cn c → a ≠ b → (qa_clT c a).2.1 ≠ (qa_clT c b).2.1 := by decide +kernel
def qa_isRT (t : FieldType) : Bool := match t with | .object _ => true | .array _ => true | _ => false
theorem qa_kd9 : ∀ k, k < 60 → qa_oc k < 13 → qa_nf k = qa_cn (qa_oc k) ∧ ∀ j, j < qa_nf k → (match qa_tg k j with | 0 => decide (qa_cty (qa_oc k) j = .int) | 1 => decide (qa_cty (qa_oc k) j = .boolean) | 2 => decide (qa_cty (qa_oc k) j = .long) | _ => qa_isRT (qa_cty (qa_oc k) j)) = true := by decide +kernel
set_option maxRecDepth 20000 in
theorem qa_pf9 : (qa_pf.all fun q => match q with | (o, i, k, j, n) => match n with
  | true => decide (Cond.fieldLinkNest (qa_own o) i (qa_clT (qa_oc k) j).1 (qa_clT (qa_oc k) j).2.1 (qa_clT (qa_oc k) j).2.2.1 "DitchOpen" ∈ lw_tbl) && !(qa_clT (qa_oc k) j).2.2.2
  | false => decide (Cond.fieldLink (qa_own o) i (qa_clT (qa_oc k) j).1 (qa_clT (qa_oc k) j).2.1 (qa_clT (qa_oc k) j).2.2.1 ∈ lw_tbl) && (goodWord (Cond.fieldLink (qa_own o) i (qa_clT (qa_oc k) j).1 (qa_clT (qa_oc k) j).2.1 (qa_clT (qa_oc k) j).2.2.1) && decide ((qa_clT (qa_oc k) j).1 = qa_own (qa_oc k)))) = true := by decide +kernel
/-- arrays over a class, over int[]: such words are no words that a contract can ask for -/
def qa_AOv (ty : FieldType) (U : State) : Prop := (Cond.arrayOver ty).before #[] U = true
theorem qa_AOv_A {t : FieldType} {u U : State} (hvm : u.vm.Alike U.vm) (h : qa_AOv (.array t) u) : qa_AOv (.array t) U := by
  obtain ⟨comp, c, k, h1, h2, h3, h4, h5⟩ := arrayOverA_spec h
  obtain ⟨k', hk', he⟩ := hvm.2.2 _ _ h3
  have hi := (Vm.Alike.findIdx?_eq hvm _ (fun _ => rfl)).trans h2
  have hkind : k'.kind = .array comp (.array t) := by rw [he]; exact h4
  have f1 : U.vm.findClass (FieldType.array t).toString = some comp := by rw [hvm.findClass]; exact h1
  have f2 : U.vm.findClass ("[" ++ (FieldType.array t).toString) = some c := by rw [hvm.findClass]; exact h5
  unfold qa_AOv Cond.before Cond.holds
  simp only [Cond.value]
  rw [f1, Option.bind_some]
  refine (congrArg (fun o : Option Nat => (o.bind (fun c => (U.vm.classes[c]?).map fun (k : Class) => match k.kind with | .array _ ty => decide (ty = FieldType.array t) && decide (U.vm.findClass ("[" ++ (FieldType.array t).toString) = some c) | _ => false) == some true)) hi).trans ?_
  simp [hk', hkind, f2]
def qa_AOt (U : State) : Prop := ∀ t, 2 ≤ t → t < 7 → qa_AOv (qa_aty t) U
theorem qa_AOt_moved {u U : State} (hvm : u.vm.Alike U.vm) (h : qa_AOt u) : qa_AOt U := by
  intro t h1 h2
  rcases (show t = 2 ∨ t = 3 ∨ t = 4 ∨ t = 5 ∨ t = 6 by omega) with rfl | rfl | rfl | rfl | rfl
  · exact va_AO.moved hvm (h 2 (by omega) (by omega))
  · exact va_AO.moved hvm (h 3 (by omega) (by omega))
  · exact va_AO.moved hvm (h 4 (by omega) (by omega))
  · exact va_AO.moved hvm (h 5 (by omega) (by omega))
  · exact qa_AOv_A hvm (h 6 (by omega) (by omega))
/-- the links to nest mates' fields and methods are no words that a contract can ask for: they are carried beside -/
def qa_nest (U : State) : Prop := (∀ q, q ∈ qa_pf → q.2.2.2.2 = true → va_Nw (Cond.fieldLinkNest (qa_own q.1) q.2.1 (qa_clT (qa_oc q.2.2.1) q.2.2.2.1).1 (qa_clT (qa_oc q.2.2.1) q.2.2.2.1).2.1 (qa_clT (qa_oc q.2.2.1) q.2.2.2.1).2.2.1 "DitchOpen") U) ∧
  (∀ q, q ∈ qa_pm → q.2.2.2.2 = true → va_Nw (Cond.methodLinkNest (qa_own q.1) q.2.1 (qa_y q.2.2.1) "DitchOpen") U) ∧ qa_AOt U
theorem qa_nest_warm {s U : State} (hW : s.WarmedH U.vm) (h : qa_nest s) : qa_nest U := ⟨fun q h1 h2 => va_Nw.warmF hW (h.1 q h1 h2), fun q h1 h2 => va_Nw.warmM hW (h.2.1 q h1 h2), qa_AOt_moved hW.alike h.2.2⟩
theorem qa_nest_same {s U : State} (hv : U.vm = s.vm) (h : qa_nest s) : qa_nest U := ⟨fun q h1 h2 => va_Nw.same rfl hv.symm (h.1 q h1 h2), fun q h1 h2 => va_Nw.same rfl hv.symm (h.2.1 q h1 h2), qa_AOt_moved (u := s) (U := U) (by rw [hv]; exact Vm.Alike.refl _) h.2.2⟩
theorem qa_pf_use {U : State} (hN : qa_nest U) {o i k j : Nat} (h : qa_pfc o i k j = true) :
    (va_Nw (Cond.fieldLinkNest (qa_own o) i (qa_clT (qa_oc k) j).1 (qa_clT (qa_oc k) j).2.1 (qa_clT (qa_oc k) j).2.2.1 "DitchOpen") U ∧ (qa_clT (qa_oc k) j).2.2.2 = false) ∨
    (Cond.fieldLink (qa_own o) i (qa_clT (qa_oc k) j).1 (qa_clT (qa_oc k) j).2.1 (qa_clT (qa_oc k) j).2.2.1 ∈ qa_W ∧ (qa_clT (qa_oc k) j).1 = qa_own (qa_oc k)) := by
  obtain ⟨⟨o', i', k', j', n⟩, hq, h2⟩ := List.any_eq_true.mp h
  obtain ⟨e1, h2⟩ := qa_and h2
  obtain ⟨e2, h2⟩ := qa_and h2
  obtain ⟨e3, e4⟩ := qa_and h2
  cases qa_beq e1; cases qa_beq e2; cases qa_beq e3; cases qa_beq e4
  have h3 := List.all_eq_true.mp qa_pf9 _ hq
  cases n with
  | true => exact Or.inl ⟨hN.1 _ hq rfl, by simpa using (qa_and h3).2⟩
  | false =>
    obtain ⟨a, b⟩ := qa_and h3
    obtain ⟨b, c⟩ := qa_and b
    exact Or.inr ⟨qa_mW (by rw [a, b]; rfl), of_decide_eq_true c⟩
set_option maxRecDepth 20000 in
theorem qa_pc9 : (qa_pc.all fun q => decide (Cond.constant (qa_own q.1) q.2.1 q.2.2 ∈ lw_tbl) && goodWord (Cond.constant (qa_own q.1) q.2.1 q.2.2)) = true := by decide +kernel
set_option maxRecDepth 20000 in
theorem qa_pl9 : (qa_pl.all fun q => decide (Cond.constantLong (qa_own q.1) q.2.1 q.2.2 ∈ lw_tbl) && goodWord (Cond.constantLong (qa_own q.1) q.2.1 q.2.2)) = true := by decide +kernel
theorem qa_ps9 : ∀ q, q ∈ qa_ps → q.2.2 < 3 ∧ qa_own q.1 = (qa_stx q.2.2).1 ∧ q.2.1 = (qa_stx q.2.2).2.1 := by decide +kernel
set_option maxRecDepth 20000 in
theorem qa_pg9 : (qa_pg.all fun q => decide (60 ≤ q.2.2 ∧ q.2.2 < 64) && (decide (Cond.fieldLink (qa_own q.1) q.2.1 (qa_sown q.2.2).1 (qa_sown q.2.2).2 "[I" ∈ lw_tbl) && goodWord (Cond.fieldLink (qa_own q.1) q.2.1 (qa_sown q.2.2).1 (qa_sown q.2.2).2 "[I"))) = true := by decide +kernel
set_option maxRecDepth 20000 in
theorem qa_pn9 : (qa_pn.all fun q => match Nat.blt (qa_oc q.2.2) 13 with
  | true => (decide (Cond.classLink (qa_own q.1) q.2.1 (qa_own (qa_oc q.2.2)) ∈ lw_tbl) && goodWord (Cond.classLink (qa_own q.1) q.2.1 (qa_own (qa_oc q.2.2)))) && ((decide (Cond.instantiable (qa_own (qa_oc q.2.2)) (qa_cn (qa_oc q.2.2)) ∈ lw_tbl) && goodWord (Cond.instantiable (qa_own (qa_oc q.2.2)) (qa_cn (qa_oc q.2.2)))) && (decide (Cond.initialized (qa_own (qa_oc q.2.2)) ∈ lw_tbl) && goodWord (Cond.initialized (qa_own (qa_oc q.2.2)))))
  | false => match qa_ti q.2.2 with
    | 6 => decide (Cond.classLink (qa_own q.1) q.2.1 "[[I" ∈ lw_tbl) && goodWord (Cond.classLink (qa_own q.1) q.2.1 "[[I")
    | _ => decide (Cond.classLink (qa_own q.1) q.2.1 (qa_own (qa_oc (qa_tk q.2.2 0))) ∈ lw_tbl) && goodWord (Cond.classLink (qa_own q.1) q.2.1 (qa_own (qa_oc (qa_tk q.2.2 0))))) = true := by decide +kernel
def qa_pmf (q : Nat × Nat × Nat × Nat × Bool) : List Cond := match q with
  | (o, i, c, v, n) => match Nat.ble 1000 c with
    | true => (match c with
      | 1000 => [.methodLink (qa_own o) i Lib.Math.max.name, .static Lib.Math.max.name, .initialized "java/lang/Math", .code Lib.Math.max.name Lib.Math.max.code 2 (some .int)]
      | 1001 => [.methodLink (qa_own o) i Lib.Math.min.name, .static Lib.Math.min.name, .initialized "java/lang/Math", .code Lib.Math.min.name Lib.Math.min.code 2 (some .int)]
      | 1002 => [.methodLink (qa_own o) i Lib.Math.abs.name, .static Lib.Math.abs.name, .initialized "java/lang/Math", .code Lib.Math.abs.name Lib.Math.abs.code 1 (some .int)]
      | 1003 => [.methodLink (qa_own o) i Lib.MathLoose.max_long.x, .static Lib.MathLoose.max_long.x, .initialized "java/lang/Math", .code Lib.MathLoose.max_long.x Lib.MathLoose.max_long.code 4 (some .long)]
      | 1004 => [.methodLink (qa_own o) i Lib.MathLoose.min_long.x, .static Lib.MathLoose.min_long.x, .initialized "java/lang/Math", .code Lib.MathLoose.min_long.x Lib.MathLoose.min_long.code 4 (some .long)]
      | 1005 => [.methodLink (qa_own o) i (qa_y2 1005), .instanceMethod (qa_y2 1005), .selects "java/lang/String" (qa_y2 1005) (qa_y2 1005), .initialized "java/lang/String"]
      | 1006 => [.methodLink (qa_own o) i (qa_y2 1006), .instanceMethod (qa_y2 1006), .selects "java/lang/String" (qa_y2 1006) (qa_y2 1006), .initialized "java/lang/String"]
      | 1007 => [.methodLink (qa_own o) i yL_reach, .static yL_reach, .initialized RL]
      | _ => [.methodLink (qa_own o) i objectInit, .instanceMethod objectInit, .code objectInit ⟨#[0xb1]⟩ 1 none])
    | false => .initialized (qa_y c).cls :: .initialized (qa_y c).cls :: (match n with | true => .initialized (qa_y c).cls | false => .methodLink (qa_own o) i (qa_y c)) :: (match v with
      | 0 => [.static (qa_y c)]
      | 1 => [.instanceMethod (qa_y c), .selects (qa_y c).cls (qa_y c) (qa_y c)]
      | _ => [.instanceMethod (qa_y c)])
def qa_pk (w : Cond) (i : Nat) : Bool := decide (lw_tbl[i]? = some w) && goodWord w
def qa_pkz (l : List ((Nat × Nat × Nat × Nat × Bool) × List Nat)) : Bool := l.all fun q => decide ((qa_pmf q.1).length = q.2.length) && ((qa_pmf q.1).zip q.2).all fun r => qa_pk r.1 r.2
def qa_pp0 : List (List Nat) := [[190, 143, 144], [117, 117, 524, 525], [115, 115, 648, 649, 650], [115, 115, 652, 653, 654], [115, 115, 528, 529, 530], [532, 533, 534, 127], [115, 115, 618, 619, 620], [117, 117, 624, 625], [628, 547, 548, 127], [117, 117, 629, 630], [115, 115, 632, 633, 634], [115, 115, 644, 645, 646], [256, 143, 144], [122, 122, 122, 261], [802, 564, 129, 565], [117, 117, 794, 795, 796], [121, 121, 798, 800, 20], [117, 117, 803, 804, 805], [122, 122, 807, 808, 809], [121, 121, 811, 813, 21], [121, 121, 1255, 791, 792], [122, 122, 995, 996, 997], [121, 121, 1000, 948, 949], [121, 121, 1001, 952, 953], [855, 561, 129, 562], [119, 119, 907, 743, 744], [119, 119, 908, 747, 748], [121, 121, 909, 821, 822], [121, 121, 1018, 992, 993], [121, 121, 1019, 1020, 1021], [121, 121, 1024, 904, 905], [121, 121, 824, 826, 22], [121, 121, 828, 830, 23], [121, 121, 856, 858, 25], [121, 121, 860, 862, 26], [121, 121, 872, 874, 27], [121, 121, 883, 885, 29], [121, 121, 887, 889, 30], [122, 122, 836, 837, 838], [121, 121, 832, 834, 24]]
set_option maxRecDepth 40000 in
theorem qa_pz0 : qa_pkz (((qa_pm.drop 0).take 40).zip qa_pp0) = true ∧ qa_pp0.length = ((qa_pm.drop 0).take 40).length := by decide +kernel
def qa_pp1 : List (List Nat) := [[118, 118, 840, 841, 842], [122, 122, 864, 865, 866], [122, 122, 868, 869, 870], [121, 121, 876, 878, 28], [122, 122, 971, 972, 973], [121, 121, 967, 968, 969], [121, 121, 1023, 964, 965], [121, 121, 931, 933, 32], [121, 121, 936, 937, 938], [122, 122, 935, 919, 920], [122, 122, 1301, 1302, 1303], [397, 143, 144], [121, 121, 1122, 1044, 1045], [124, 124, 1118, 1119, 1120], [121, 121, 1128, 1129, 1130], [1132, 561, 129, 562], [121, 121, 1133, 1015, 1016], [124, 124, 1134, 1136, 38], [121, 121, 1138, 948, 949], [124, 124, 1143, 1145, 39], [124, 124, 1147, 1149, 40], [121, 121, 1151, 968, 969], [124, 124, 1165, 1140, 1141], [124, 124, 1160, 1115, 1116], [124, 124, 1161, 1163, 41], [203, 143, 144], [118, 118, 664, 666, 6], [115, 115, 668, 649, 650], [115, 115, 713, 653, 654], [115, 115, 669, 529, 530], [118, 118, 670, 672, 7], [118, 118, 690, 691], [118, 118, 693, 695, 11], [118, 118, 685, 687, 10], [118, 118, 709, 711, 15], [118, 118, 697, 699, 12], [118, 118, 701, 703, 13], [115, 115, 682, 619, 620], [118, 118, 705, 707, 14], [118, 118, 674, 676, 8]]
set_option maxRecDepth 40000 in
theorem qa_pz1 : qa_pkz (((qa_pm.drop 40).take 40).zip qa_pp1) = true ∧ qa_pp1.length = ((qa_pm.drop 40).take 40).length := by decide +kernel
def qa_pp2 : List (List Nat) := [[118, 118, 678, 680, 9], [684, 533, 534, 127], [115, 115, 689, 633, 634], [118, 118, 844, 845], [118, 118, 847, 848], [118, 118, 852, 853], [173, 143, 144], [116, 116, 1315, 1317, 45], [116, 116, 1321, 1323, 46], [116, 116, 1329, 1331, 48], [116, 116, 1335, 1337, 49], [121, 121, 1319, 915, 916], [122, 122, 1320, 1302, 1303], [116, 116, 1325, 1327, 47], [1333, 561, 129, 562], [1334, 564, 129, 565], [221, 143, 144], [115, 115, 722, 633, 634], [115, 115, 723, 649, 650], [115, 115, 724, 653, 654], [263, 143, 144], [122, 122, 999, 808, 809], [122, 122, 1305, 972, 973], [122, 122, 922, 837, 838], [423, 143, 144], [114, 114, 114, 776], [121, 121, 1195, 992, 993], [121, 121, 1196, 915, 916], [121, 121, 1197, 904, 905], [122, 122, 1206, 837, 838], [1207, 1208, 129, 1209], [125, 125, 1202, 1204, 44], [125, 125, 1191, 1193, 42], [125, 125, 1198, 1200, 43], [121, 121, 1214, 763, 764], [150, 143, 144], [115, 115, 479, 480], [115, 115, 482, 484, 0], [115, 115, 636, 529, 530], [115, 115, 637, 638]]
set_option maxRecDepth 40000 in
theorem qa_pz2 : qa_pkz (((qa_pm.drop 80).take 40).zip qa_pp2) = true ∧ qa_pp2.length = ((qa_pm.drop 80).take 40).length := by decide +kernel
def qa_pp3 : List (List Nat) := [[381, 143, 144], [121, 121, 1014, 1015, 1016], [123, 123, 1025, 1027, 33], [121, 121, 1030, 948, 949], [121, 121, 1029, 937, 938], [121, 121, 1043, 1044, 1045], [119, 119, 1055, 743, 744], [123, 123, 1056, 1058, 34], [121, 121, 1060, 992, 993], [121, 121, 1061, 1020, 1021], [119, 119, 1062, 747, 748], [121, 121, 1063, 821, 822], [123, 123, 1072, 1074, 35], [121, 121, 1076, 904, 905], [123, 123, 1085, 1087, 36], [121, 121, 1089, 964, 965], [123, 123, 1098, 1100, 37], [1102, 564, 129, 565], [121, 121, 1260, 915, 916], [121, 121, 1281, 1282, 1283], [123, 123, 1367, 1356, 1357], [121, 121, 1251, 1252, 1253], [121, 121, 1269, 1270, 1271], [121, 121, 1256, 1257, 1258], [121, 121, 1239, 1240, 1241], [121, 121, 1231, 1232, 1233], [121, 121, 1235, 1236, 1237], [234, 143, 144], [114, 114, 114, 776], [142, 143, 144], [115, 115, 115, 148], [116, 116, 116, 171], [117, 117, 117, 188], [118, 118, 118, 201], [119, 119, 119, 219], [120, 120, 120, 232], [121, 121, 253, 254], [123, 123, 378, 379], [124, 124, 394, 395], [125, 125, 420, 421]]
set_option maxRecDepth 40000 in
theorem qa_pz3 : qa_pkz (((qa_pm.drop 120).take 40).zip qa_pp3) = true ∧ qa_pp3.length = ((qa_pm.drop 120).take 40).length := by decide +kernel
def qa_pp4 : List (List Nat) := [[115, 115, 475, 476, 477], [115, 115, 490, 491, 492], [114, 114, 498, 500, 1], [114, 114, 504, 506, 2], [115, 115, 725, 726, 727], [115, 115, 508, 509, 510], [114, 114, 512, 514, 3], [114, 114, 516, 518, 4], [117, 117, 520, 521, 522], [114, 114, 656, 658, 5], [118, 118, 660, 661, 662], [114, 114, 714, 716, 16], [119, 119, 718, 719, 720], [121, 121, 758, 759, 760], [114, 114, 738, 740, 17], [114, 114, 819, 776], [119, 119, 742, 743, 744], [119, 119, 746, 747, 748], [115, 115, 754, 755, 756], [121, 121, 762, 763, 764], [120, 120, 771, 772, 773], [114, 114, 782, 784, 18], [114, 114, 786, 788, 19], [121, 121, 790, 791, 792], [121, 121, 820, 821, 822], [121, 121, 891, 892, 893], [114, 114, 899, 901, 31], [121, 121, 903, 904, 905], [121, 121, 914, 915, 916], [122, 122, 918, 919, 920], [121, 121, 927, 928, 929], [114, 114, 944, 945], [121, 121, 947, 948, 949], [121, 121, 951, 952, 953], [121, 121, 955, 956, 957], [121, 121, 963, 964, 965], [121, 121, 983, 984, 985], [121, 121, 991, 992, 993], [123, 123, 1010, 1011, 1012], [123, 123, 1039, 1040, 1041]]
set_option maxRecDepth 40000 in
theorem qa_pz4 : qa_pkz (((qa_pm.drop 160).take 40).zip qa_pp4) = true ∧ qa_pp4.length = ((qa_pm.drop 160).take 40).length := by decide +kernel
def qa_pp5 : List (List Nat) := [[123, 123, 1051, 1052, 1053], [123, 123, 1068, 1069, 1070], [123, 123, 1081, 1082, 1083], [123, 123, 1094, 1095, 1096], [114, 114, 1107, 1108], [124, 124, 1110, 1111, 1112], [124, 124, 1114, 1115, 1116], [124, 124, 1123, 1119, 1120], [124, 124, 1124, 1125, 1126], [124, 124, 1139, 1140, 1141], [124, 124, 1156, 1157, 1158], [124, 124, 1170, 1171, 1172], [125, 125, 1178, 1179, 1180], [125, 125, 1187, 1188, 1189], [125, 125, 1210, 1211, 1212], [125, 125, 1219, 1220, 1221], [123, 123, 1227, 1228, 1229], [123, 123, 1247, 1248, 1249], [123, 123, 1265, 1266, 1267], [123, 123, 1277, 1278, 1279], [123, 123, 1289, 1290, 1291], [121, 121, 1297, 1298, 1299], [122, 122, 1306, 1302, 1303], [116, 116, 1311, 1312, 1313], [114, 114, 1343, 1344], [121, 121, 1346, 1347, 1348], [123, 123, 1355, 1356, 1357], [123, 123, 1363, 1364, 1365], [1444, 143, 144], [126, 126, 1591, 1592], [126, 126, 1614, 1616, 54], [126, 126, 1618, 1620, 55], [126, 126, 1610, 1612, 53], [126, 126, 1632, 1633], [126, 126, 1682, 1684, 68], [126, 126, 1662, 1664, 63], [126, 126, 1686, 1687], [126, 126, 1658, 1660, 62], [126, 126, 1670, 1672, 65], [126, 126, 1666, 1668, 64]]
set_option maxRecDepth 40000 in
theorem qa_pz5 : qa_pkz (((qa_pm.drop 200).take 40).zip qa_pp5) = true ∧ qa_pp5.length = ((qa_pm.drop 200).take 40).length := by decide +kernel
def qa_pp6 : List (List Nat) := [[126, 126, 1678, 1680, 67], [126, 126, 1674, 1676, 66], [126, 126, 1693, 1694], [126, 126, 1654, 1656, 61], [126, 126, 1650, 1652, 60], [126, 126, 1689, 1691, 69], [126, 126, 1696, 1698, 70], [126, 126, 1700, 1702, 71], [126, 126, 1642, 1644, 58], [126, 126, 1646, 1648, 59], [126, 126, 1704, 1706, 72], [1796, 1797, 129, 1798], [1799, 1800, 129, 1801], [126, 126, 1791, 1792], [126, 126, 1788, 1789], [126, 126, 1784, 1786, 86], [126, 126, 1635, 1636], [126, 126, 1622, 1623], [126, 126, 1625, 1626], [126, 126, 1628, 1630, 56], [126, 126, 1606, 1608, 52], [126, 126, 1602, 1604, 51], [126, 126, 1638, 1640, 57], [126, 126, 1708, 1710, 73], [126, 126, 1720, 1722, 74], [126, 126, 1728, 1730, 75], [126, 126, 1740, 1742, 76], [126, 126, 1744, 1746, 77], [126, 126, 1748, 1750, 78], [126, 126, 1768, 1770, 82], [126, 126, 1764, 1766, 81], [126, 126, 1772, 1774, 83], [126, 126, 1780, 1782, 85], [126, 126, 1776, 1778, 84], [126, 126, 1802, 1804, 87], [126, 126, 1760, 1762, 80], [126, 126, 1806, 1808, 88], [1813, 564, 129, 565], [126, 126, 1756, 1758, 79], [126, 126, 1818, 1820, 89]]
set_option maxRecDepth 40000 in
theorem qa_pz6 : qa_pkz (((qa_pm.drop 240).take 40).zip qa_pp6) = true ∧ qa_pp6.length = ((qa_pm.drop 240).take 40).length := by decide +kernel
def qa_pp7 : List (List Nat) := [[126, 126, 1830, 1832, 90], [126, 126, 1838, 1839], [126, 126, 1845, 1847, 91], [126, 126, 1861, 1863, 93], [126, 126, 1865, 1867, 94], [126, 126, 1869, 1871, 95], [126, 126, 1873, 1875, 96], [126, 126, 1857, 1859, 92], [126, 126, 1886, 1888, 97], [1890, 561, 129, 562], [126, 126, 1899, 1901, 98], [126, 126, 1903, 1905, 99], [126, 126, 1911, 1913, 100], [126, 126, 1915, 1917, 101], [1935, 1208, 129, 1209], [126, 126, 1931, 1933, 102], [126, 126, 1948, 1950, 103], [126, 126, 1952, 1954, 104], [126, 126, 1968, 1970, 105], [126, 126, 1976, 1978, 106], [126, 126, 1984, 1986, 107], [126, 126, 1992, 1994, 108], [126, 126, 2004, 2006, 110], [126, 126, 2000, 2002, 109], [126, 126, 2012, 2014, 111], [126, 126, 2020, 2021], [126, 126, 2031, 2033, 112], [114, 114, 139, 140], [126, 126, 1441, 1442], [114, 114, 471, 472, 473], [126, 126, 1587, 1588, 1589], [114, 114, 486, 487, 488], [126, 126, 1594, 1595, 1596], [114, 114, 494, 495, 496], [126, 126, 1598, 1599, 1600], [114, 114, 730, 731, 732], [126, 126, 1712, 1713, 1714], [1368, 1369, 113], [126, 126, 1716, 1717, 1718], [114, 114, 734, 735, 736]]
set_option maxRecDepth 40000 in
theorem qa_pz7 : qa_pkz (((qa_pm.drop 280).take 40).zip qa_pp7) = true ∧ qa_pp7.length = ((qa_pm.drop 280).take 40).length := by decide +kernel
def qa_pp8 : List (List Nat) := [[126, 126, 1724, 1725, 1726], [114, 114, 767, 768, 769], [126, 126, 1732, 1733, 1734], [114, 114, 778, 779, 780], [126, 126, 1736, 1737, 1738], [114, 114, 815, 816, 817], [126, 126, 1752, 1753, 1754], [114, 114, 895, 896, 897], [126, 126, 1814, 1815, 1816], [114, 114, 910, 911, 912], [126, 126, 1822, 1823, 1824], [114, 114, 923, 924, 925], [126, 126, 1826, 1827, 1828], [114, 114, 940, 941, 942], [126, 126, 1834, 1835, 1836], [114, 114, 959, 960, 961], [126, 126, 1841, 1842, 1843], [114, 114, 975, 976, 977], [126, 126, 1849, 1850, 1851], [114, 114, 1006, 1007, 1008], [126, 126, 1853, 1854, 1855], [114, 114, 1031, 1032, 1033], [126, 126, 1877, 1878, 1879], [114, 114, 1035, 1036, 1037], [126, 126, 1882, 1883, 1884], [114, 114, 1047, 1048, 1049], [126, 126, 1891, 1892, 1893], [114, 114, 1103, 1104, 1105], [126, 126, 1895, 1896, 1897], [114, 114, 1152, 1153, 1154], [126, 126, 1907, 1908, 1909], [114, 114, 1166, 1167, 1168], [126, 126, 1919, 1920, 1921], [114, 114, 1174, 1175, 1176], [126, 126, 1923, 1924, 1925], [114, 114, 1183, 1184, 1185], [126, 126, 1927, 1928, 1929], [114, 114, 1215, 1216, 1217], [126, 126, 1936, 1937, 1938], [114, 114, 1223, 1224, 1225]]
set_option maxRecDepth 40000 in
theorem qa_pz8 : qa_pkz (((qa_pm.drop 320).take 40).zip qa_pp8) = true ∧ qa_pp8.length = ((qa_pm.drop 320).take 40).length := by decide +kernel
def qa_pp9 : List (List Nat) := [[126, 126, 1940, 1941, 1942], [114, 114, 1243, 1244, 1245], [126, 126, 1944, 1945, 1946], [114, 114, 1261, 1262, 1263], [126, 126, 1956, 1957, 1958], [114, 114, 1273, 1274, 1275], [126, 126, 1960, 1961, 1962], [114, 114, 1064, 1065, 1066], [126, 126, 1964, 1965, 1966], [114, 114, 1077, 1078, 1079], [126, 126, 1972, 1973, 1974], [114, 114, 1090, 1091, 1092], [126, 126, 1980, 1981, 1982], [114, 114, 1285, 1286, 1287], [126, 126, 1988, 1989, 1990], [114, 114, 1293, 1294, 1295], [126, 126, 1996, 1997, 1998], [114, 114, 1307, 1308, 1309], [126, 126, 2008, 2009, 2010], [114, 114, 1339, 1340, 1341], [126, 126, 2016, 2017, 2018], [114, 114, 979, 980, 981], [126, 126, 2023, 2024, 2025], [114, 114, 1351, 1352, 1353], [126, 126, 2027, 2028, 2029], [114, 114, 1359, 1360, 1361], [126, 126, 2035, 2036, 2037], [114, 114, 987, 988, 989], [126, 126, 2039, 2040, 2041], [114, 114, 1002, 1003, 1004], [126, 126, 2043, 2044, 2045], [114, 114, 750, 751, 752], [126, 126, 2047, 2048, 2049]]
set_option maxRecDepth 40000 in
theorem qa_pz9 : qa_pkz (((qa_pm.drop 360).take 40).zip qa_pp9) = true ∧ qa_pp9.length = ((qa_pm.drop 360).take 40).length := by decide +kernel
theorem qa_pk_use {q : Nat × Nat × Nat × Nat × Bool} {l : List (Nat × Nat × Nat × Nat × Bool)} {ps : List (List Nat)} (h : qa_pkz (l.zip ps) = true ∧ ps.length = l.length) (hq : q ∈ l) : ((qa_pmf q).all fun w => decide (w ∈ lw_tbl) && goodWord w) = true := by
  obtain ⟨i, hi⟩ := List.getElem?_of_mem hq
  have hl : i < l.length := (List.getElem?_eq_some_iff.mp hi).1
  have hp : ps[i]? = some ps[i] := List.getElem?_eq_getElem (by rw [h.2]; exact hl)
  have hz : (l.zip ps)[i]? = some (q, ps[i]) := by rw [List.getElem?_zip_eq_some]; exact ⟨hi, hp⟩
  obtain ⟨e1, e2⟩ := qa_and (List.all_eq_true.mp h.1 _ (List.mem_of_getElem? hz))
  have e1 := of_decide_eq_true e1
  refine List.all_eq_true.mpr fun w hw => ?_
  obtain ⟨j, hj⟩ := List.getElem?_of_mem hw
  have hjl : j < (qa_pmf q).length := (List.getElem?_eq_some_iff.mp hj).1
  have hj2 : (ps[i])[j]? = some (ps[i])[j] := List.getElem?_eq_getElem (by rw [← e1]; exact hjl)
  have hz2 : ((qa_pmf q).zip ps[i])[j]? = some (w, (ps[i])[j]) := by rw [List.getElem?_zip_eq_some]; exact ⟨hj, hj2⟩
  obtain ⟨g1, g2⟩ := qa_and (List.all_eq_true.mp e2 _ (List.mem_of_getElem? hz2))
  have g1 := of_decide_eq_true g1
  rw [show decide (w ∈ lw_tbl) = true from decide_eq_true (List.mem_of_getElem? g1), Bool.true_and]
  exact g2
theorem qa_pm9 : ∀ q ∈ qa_pm, ((qa_pmf q).all fun w => decide (w ∈ lw_tbl) && goodWord w) = true := by
  intro q hq
  have h : ∃ j, j < 10 ∧ q ∈ (qa_pm.drop (40 * j)).take 40 := by
    obtain ⟨i, hi⟩ := List.getElem?_of_mem hq
    have hl : i < qa_pm.length := (List.getElem?_eq_some_iff.mp hi).1
    have hn : qa_pm.length = 393 := by decide +kernel
    refine ⟨i / 40, by omega, ?_⟩
    refine List.mem_of_getElem? (i := i % 40) ?_
    rw [List.getElem?_take_of_lt (by omega), List.getElem?_drop, show 40 * (i / 40) + i % 40 = i by omega]
    exact hi
  obtain ⟨j, hj, h⟩ := h
  match j, hj, h with
  | 0, _, h => exact qa_pk_use qa_pz0 h
  | 1, _, h => exact qa_pk_use qa_pz1 h
  | 2, _, h => exact qa_pk_use qa_pz2 h
  | 3, _, h => exact qa_pk_use qa_pz3 h
  | 4, _, h => exact qa_pk_use qa_pz4 h
  | 5, _, h => exact qa_pk_use qa_pz5 h
  | 6, _, h => exact qa_pk_use qa_pz6 h
  | 7, _, h => exact qa_pk_use qa_pz7 h
  | 8, _, h => exact qa_pk_use qa_pz8 h
  | 9, _, h => exact qa_pk_use qa_pz9 h
  | j + 10, hj, _ => exact absurd hj (by omega)
theorem qa_pmx : ∀ q, q ∈ qa_pm → q.2.2.1 < 1000 → ((qa_y q.2.2.1).cls ≠ "java/lang/invoke/MethodHandle" ∧ (qa_y q.2.2.1).cls ≠ "java/lang/invoke/VarHandle") ∧ plainName (qa_y q.2.2.1).cls = true ∧ (q.2.2.2.1 = 2 → (qa_y q.2.2.1).name = "<init>" ∧ qa_ret q.2.2.1 = none) ∧ qa_mL q.2.2.1 ≤ 45 ∧ (q.2.2.2.2 = true → q.2.2.2.1 = 0 ∨ q.2.2.2.1 = 2) ∧ q.2.2.2.1 < 3 ∧ ((qa_cst q.2.2.1).1 = 0 → (qa_cst q.2.2.1).2 = 0) := by decide +kernel
theorem qa_pmx2 : ∀ q, q ∈ qa_pm → q.2.2.1 < 1000 → q.2.2.1 < 314 := by decide +kernel
def qa_tys (z : qa_S) : List (ClassId × FieldType) := (List.range 7).map fun t => (z.2.1 t, qa_aty t)
theorem qa_tys_get {z : qa_S} {t : Nat} (h : t < 7) : (qa_tys z)[t]? = some (z.2.1 t, qa_aty t) := by
  unfold qa_tys
  rw [List.getElem?_map, List.getElem?_range h]
  rfl
theorem qa_ti9 : ∀ k, k < 60 → qa_ti k < 7 ∧ (qa_ea k = 0 → qa_aty (qa_ti k) = .int) ∧ (qa_ea k = 2 → qa_aty (qa_ti k) = .long) ∧ (qa_ea k = 3 → (qa_tk k 0 < 60 ∧ (qa_oc (qa_tk k 0) < 13 → qa_aty (qa_ti k) = .object (qa_own (qa_oc (qa_tk k 0)))) ∧ (¬ qa_oc (qa_tk k 0) < 13 → qa_aty (qa_ti k) = .array .int ∧ qa_ea (qa_tk k 0) = 0))) := by decide +kernel
/-- what a throw of NoSuchElementException asks -/
def qa_thw : List Cond := vx_at0 RX11 159 "java/util/NoSuchElementException" ["java/lang/RuntimeException", "java/lang/Exception"]
theorem qa_thw9 : qa_thw.all (fun w => vx_ot w && (goodWord w || (match w with | .castable _ _ => true | .declares _ => true | _ => false))) = true := by decide +kernel
def qa_ex (A : Nat → Prop) (U : State) (H : Heap) : Prop := (∀ w ∈ qa_thw, goodWord w = false → va_Nw w U) ∧ vx_Zq Bundle.tN "UNASSIGNED_STACK" Bundle.steD A U H ∧ vx_Zq Bundle.tN "SUPPRESSED_SENTINEL" Bundle.listD A U H
theorem qa_ex_moved {A : Nat → Prop} {u U : State} {H : Heap} (hW : u.WarmedH U.vm) (hq : ∀ a : Nat, a < u.heap.size → ¬ A a → H[a]? = u.heap[a]?) (h : qa_ex A u u.heap) : qa_ex A U H := by
  refine ⟨fun w hw hg => ?_, (h.2.1.moved hW.alike).kept hq, (h.2.2.moved hW.alike).kept hq⟩
  have h1 := (qa_and (List.all_eq_true.mp qa_thw9 w hw)).2
  rw [hg] at h1
  have h2 := h.1 w hw hg
  cases w <;> first | (cases h1; done) | exact va_Nw.warmC hW h2 | exact va_Nw.warmD hW h2
theorem qa_ex_same {A : Nat → Prop} {u U : State} {H : Heap} (hv : U.vm = u.vm) (ha : u.vm.Alike U.vm) (h : qa_ex A u H) : qa_ex A U H := by
  refine ⟨fun w hw hg => ?_, h.2.1.moved ha, h.2.2.moved ha⟩
  have h1 := (qa_and (List.all_eq_true.mp qa_thw9 w hw)).2
  rw [hg] at h1
  have h2 := h.1 w hw hg
  cases w <;> first | (cases h1; done) | exact va_Nw.same rfl hv.symm h2
def qa_SF (z : qa_S) (U : State) (H : Heap) : Prop :=
  (∀ k, 60 ≤ k → k < 64 → va_Z (qa_sown k).1 (qa_sown k).2 "[I" (.ref (z.2.2.2.1 k 0)) (qa_A z) U H ∧ va_T .int (z.2.2.2.1 k 0) (qa_len k) (fun j => .int (qa_stc k j)) (qa_A z) U H) ∧
  va_T .int (z.2.2.2.1 65 0) z.2.2.2.2.1 (fun j => .int (z.2.2.2.2.2 j)) (qa_A z) U H ∧ z.2.2.2.2.1 ≤ 3584 ∧
  (∀ t, t < 3 → vk_R (qa_stx t).1 (qa_stx t).2.1 (qa_stx t).2.2 (z.2.2.2.1 64 t) U) ∧
  (∃ adV, vk_S 3 [3, 4, 8] [qa_str 0, qa_str 1, qa_str 2] (z.2.2.2.1 64) adV (qa_A z) U H) ∧ (va_Z "java/lang/String" "COMPACT_STRINGS" "Z" (.int 1) (qa_A z) U H ∧ qa_ex (qa_A z) U H) ∧ qa_nest U
theorem qa_SF_moved {z : qa_S} {u U : State} {H : Heap} (h : qa_SF z u u.heap) (hW : u.WarmedH U.vm) (hq : ∀ a : Nat, a < u.heap.size → ¬ qa_A z a → H[a]? = u.heap[a]?) : qa_SF z U H := by
  obtain ⟨h1, h2, h3, h4, ⟨adV, h5⟩, h6, h7⟩ := h
  exact ⟨fun k a b => ⟨((h1 k a b).1.moved hW.alike).kept hq, ((h1 k a b).2.moved hW.alike).kept hq⟩, (h2.moved hW.alike).kept hq, h3, fun t ht => (h4 t ht).warm hW, ⟨adV, (h5.moved hW.alike).kept hq⟩, ⟨(h6.1.moved hW.alike).kept hq, qa_ex_moved hW hq h6.2⟩, qa_nest_warm hW h7⟩
theorem qa_SF_same {z : qa_S} {u U : State} (hv : U.vm = u.vm) (hh : U.heap = u.heap) (h : qa_SF z u u.heap) : qa_SF z U U.heap := by
  obtain ⟨h1, h2, h3, h4, ⟨adV, h5⟩, h6, h7⟩ := h
  have ha : u.vm.Alike U.vm := by rw [hv]; exact Vm.Alike.refl _
  rw [hh]
  exact ⟨fun k a b => ⟨(h1 k a b).1.moved ha, (h1 k a b).2.moved ha⟩, h2.moved ha, h3, fun t ht => (h4 t ht).same hv, ⟨adV, h5.moved ha⟩, ⟨h6.1.moved ha, qa_ex_same hv ha h6.2⟩, qa_nest_same hv h7⟩
/-- valid stacks -/
def qa_sv (s : LMem) : LStk → Prop
  | [] => True
  | v :: l => qa_vv s v ∧ qa_sv s l
theorem qa_sv_le {s s' : LMem} (h : gN s ≤ gN s') : ∀ {l : LStk}, qa_sv s l → qa_sv s' l
  | [], _ => trivial
  | _ :: _, hv => ⟨qa_vv_le h hv.1, qa_sv_le h hv.2⟩
def qa_lo (z : qa_S) (s : LMem) (nL : Nat) (ls : Array Slot) (loc : LLoc) : Prop := ls.size = nL ∧ lv_wf ls ∧ loc.length = nL ∧ ∀ (i : Nat) (v : LV), qa_nth loc i = some (some v) → ls[i]? = some (.val (qa_val z v)) ∧ qa_vv s v
theorem qa_lo_le {z : qa_S} {s s' : LMem} {nL : Nat} {ls : Array Slot} {loc : LLoc} (h : gN s ≤ gN s') (hl : qa_lo z s nL ls loc) : qa_lo z s' nL ls loc := ⟨hl.1, hl.2.1, hl.2.2.1, fun i v hv => ⟨(hl.2.2.2 i v hv).1, qa_vv_le h (hl.2.2.2 i v hv).2⟩⟩
theorem qa_nth_lt {α : Type} : ∀ {l : List α} {n : Nat} {a : α}, qa_nth l n = some a → n < l.length
  | [], _, _, h => by cases h
  | _ :: _, 0, _, _ => Nat.succ_pos _
  | _ :: l, n + 1, _, h => Nat.succ_lt_succ (qa_nth_lt (l := l) h)
theorem qa_st1_len : ∀ (loc : LLoc) (i : Nat) (v : LV), (qa_st1 loc i v).length = loc.length
  | [], _, _ => rfl
  | _ :: _, 0, _ => rfl
  | a :: l, n + 1, v => by simp [qa_st1, qa_st1_len l n v]
theorem qa_clr_len : ∀ (loc : LLoc) (i : Nat), (qa_clr loc i).length = loc.length
  | [], _ => rfl
  | _ :: _, 0 => rfl
  | a :: l, n + 1 => by simp [qa_clr, qa_clr_len l n]
theorem qa_nth_st1 : ∀ (loc : LLoc) (i : Nat) (v : LV) (j : Nat) (u : LV), qa_nth (qa_st1 loc i v) j = some (some u) → (j = i ∧ u = v) ∨ (j ≠ i ∧ qa_nth loc j = some (some u) ∧ ¬ (j + 1 = i ∧ qa_isL u = true))
  | [], _, _, _, _, h => by cases h
  | a :: l, 0, v, 0, u, h => by cases h; exact Or.inl ⟨rfl, rfl⟩
  | a :: l, 0, v, j + 1, u, h => Or.inr ⟨by omega, h, by omega⟩
  | a :: l, i + 1, v, 0, u, h => by
    refine Or.inr ⟨by omega, ?_⟩
    cases i with
    | zero =>
      have h1 : some (qa_inv a) = some (some u) := h
      rcases a with _ | (x | x | x)
      · cases h1
      · cases h1; exact ⟨rfl, by simp [qa_isL]⟩
      · cases h1
      · cases h1; exact ⟨rfl, by simp [qa_isL]⟩
    | succ i =>
      have h1 : some a = some (some u) := h
      cases h1
      exact ⟨rfl, by omega⟩
  | a :: l, i + 1, v, j + 1, u, h => by
    rcases qa_nth_st1 l i v j u h with ⟨h1, h2⟩ | ⟨h1, h2, h3⟩
    · exact Or.inl ⟨by omega, h2⟩
    · exact Or.inr ⟨by omega, h2, fun q => h3 ⟨by omega, q.2⟩⟩
theorem qa_nth_clr : ∀ (loc : LLoc) (i j : Nat) (u : LV), qa_nth (qa_clr loc i) j = some (some u) → j ≠ i ∧ qa_nth loc j = some (some u)
  | [], _, _, _, h => by cases h
  | a :: l, 0, 0, u, h => by cases h
  | a :: l, 0, j + 1, u, h => ⟨by omega, h⟩
  | a :: l, i + 1, 0, u, h => ⟨by omega, h⟩
  | a :: l, i + 1, j + 1, u, h => by
    obtain ⟨h1, h2⟩ := qa_nth_clr l i j u h
    exact ⟨by omega, h2⟩
/-- the locals as the kit lists them -/
def qa_lv (z : qa_S) (loc : LLoc) : List (Nat × Value) := (List.range loc.length).filterMap fun i => match qa_nth loc i with | some (some v) => some (i, qa_val z v) | _ => none
theorem qa_lv_mem {z : qa_S} {loc : LLoc} {i : Nat} {v : LV} (h : qa_nth loc i = some (some v)) : (i, qa_val z v) ∈ qa_lv z loc :=
  List.mem_filterMap.mpr ⟨i, List.mem_range.mpr (qa_nth_lt h), by rw [h]⟩
theorem qa_lv_has {z : qa_S} {s : LMem} {nL : Nat} {ls : Array Slot} {loc : LLoc} (h : qa_lo z s nL ls loc) : lv_has ls nL (qa_lv z loc) := by
  refine ⟨h.1, h.2.1, fun q hq => ?_⟩
  obtain ⟨i, -, hi⟩ := List.mem_filterMap.mp hq
  cases hn : qa_nth loc i with
  | none => rw [hn] at hi; cases hi
  | some a =>
    rw [hn] at hi
    cases a with
    | none => cases hi
    | some v => cases hi; exact (h.2.2.2 i v hn).1
theorem qa_cat1 {z : qa_S} {v : LV} (h : qa_isL v = false) : (qa_val z v).category = 1 := by
  rcases v with x | x | ⟨k, _ | i⟩ <;> first | rfl | cases h
theorem qa_cat2 {z : qa_S} {v : LV} (h : (qa_val z v).category = 2) : qa_isL v = true := by
  cases h1 : qa_isL v with
  | true => rfl
  | false => rw [qa_cat1 h1] at h; cases h
theorem qa_lo_st1 {z : qa_S} {s : LMem} {nL : Nat} {ls ls' : Array Slot} {loc : LLoc} (h : qa_lo z s nL ls loc) {i : Nat} {v : LV} (hv : qa_vv s v)
    (h' : lv_has ls' nL ((i, qa_val z v) :: (qa_lv z loc).filter (fun q => !(q.1 == i) && !(q.1 + 1 == i && q.2.category == 2)))) : qa_lo z s nL ls' (qa_st1 loc i v) := by
  refine ⟨h'.1, h'.2.1, by rw [qa_st1_len]; exact h.2.2.1, fun j u hj => ?_⟩
  rcases qa_nth_st1 loc i v j u hj with ⟨rfl, rfl⟩ | ⟨h1, h2, h3⟩
  · exact ⟨h'.2.2 _ List.mem_cons_self, hv⟩
  · refine ⟨h'.2.2 (j, qa_val z u) (List.mem_cons_of_mem _ (List.mem_filter.mpr ⟨qa_lv_mem h2, ?_⟩)), (h.2.2.2 j u h2).2⟩
    have e1 : ((j : Nat) == i) = false := by simpa using h1
    have e2 : (((j + 1 : Nat) == i) && ((qa_val z u).category == 2)) = false := by
      cases h9 : ((j + 1 : Nat) == i) && ((qa_val z u).category == 2) with
      | false => rfl
      | true =>
        simp only [Bool.and_eq_true, beq_iff_eq] at h9
        exact absurd ⟨h9.1, qa_cat2 h9.2⟩ h3
    show (!((j : Nat) == i) && !((j + 1 == i) && ((qa_val z u).category == 2))) = true
    rw [e1, e2]
    rfl
theorem qa_lo_st2 {z : qa_S} {s : LMem} {nL : Nat} {ls ls' : Array Slot} {loc : LLoc} (h : qa_lo z s nL ls loc) {i : Nat} {v : LV} (hv : qa_vv s v)
    (h' : lv_has ls' nL ((i, qa_val z v) :: (qa_lv z loc).filter (fun q => !(q.1 == i) && (!(q.1 == i + 1) && !(q.1 + 1 == i && q.2.category == 2))))) : qa_lo z s nL ls' (qa_clr (qa_st1 loc i v) (i + 1)) := by
  refine ⟨h'.1, h'.2.1, by rw [qa_clr_len, qa_st1_len]; exact h.2.2.1, fun j u hj => ?_⟩
  obtain ⟨hj1, hj⟩ := qa_nth_clr _ _ _ _ hj
  rcases qa_nth_st1 loc i v j u hj with ⟨rfl, rfl⟩ | ⟨h1, h2, h3⟩
  · exact ⟨h'.2.2 _ List.mem_cons_self, hv⟩
  · refine ⟨h'.2.2 (j, qa_val z u) (List.mem_cons_of_mem _ (List.mem_filter.mpr ⟨qa_lv_mem h2, ?_⟩)), (h.2.2.2 j u h2).2⟩
    have e1 : ((j : Nat) == i) = false := by simpa using h1
    have e0 : ((j : Nat) == i + 1) = false := by simpa using hj1
    have e2 : (((j + 1 : Nat) == i) && ((qa_val z u).category == 2)) = false := by
      cases h9 : ((j + 1 : Nat) == i) && ((qa_val z u).category == 2) with
      | false => rfl
      | true =>
        simp only [Bool.and_eq_true, beq_iff_eq] at h9
        exact absurd ⟨h9.1, qa_cat2 h9.2⟩ h3
    show (!((j : Nat) == i) && (!((j : Nat) == i + 1) && !((j + 1 == i) && ((qa_val z u).category == 2)))) = true
    rw [e1, e0, e2]
    rfl
