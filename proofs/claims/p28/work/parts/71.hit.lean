/-! hit, on both sides. -/
theorem g_hand : ∀ ct ∈ gL_0, y_con x_X ct := fun _ h => absurd h List.not_mem_nil
def yh_X12_hit_0 : YCt := (306, [.inr (.inr (33, (0, 0), (0, 0))), .inl ((-2147483648), 2147483647), .inl ((-2147483648), 0)], ([], []), [], [(some (.inl ((-2147483648), 2147483647)), [])], 40)
theorem h_X12_hit_0 : y_con x_X yh_X12_hit_0 := by
  refine y_cases (N := 20) (j := 272) (k := 48) (fun s hJ => hJ.1 48 0 272 (272, 272, 0, 20) (by decide) (by decide) (by decide)) fun n hn => ?_
  rcases (show n = 0 ∨ n = 1 ∨ n = 2 ∨ n = 3 ∨ n = 4 ∨ n = 5 ∨ n = 6 ∨ n = 7 ∨ n = 8 ∨ n = 9 ∨ n = 10 ∨ n = 11 ∨ n = 12 ∨ n = 13 ∨ n = 14 ∨ n = 15 ∨ n = 16 ∨ n = 17 ∨ n = 18 ∨ n = 19 ∨ n = 20 by omega) with rfl | rfl | rfl | rfl | rfl | rfl | rfl | rfl | rfl | rfl | rfl | rfl | rfl | rfl | rfl | rfl | rfl | rfl | rfl | rfl | rfl
  · exact ⟨gk_X12_hit.2.2.2.1, y_con_ct (ct := gk_X12_hit) (g_all x_X_cl g_hand gk_X12_hit (List.mem_of_getElem? (i := 74) rfl)) (by decide), by decide +kernel⟩
  · exact ⟨gk_X12_hit_1.2.2.2.1, y_con_ct (ct := gk_X12_hit_1) (g_all x_X_cl g_hand gk_X12_hit_1 (List.mem_of_getElem? (i := 76) rfl)) (by decide), by decide +kernel⟩
  · exact ⟨gk_X12_hit_2.2.2.2.1, y_con_ct (ct := gk_X12_hit_2) (g_all x_X_cl g_hand gk_X12_hit_2 (List.mem_of_getElem? (i := 78) rfl)) (by decide), by decide +kernel⟩
  · exact ⟨gk_X12_hit_3.2.2.2.1, y_con_ct (ct := gk_X12_hit_3) (g_all x_X_cl g_hand gk_X12_hit_3 (List.mem_of_getElem? (i := 80) rfl)) (by decide), by decide +kernel⟩
  · exact ⟨gk_X12_hit_4.2.2.2.1, y_con_ct (ct := gk_X12_hit_4) (g_all x_X_cl g_hand gk_X12_hit_4 (List.mem_of_getElem? (i := 82) rfl)) (by decide), by decide +kernel⟩
  · exact ⟨gk_X12_hit_5.2.2.2.1, y_con_ct (ct := gk_X12_hit_5) (g_all x_X_cl g_hand gk_X12_hit_5 (List.mem_of_getElem? (i := 84) rfl)) (by decide), by decide +kernel⟩
  · exact ⟨gk_X12_hit_6.2.2.2.1, y_con_ct (ct := gk_X12_hit_6) (g_all x_X_cl g_hand gk_X12_hit_6 (List.mem_of_getElem? (i := 86) rfl)) (by decide), by decide +kernel⟩
  · exact ⟨gk_X12_hit_7.2.2.2.1, y_con_ct (ct := gk_X12_hit_7) (g_all x_X_cl g_hand gk_X12_hit_7 (List.mem_of_getElem? (i := 88) rfl)) (by decide), by decide +kernel⟩
  · exact ⟨gk_X12_hit_8.2.2.2.1, y_con_ct (ct := gk_X12_hit_8) (g_all x_X_cl g_hand gk_X12_hit_8 (List.mem_of_getElem? (i := 90) rfl)) (by decide), by decide +kernel⟩
  · exact ⟨gk_X12_hit_9.2.2.2.1, y_con_ct (ct := gk_X12_hit_9) (g_all x_X_cl g_hand gk_X12_hit_9 (List.mem_of_getElem? (i := 92) rfl)) (by decide), by decide +kernel⟩
  · exact ⟨gk_X12_hit_10.2.2.2.1, y_con_ct (ct := gk_X12_hit_10) (g_all x_X_cl g_hand gk_X12_hit_10 (List.mem_of_getElem? (i := 94) rfl)) (by decide), by decide +kernel⟩
  · exact ⟨gk_X12_hit_11.2.2.2.1, y_con_ct (ct := gk_X12_hit_11) (g_all x_X_cl g_hand gk_X12_hit_11 (List.mem_of_getElem? (i := 96) rfl)) (by decide), by decide +kernel⟩
  · exact ⟨gk_X12_hit_12.2.2.2.1, y_con_ct (ct := gk_X12_hit_12) (g_all x_X_cl g_hand gk_X12_hit_12 (List.mem_of_getElem? (i := 98) rfl)) (by decide), by decide +kernel⟩
  · exact ⟨gk_X12_hit_13.2.2.2.1, y_con_ct (ct := gk_X12_hit_13) (g_all x_X_cl g_hand gk_X12_hit_13 (List.mem_of_getElem? (i := 100) rfl)) (by decide), by decide +kernel⟩
  · exact ⟨gk_X12_hit_14.2.2.2.1, y_con_ct (ct := gk_X12_hit_14) (g_all x_X_cl g_hand gk_X12_hit_14 (List.mem_of_getElem? (i := 102) rfl)) (by decide), by decide +kernel⟩
  · exact ⟨gk_X12_hit_15.2.2.2.1, y_con_ct (ct := gk_X12_hit_15) (g_all x_X_cl g_hand gk_X12_hit_15 (List.mem_of_getElem? (i := 104) rfl)) (by decide), by decide +kernel⟩
  · exact ⟨gk_X12_hit_16.2.2.2.1, y_con_ct (ct := gk_X12_hit_16) (g_all x_X_cl g_hand gk_X12_hit_16 (List.mem_of_getElem? (i := 106) rfl)) (by decide), by decide +kernel⟩
  · exact ⟨gk_X12_hit_17.2.2.2.1, y_con_ct (ct := gk_X12_hit_17) (g_all x_X_cl g_hand gk_X12_hit_17 (List.mem_of_getElem? (i := 108) rfl)) (by decide), by decide +kernel⟩
  · exact ⟨gk_X12_hit_18.2.2.2.1, y_con_ct (ct := gk_X12_hit_18) (g_all x_X_cl g_hand gk_X12_hit_18 (List.mem_of_getElem? (i := 110) rfl)) (by decide), by decide +kernel⟩
  · exact ⟨gk_X12_hit_19.2.2.2.1, y_con_ct (ct := gk_X12_hit_19) (g_all x_X_cl g_hand gk_X12_hit_19 (List.mem_of_getElem? (i := 112) rfl)) (by decide), by decide +kernel⟩
  · exact ⟨gk_X12_hit_20.2.2.2.1, y_con_ct (ct := gk_X12_hit_20) (g_all x_X_cl g_hand gk_X12_hit_20 (List.mem_of_getElem? (i := 114) rfl)) (by decide), by decide +kernel⟩
def yh_X12_hit_1 : YCt := (306, [.inr (.inr (33, (0, 0), (0, 0))), .inl ((-2147483648), 2147483647), .inl (1, 1)], ([], []), [], [(some (.inl ((-2147483648), 2147483647)), [])], 40)
theorem h_X12_hit_1 : y_con x_X yh_X12_hit_1 := by
  refine y_cases (N := 20) (j := 272) (k := 48) (fun s hJ => hJ.1 48 0 272 (272, 272, 0, 20) (by decide) (by decide) (by decide)) fun n hn => ?_
  rcases (show n = 0 ∨ n = 1 ∨ n = 2 ∨ n = 3 ∨ n = 4 ∨ n = 5 ∨ n = 6 ∨ n = 7 ∨ n = 8 ∨ n = 9 ∨ n = 10 ∨ n = 11 ∨ n = 12 ∨ n = 13 ∨ n = 14 ∨ n = 15 ∨ n = 16 ∨ n = 17 ∨ n = 18 ∨ n = 19 ∨ n = 20 by omega) with rfl | rfl | rfl | rfl | rfl | rfl | rfl | rfl | rfl | rfl | rfl | rfl | rfl | rfl | rfl | rfl | rfl | rfl | rfl | rfl | rfl
  · exact ⟨gk_X12_hit_21.2.2.2.1, y_con_ct (ct := gk_X12_hit_21) (g_all x_X_cl g_hand gk_X12_hit_21 (List.mem_of_getElem? (i := 116) rfl)) (by decide), by decide +kernel⟩
  · exact ⟨gk_X12_hit_22.2.2.2.1, y_con_ct (ct := gk_X12_hit_22) (g_all x_X_cl g_hand gk_X12_hit_22 (List.mem_of_getElem? (i := 118) rfl)) (by decide), by decide +kernel⟩
  · exact ⟨gk_X12_hit_23.2.2.2.1, y_con_ct (ct := gk_X12_hit_23) (g_all x_X_cl g_hand gk_X12_hit_23 (List.mem_of_getElem? (i := 119) rfl)) (by decide), by decide +kernel⟩
  · exact ⟨gk_X12_hit_24.2.2.2.1, y_con_ct (ct := gk_X12_hit_24) (g_all x_X_cl g_hand gk_X12_hit_24 (List.mem_of_getElem? (i := 120) rfl)) (by decide), by decide +kernel⟩
  · exact ⟨gk_X12_hit_25.2.2.2.1, y_con_ct (ct := gk_X12_hit_25) (g_all x_X_cl g_hand gk_X12_hit_25 (List.mem_of_getElem? (i := 121) rfl)) (by decide), by decide +kernel⟩
  · exact ⟨gk_X12_hit_26.2.2.2.1, y_con_ct (ct := gk_X12_hit_26) (g_all x_X_cl g_hand gk_X12_hit_26 (List.mem_of_getElem? (i := 122) rfl)) (by decide), by decide +kernel⟩
  · exact ⟨gk_X12_hit_27.2.2.2.1, y_con_ct (ct := gk_X12_hit_27) (g_all x_X_cl g_hand gk_X12_hit_27 (List.mem_of_getElem? (i := 123) rfl)) (by decide), by decide +kernel⟩
  · exact ⟨gk_X12_hit_28.2.2.2.1, y_con_ct (ct := gk_X12_hit_28) (g_all x_X_cl g_hand gk_X12_hit_28 (List.mem_of_getElem? (i := 124) rfl)) (by decide), by decide +kernel⟩
  · exact ⟨gk_X12_hit_29.2.2.2.1, y_con_ct (ct := gk_X12_hit_29) (g_all x_X_cl g_hand gk_X12_hit_29 (List.mem_of_getElem? (i := 125) rfl)) (by decide), by decide +kernel⟩
  · exact ⟨gk_X12_hit_30.2.2.2.1, y_con_ct (ct := gk_X12_hit_30) (g_all x_X_cl g_hand gk_X12_hit_30 (List.mem_of_getElem? (i := 126) rfl)) (by decide), by decide +kernel⟩
  · exact ⟨gk_X12_hit_31.2.2.2.1, y_con_ct (ct := gk_X12_hit_31) (g_all x_X_cl g_hand gk_X12_hit_31 (List.mem_of_getElem? (i := 127) rfl)) (by decide), by decide +kernel⟩
  · exact ⟨gk_X12_hit_32.2.2.2.1, y_con_ct (ct := gk_X12_hit_32) (g_all x_X_cl g_hand gk_X12_hit_32 (List.mem_of_getElem? (i := 128) rfl)) (by decide), by decide +kernel⟩
  · exact ⟨gk_X12_hit_33.2.2.2.1, y_con_ct (ct := gk_X12_hit_33) (g_all x_X_cl g_hand gk_X12_hit_33 (List.mem_of_getElem? (i := 129) rfl)) (by decide), by decide +kernel⟩
  · exact ⟨gk_X12_hit_34.2.2.2.1, y_con_ct (ct := gk_X12_hit_34) (g_all x_X_cl g_hand gk_X12_hit_34 (List.mem_of_getElem? (i := 130) rfl)) (by decide), by decide +kernel⟩
  · exact ⟨gk_X12_hit_35.2.2.2.1, y_con_ct (ct := gk_X12_hit_35) (g_all x_X_cl g_hand gk_X12_hit_35 (List.mem_of_getElem? (i := 131) rfl)) (by decide), by decide +kernel⟩
  · exact ⟨gk_X12_hit_36.2.2.2.1, y_con_ct (ct := gk_X12_hit_36) (g_all x_X_cl g_hand gk_X12_hit_36 (List.mem_of_getElem? (i := 132) rfl)) (by decide), by decide +kernel⟩
  · exact ⟨gk_X12_hit_37.2.2.2.1, y_con_ct (ct := gk_X12_hit_37) (g_all x_X_cl g_hand gk_X12_hit_37 (List.mem_of_getElem? (i := 133) rfl)) (by decide), by decide +kernel⟩
  · exact ⟨gk_X12_hit_38.2.2.2.1, y_con_ct (ct := gk_X12_hit_38) (g_all x_X_cl g_hand gk_X12_hit_38 (List.mem_of_getElem? (i := 134) rfl)) (by decide), by decide +kernel⟩
  · exact ⟨gk_X12_hit_39.2.2.2.1, y_con_ct (ct := gk_X12_hit_39) (g_all x_X_cl g_hand gk_X12_hit_39 (List.mem_of_getElem? (i := 135) rfl)) (by decide), by decide +kernel⟩
  · exact ⟨gk_X12_hit_40.2.2.2.1, y_con_ct (ct := gk_X12_hit_40) (g_all x_X_cl g_hand gk_X12_hit_40 (List.mem_of_getElem? (i := 136) rfl)) (by decide), by decide +kernel⟩
  · exact ⟨gk_X12_hit_41.2.2.2.1, y_con_ct (ct := gk_X12_hit_41) (g_all x_X_cl g_hand gk_X12_hit_41 (List.mem_of_getElem? (i := 137) rfl)) (by decide), by decide +kernel⟩
def yh_X12_hit_2 : YCt := (306, [.inr (.inr (33, (0, 0), (0, 0))), .inl ((-2147483648), 2147483647), .inl (2, 2)], ([], []), [], [(some (.inl ((-2147483648), 2147483647)), [])], 40)
theorem h_X12_hit_2 : y_con x_X yh_X12_hit_2 := by
  refine y_cases (N := 20) (j := 272) (k := 48) (fun s hJ => hJ.1 48 0 272 (272, 272, 0, 20) (by decide) (by decide) (by decide)) fun n hn => ?_
  rcases (show n = 0 ∨ n = 1 ∨ n = 2 ∨ n = 3 ∨ n = 4 ∨ n = 5 ∨ n = 6 ∨ n = 7 ∨ n = 8 ∨ n = 9 ∨ n = 10 ∨ n = 11 ∨ n = 12 ∨ n = 13 ∨ n = 14 ∨ n = 15 ∨ n = 16 ∨ n = 17 ∨ n = 18 ∨ n = 19 ∨ n = 20 by omega) with rfl | rfl | rfl | rfl | rfl | rfl | rfl | rfl | rfl | rfl | rfl | rfl | rfl | rfl | rfl | rfl | rfl | rfl | rfl | rfl | rfl
  · exact ⟨gk_X12_hit_42.2.2.2.1, y_con_ct (ct := gk_X12_hit_42) (g_all x_X_cl g_hand gk_X12_hit_42 (List.mem_of_getElem? (i := 138) rfl)) (by decide), by decide +kernel⟩
  · exact ⟨gk_X12_hit_43.2.2.2.1, y_con_ct (ct := gk_X12_hit_43) (g_all x_X_cl g_hand gk_X12_hit_43 (List.mem_of_getElem? (i := 140) rfl)) (by decide), by decide +kernel⟩
  · exact ⟨gk_X12_hit_44.2.2.2.1, y_con_ct (ct := gk_X12_hit_44) (g_all x_X_cl g_hand gk_X12_hit_44 (List.mem_of_getElem? (i := 142) rfl)) (by decide), by decide +kernel⟩
  · exact ⟨gk_X12_hit_45.2.2.2.1, y_con_ct (ct := gk_X12_hit_45) (g_all x_X_cl g_hand gk_X12_hit_45 (List.mem_of_getElem? (i := 143) rfl)) (by decide), by decide +kernel⟩
  · exact ⟨gk_X12_hit_46.2.2.2.1, y_con_ct (ct := gk_X12_hit_46) (g_all x_X_cl g_hand gk_X12_hit_46 (List.mem_of_getElem? (i := 144) rfl)) (by decide), by decide +kernel⟩
  · exact ⟨gk_X12_hit_47.2.2.2.1, y_con_ct (ct := gk_X12_hit_47) (g_all x_X_cl g_hand gk_X12_hit_47 (List.mem_of_getElem? (i := 145) rfl)) (by decide), by decide +kernel⟩
  · exact ⟨gk_X12_hit_48.2.2.2.1, y_con_ct (ct := gk_X12_hit_48) (g_all x_X_cl g_hand gk_X12_hit_48 (List.mem_of_getElem? (i := 146) rfl)) (by decide), by decide +kernel⟩
  · exact ⟨gk_X12_hit_49.2.2.2.1, y_con_ct (ct := gk_X12_hit_49) (g_all x_X_cl g_hand gk_X12_hit_49 (List.mem_of_getElem? (i := 147) rfl)) (by decide), by decide +kernel⟩
  · exact ⟨gk_X12_hit_50.2.2.2.1, y_con_ct (ct := gk_X12_hit_50) (g_all x_X_cl g_hand gk_X12_hit_50 (List.mem_of_getElem? (i := 148) rfl)) (by decide), by decide +kernel⟩
  · exact ⟨gk_X12_hit_51.2.2.2.1, y_con_ct (ct := gk_X12_hit_51) (g_all x_X_cl g_hand gk_X12_hit_51 (List.mem_of_getElem? (i := 149) rfl)) (by decide), by decide +kernel⟩
  · exact ⟨gk_X12_hit_52.2.2.2.1, y_con_ct (ct := gk_X12_hit_52) (g_all x_X_cl g_hand gk_X12_hit_52 (List.mem_of_getElem? (i := 150) rfl)) (by decide), by decide +kernel⟩
  · exact ⟨gk_X12_hit_53.2.2.2.1, y_con_ct (ct := gk_X12_hit_53) (g_all x_X_cl g_hand gk_X12_hit_53 (List.mem_of_getElem? (i := 151) rfl)) (by decide), by decide +kernel⟩
  · exact ⟨gk_X12_hit_54.2.2.2.1, y_con_ct (ct := gk_X12_hit_54) (g_all x_X_cl g_hand gk_X12_hit_54 (List.mem_of_getElem? (i := 152) rfl)) (by decide), by decide +kernel⟩
  · exact ⟨gk_X12_hit_55.2.2.2.1, y_con_ct (ct := gk_X12_hit_55) (g_all x_X_cl g_hand gk_X12_hit_55 (List.mem_of_getElem? (i := 153) rfl)) (by decide), by decide +kernel⟩
  · exact ⟨gk_X12_hit_56.2.2.2.1, y_con_ct (ct := gk_X12_hit_56) (g_all x_X_cl g_hand gk_X12_hit_56 (List.mem_of_getElem? (i := 154) rfl)) (by decide), by decide +kernel⟩
  · exact ⟨gk_X12_hit_57.2.2.2.1, y_con_ct (ct := gk_X12_hit_57) (g_all x_X_cl g_hand gk_X12_hit_57 (List.mem_of_getElem? (i := 155) rfl)) (by decide), by decide +kernel⟩
  · exact ⟨gk_X12_hit_58.2.2.2.1, y_con_ct (ct := gk_X12_hit_58) (g_all x_X_cl g_hand gk_X12_hit_58 (List.mem_of_getElem? (i := 156) rfl)) (by decide), by decide +kernel⟩
  · exact ⟨gk_X12_hit_59.2.2.2.1, y_con_ct (ct := gk_X12_hit_59) (g_all x_X_cl g_hand gk_X12_hit_59 (List.mem_of_getElem? (i := 157) rfl)) (by decide), by decide +kernel⟩
  · exact ⟨gk_X12_hit_60.2.2.2.1, y_con_ct (ct := gk_X12_hit_60) (g_all x_X_cl g_hand gk_X12_hit_60 (List.mem_of_getElem? (i := 158) rfl)) (by decide), by decide +kernel⟩
  · exact ⟨gk_X12_hit_61.2.2.2.1, y_con_ct (ct := gk_X12_hit_61) (g_all x_X_cl g_hand gk_X12_hit_61 (List.mem_of_getElem? (i := 159) rfl)) (by decide), by decide +kernel⟩
  · exact ⟨gk_X12_hit_62.2.2.2.1, y_con_ct (ct := gk_X12_hit_62) (g_all x_X_cl g_hand gk_X12_hit_62 (List.mem_of_getElem? (i := 160) rfl)) (by decide), by decide +kernel⟩
def yh_X12_hit_3 : YCt := (306, [.inr (.inr (33, (0, 0), (0, 0))), .inl ((-2147483648), 2147483647), .inl (3, 3)], ([], []), [], [(some (.inl ((-2147483648), 2147483647)), [])], 40)
theorem h_X12_hit_3 : y_con x_X yh_X12_hit_3 := by
  refine y_cases (N := 20) (j := 272) (k := 48) (fun s hJ => hJ.1 48 0 272 (272, 272, 0, 20) (by decide) (by decide) (by decide)) fun n hn => ?_
  rcases (show n = 0 ∨ n = 1 ∨ n = 2 ∨ n = 3 ∨ n = 4 ∨ n = 5 ∨ n = 6 ∨ n = 7 ∨ n = 8 ∨ n = 9 ∨ n = 10 ∨ n = 11 ∨ n = 12 ∨ n = 13 ∨ n = 14 ∨ n = 15 ∨ n = 16 ∨ n = 17 ∨ n = 18 ∨ n = 19 ∨ n = 20 by omega) with rfl | rfl | rfl | rfl | rfl | rfl | rfl | rfl | rfl | rfl | rfl | rfl | rfl | rfl | rfl | rfl | rfl | rfl | rfl | rfl | rfl
  · exact ⟨gk_X12_hit_63.2.2.2.1, y_con_ct (ct := gk_X12_hit_63) (g_all x_X_cl g_hand gk_X12_hit_63 (List.mem_of_getElem? (i := 161) rfl)) (by decide), by decide +kernel⟩
  · exact ⟨gk_X12_hit_64.2.2.2.1, y_con_ct (ct := gk_X12_hit_64) (g_all x_X_cl g_hand gk_X12_hit_64 (List.mem_of_getElem? (i := 163) rfl)) (by decide), by decide +kernel⟩
  · exact ⟨gk_X12_hit_65.2.2.2.1, y_con_ct (ct := gk_X12_hit_65) (g_all x_X_cl g_hand gk_X12_hit_65 (List.mem_of_getElem? (i := 165) rfl)) (by decide), by decide +kernel⟩
  · exact ⟨gk_X12_hit_66.2.2.2.1, y_con_ct (ct := gk_X12_hit_66) (g_all x_X_cl g_hand gk_X12_hit_66 (List.mem_of_getElem? (i := 167) rfl)) (by decide), by decide +kernel⟩
  · exact ⟨gk_X12_hit_67.2.2.2.1, y_con_ct (ct := gk_X12_hit_67) (g_all x_X_cl g_hand gk_X12_hit_67 (List.mem_of_getElem? (i := 168) rfl)) (by decide), by decide +kernel⟩
  · exact ⟨gk_X12_hit_68.2.2.2.1, y_con_ct (ct := gk_X12_hit_68) (g_all x_X_cl g_hand gk_X12_hit_68 (List.mem_of_getElem? (i := 169) rfl)) (by decide), by decide +kernel⟩
  · exact ⟨gk_X12_hit_69.2.2.2.1, y_con_ct (ct := gk_X12_hit_69) (g_all x_X_cl g_hand gk_X12_hit_69 (List.mem_of_getElem? (i := 170) rfl)) (by decide), by decide +kernel⟩
  · exact ⟨gk_X12_hit_70.2.2.2.1, y_con_ct (ct := gk_X12_hit_70) (g_all x_X_cl g_hand gk_X12_hit_70 (List.mem_of_getElem? (i := 171) rfl)) (by decide), by decide +kernel⟩
  · exact ⟨gk_X12_hit_71.2.2.2.1, y_con_ct (ct := gk_X12_hit_71) (g_all x_X_cl g_hand gk_X12_hit_71 (List.mem_of_getElem? (i := 172) rfl)) (by decide), by decide +kernel⟩
  · exact ⟨gk_X12_hit_72.2.2.2.1, y_con_ct (ct := gk_X12_hit_72) (g_all x_X_cl g_hand gk_X12_hit_72 (List.mem_of_getElem? (i := 173) rfl)) (by decide), by decide +kernel⟩
  · exact ⟨gk_X12_hit_73.2.2.2.1, y_con_ct (ct := gk_X12_hit_73) (g_all x_X_cl g_hand gk_X12_hit_73 (List.mem_of_getElem? (i := 174) rfl)) (by decide), by decide +kernel⟩
  · exact ⟨gk_X12_hit_74.2.2.2.1, y_con_ct (ct := gk_X12_hit_74) (g_all x_X_cl g_hand gk_X12_hit_74 (List.mem_of_getElem? (i := 175) rfl)) (by decide), by decide +kernel⟩
  · exact ⟨gk_X12_hit_75.2.2.2.1, y_con_ct (ct := gk_X12_hit_75) (g_all x_X_cl g_hand gk_X12_hit_75 (List.mem_of_getElem? (i := 176) rfl)) (by decide), by decide +kernel⟩
  · exact ⟨gk_X12_hit_76.2.2.2.1, y_con_ct (ct := gk_X12_hit_76) (g_all x_X_cl g_hand gk_X12_hit_76 (List.mem_of_getElem? (i := 177) rfl)) (by decide), by decide +kernel⟩
  · exact ⟨gk_X12_hit_77.2.2.2.1, y_con_ct (ct := gk_X12_hit_77) (g_all x_X_cl g_hand gk_X12_hit_77 (List.mem_of_getElem? (i := 178) rfl)) (by decide), by decide +kernel⟩
  · exact ⟨gk_X12_hit_78.2.2.2.1, y_con_ct (ct := gk_X12_hit_78) (g_all x_X_cl g_hand gk_X12_hit_78 (List.mem_of_getElem? (i := 179) rfl)) (by decide), by decide +kernel⟩
  · exact ⟨gk_X12_hit_79.2.2.2.1, y_con_ct (ct := gk_X12_hit_79) (g_all x_X_cl g_hand gk_X12_hit_79 (List.mem_of_getElem? (i := 180) rfl)) (by decide), by decide +kernel⟩
  · exact ⟨gk_X12_hit_80.2.2.2.1, y_con_ct (ct := gk_X12_hit_80) (g_all x_X_cl g_hand gk_X12_hit_80 (List.mem_of_getElem? (i := 181) rfl)) (by decide), by decide +kernel⟩
  · exact ⟨gk_X12_hit_81.2.2.2.1, y_con_ct (ct := gk_X12_hit_81) (g_all x_X_cl g_hand gk_X12_hit_81 (List.mem_of_getElem? (i := 182) rfl)) (by decide), by decide +kernel⟩
  · exact ⟨gk_X12_hit_82.2.2.2.1, y_con_ct (ct := gk_X12_hit_82) (g_all x_X_cl g_hand gk_X12_hit_82 (List.mem_of_getElem? (i := 183) rfl)) (by decide), by decide +kernel⟩
  · exact ⟨gk_X12_hit_83.2.2.2.1, y_con_ct (ct := gk_X12_hit_83) (g_all x_X_cl g_hand gk_X12_hit_83 (List.mem_of_getElem? (i := 184) rfl)) (by decide), by decide +kernel⟩
def yh_X12_hit_4 : YCt := (306, [.inr (.inr (33, (0, 0), (0, 0))), .inl ((-2147483648), 2147483647), .inl (4, 4)], ([], []), [], [(some (.inl ((-2147483648), 2147483647)), [])], 40)
theorem h_X12_hit_4 : y_con x_X yh_X12_hit_4 := by
  refine y_cases (N := 20) (j := 272) (k := 48) (fun s hJ => hJ.1 48 0 272 (272, 272, 0, 20) (by decide) (by decide) (by decide)) fun n hn => ?_
  rcases (show n = 0 ∨ n = 1 ∨ n = 2 ∨ n = 3 ∨ n = 4 ∨ n = 5 ∨ n = 6 ∨ n = 7 ∨ n = 8 ∨ n = 9 ∨ n = 10 ∨ n = 11 ∨ n = 12 ∨ n = 13 ∨ n = 14 ∨ n = 15 ∨ n = 16 ∨ n = 17 ∨ n = 18 ∨ n = 19 ∨ n = 20 by omega) with rfl | rfl | rfl | rfl | rfl | rfl | rfl | rfl | rfl | rfl | rfl | rfl | rfl | rfl | rfl | rfl | rfl | rfl | rfl | rfl | rfl
  · exact ⟨gk_X12_hit_84.2.2.2.1, y_con_ct (ct := gk_X12_hit_84) (g_all x_X_cl g_hand gk_X12_hit_84 (List.mem_of_getElem? (i := 185) rfl)) (by decide), by decide +kernel⟩
  · exact ⟨gk_X12_hit_85.2.2.2.1, y_con_ct (ct := gk_X12_hit_85) (g_all x_X_cl g_hand gk_X12_hit_85 (List.mem_of_getElem? (i := 187) rfl)) (by decide), by decide +kernel⟩
  · exact ⟨gk_X12_hit_86.2.2.2.1, y_con_ct (ct := gk_X12_hit_86) (g_all x_X_cl g_hand gk_X12_hit_86 (List.mem_of_getElem? (i := 189) rfl)) (by decide), by decide +kernel⟩
  · exact ⟨gk_X12_hit_87.2.2.2.1, y_con_ct (ct := gk_X12_hit_87) (g_all x_X_cl g_hand gk_X12_hit_87 (List.mem_of_getElem? (i := 191) rfl)) (by decide), by decide +kernel⟩
  · exact ⟨gk_X12_hit_88.2.2.2.1, y_con_ct (ct := gk_X12_hit_88) (g_all x_X_cl g_hand gk_X12_hit_88 (List.mem_of_getElem? (i := 193) rfl)) (by decide), by decide +kernel⟩
  · exact ⟨gk_X12_hit_89.2.2.2.1, y_con_ct (ct := gk_X12_hit_89) (g_all x_X_cl g_hand gk_X12_hit_89 (List.mem_of_getElem? (i := 194) rfl)) (by decide), by decide +kernel⟩
  · exact ⟨gk_X12_hit_90.2.2.2.1, y_con_ct (ct := gk_X12_hit_90) (g_all x_X_cl g_hand gk_X12_hit_90 (List.mem_of_getElem? (i := 195) rfl)) (by decide), by decide +kernel⟩
  · exact ⟨gk_X12_hit_91.2.2.2.1, y_con_ct (ct := gk_X12_hit_91) (g_all x_X_cl g_hand gk_X12_hit_91 (List.mem_of_getElem? (i := 196) rfl)) (by decide), by decide +kernel⟩
  · exact ⟨gk_X12_hit_92.2.2.2.1, y_con_ct (ct := gk_X12_hit_92) (g_all x_X_cl g_hand gk_X12_hit_92 (List.mem_of_getElem? (i := 197) rfl)) (by decide), by decide +kernel⟩
  · exact ⟨gk_X12_hit_93.2.2.2.1, y_con_ct (ct := gk_X12_hit_93) (g_all x_X_cl g_hand gk_X12_hit_93 (List.mem_of_getElem? (i := 198) rfl)) (by decide), by decide +kernel⟩
  · exact ⟨gk_X12_hit_94.2.2.2.1, y_con_ct (ct := gk_X12_hit_94) (g_all x_X_cl g_hand gk_X12_hit_94 (List.mem_of_getElem? (i := 199) rfl)) (by decide), by decide +kernel⟩
  · exact ⟨gk_X12_hit_95.2.2.2.1, y_con_ct (ct := gk_X12_hit_95) (g_all x_X_cl g_hand gk_X12_hit_95 (List.mem_of_getElem? (i := 200) rfl)) (by decide), by decide +kernel⟩
  · exact ⟨gk_X12_hit_96.2.2.2.1, y_con_ct (ct := gk_X12_hit_96) (g_all x_X_cl g_hand gk_X12_hit_96 (List.mem_of_getElem? (i := 201) rfl)) (by decide), by decide +kernel⟩
  · exact ⟨gk_X12_hit_97.2.2.2.1, y_con_ct (ct := gk_X12_hit_97) (g_all x_X_cl g_hand gk_X12_hit_97 (List.mem_of_getElem? (i := 202) rfl)) (by decide), by decide +kernel⟩
  · exact ⟨gk_X12_hit_98.2.2.2.1, y_con_ct (ct := gk_X12_hit_98) (g_all x_X_cl g_hand gk_X12_hit_98 (List.mem_of_getElem? (i := 203) rfl)) (by decide), by decide +kernel⟩
  · exact ⟨gk_X12_hit_99.2.2.2.1, y_con_ct (ct := gk_X12_hit_99) (g_all x_X_cl g_hand gk_X12_hit_99 (List.mem_of_getElem? (i := 204) rfl)) (by decide), by decide +kernel⟩
  · exact ⟨gk_X12_hit_100.2.2.2.1, y_con_ct (ct := gk_X12_hit_100) (g_all x_X_cl g_hand gk_X12_hit_100 (List.mem_of_getElem? (i := 205) rfl)) (by decide), by decide +kernel⟩
  · exact ⟨gk_X12_hit_101.2.2.2.1, y_con_ct (ct := gk_X12_hit_101) (g_all x_X_cl g_hand gk_X12_hit_101 (List.mem_of_getElem? (i := 206) rfl)) (by decide), by decide +kernel⟩
  · exact ⟨gk_X12_hit_102.2.2.2.1, y_con_ct (ct := gk_X12_hit_102) (g_all x_X_cl g_hand gk_X12_hit_102 (List.mem_of_getElem? (i := 207) rfl)) (by decide), by decide +kernel⟩
  · exact ⟨gk_X12_hit_103.2.2.2.1, y_con_ct (ct := gk_X12_hit_103) (g_all x_X_cl g_hand gk_X12_hit_103 (List.mem_of_getElem? (i := 208) rfl)) (by decide), by decide +kernel⟩
  · exact ⟨gk_X12_hit_104.2.2.2.1, y_con_ct (ct := gk_X12_hit_104) (g_all x_X_cl g_hand gk_X12_hit_104 (List.mem_of_getElem? (i := 209) rfl)) (by decide), by decide +kernel⟩
def yh_X12_hit_5 : YCt := (306, [.inr (.inr (33, (0, 0), (0, 0))), .inl ((-2147483648), 2147483647), .inl (5, 2147483647)], ([], []), [], [(some (.inl ((-2147483648), 2147483647)), [])], 40)
theorem h_X12_hit_5 : y_con x_X yh_X12_hit_5 := by
  refine y_cases (N := 20) (j := 272) (k := 48) (fun s hJ => hJ.1 48 0 272 (272, 272, 0, 20) (by decide) (by decide) (by decide)) fun n hn => ?_
  rcases (show n = 0 ∨ n = 1 ∨ n = 2 ∨ n = 3 ∨ n = 4 ∨ n = 5 ∨ n = 6 ∨ n = 7 ∨ n = 8 ∨ n = 9 ∨ n = 10 ∨ n = 11 ∨ n = 12 ∨ n = 13 ∨ n = 14 ∨ n = 15 ∨ n = 16 ∨ n = 17 ∨ n = 18 ∨ n = 19 ∨ n = 20 by omega) with rfl | rfl | rfl | rfl | rfl | rfl | rfl | rfl | rfl | rfl | rfl | rfl | rfl | rfl | rfl | rfl | rfl | rfl | rfl | rfl | rfl
  · exact ⟨gk_X12_hit_105.2.2.2.1, y_con_ct (ct := gk_X12_hit_105) (g_all x_X_cl g_hand gk_X12_hit_105 (List.mem_of_getElem? (i := 210) rfl)) (by decide), by decide +kernel⟩
  · exact ⟨gk_X12_hit_106.2.2.2.1, y_con_ct (ct := gk_X12_hit_106) (g_all x_X_cl g_hand gk_X12_hit_106 (List.mem_of_getElem? (i := 212) rfl)) (by decide), by decide +kernel⟩
  · exact ⟨gk_X12_hit_107.2.2.2.1, y_con_ct (ct := gk_X12_hit_107) (g_all x_X_cl g_hand gk_X12_hit_107 (List.mem_of_getElem? (i := 214) rfl)) (by decide), by decide +kernel⟩
  · exact ⟨gk_X12_hit_108.2.2.2.1, y_con_ct (ct := gk_X12_hit_108) (g_all x_X_cl g_hand gk_X12_hit_108 (List.mem_of_getElem? (i := 216) rfl)) (by decide), by decide +kernel⟩
  · exact ⟨gk_X12_hit_109.2.2.2.1, y_con_ct (ct := gk_X12_hit_109) (g_all x_X_cl g_hand gk_X12_hit_109 (List.mem_of_getElem? (i := 218) rfl)) (by decide), by decide +kernel⟩
  · exact ⟨gk_X12_hit_110.2.2.2.1, y_con_ct (ct := gk_X12_hit_110) (g_all x_X_cl g_hand gk_X12_hit_110 (List.mem_of_getElem? (i := 220) rfl)) (by decide), by decide +kernel⟩
  · exact ⟨gk_X12_hit_111.2.2.2.1, y_con_ct (ct := gk_X12_hit_111) (g_all x_X_cl g_hand gk_X12_hit_111 (List.mem_of_getElem? (i := 222) rfl)) (by decide), by decide +kernel⟩
  · exact ⟨gk_X12_hit_112.2.2.2.1, y_con_ct (ct := gk_X12_hit_112) (g_all x_X_cl g_hand gk_X12_hit_112 (List.mem_of_getElem? (i := 224) rfl)) (by decide), by decide +kernel⟩
  · exact ⟨gk_X12_hit_113.2.2.2.1, y_con_ct (ct := gk_X12_hit_113) (g_all x_X_cl g_hand gk_X12_hit_113 (List.mem_of_getElem? (i := 226) rfl)) (by decide), by decide +kernel⟩
  · exact ⟨gk_X12_hit_114.2.2.2.1, y_con_ct (ct := gk_X12_hit_114) (g_all x_X_cl g_hand gk_X12_hit_114 (List.mem_of_getElem? (i := 228) rfl)) (by decide), by decide +kernel⟩
  · exact ⟨gk_X12_hit_115.2.2.2.1, y_con_ct (ct := gk_X12_hit_115) (g_all x_X_cl g_hand gk_X12_hit_115 (List.mem_of_getElem? (i := 230) rfl)) (by decide), by decide +kernel⟩
  · exact ⟨gk_X12_hit_116.2.2.2.1, y_con_ct (ct := gk_X12_hit_116) (g_all x_X_cl g_hand gk_X12_hit_116 (List.mem_of_getElem? (i := 232) rfl)) (by decide), by decide +kernel⟩
  · exact ⟨gk_X12_hit_117.2.2.2.1, y_con_ct (ct := gk_X12_hit_117) (g_all x_X_cl g_hand gk_X12_hit_117 (List.mem_of_getElem? (i := 234) rfl)) (by decide), by decide +kernel⟩
  · exact ⟨gk_X12_hit_118.2.2.2.1, y_con_ct (ct := gk_X12_hit_118) (g_all x_X_cl g_hand gk_X12_hit_118 (List.mem_of_getElem? (i := 236) rfl)) (by decide), by decide +kernel⟩
  · exact ⟨gk_X12_hit_119.2.2.2.1, y_con_ct (ct := gk_X12_hit_119) (g_all x_X_cl g_hand gk_X12_hit_119 (List.mem_of_getElem? (i := 238) rfl)) (by decide), by decide +kernel⟩
  · exact ⟨gk_X12_hit_120.2.2.2.1, y_con_ct (ct := gk_X12_hit_120) (g_all x_X_cl g_hand gk_X12_hit_120 (List.mem_of_getElem? (i := 240) rfl)) (by decide), by decide +kernel⟩
  · exact ⟨gk_X12_hit_121.2.2.2.1, y_con_ct (ct := gk_X12_hit_121) (g_all x_X_cl g_hand gk_X12_hit_121 (List.mem_of_getElem? (i := 242) rfl)) (by decide), by decide +kernel⟩
  · exact ⟨gk_X12_hit_122.2.2.2.1, y_con_ct (ct := gk_X12_hit_122) (g_all x_X_cl g_hand gk_X12_hit_122 (List.mem_of_getElem? (i := 244) rfl)) (by decide), by decide +kernel⟩
  · exact ⟨gk_X12_hit_123.2.2.2.1, y_con_ct (ct := gk_X12_hit_123) (g_all x_X_cl g_hand gk_X12_hit_123 (List.mem_of_getElem? (i := 246) rfl)) (by decide), by decide +kernel⟩
  · exact ⟨gk_X12_hit_124.2.2.2.1, y_con_ct (ct := gk_X12_hit_124) (g_all x_X_cl g_hand gk_X12_hit_124 (List.mem_of_getElem? (i := 248) rfl)) (by decide), by decide +kernel⟩
  · exact ⟨gk_X12_hit_125.2.2.2.1, y_con_ct (ct := gk_X12_hit_125) (g_all x_X_cl g_hand gk_X12_hit_125 (List.mem_of_getElem? (i := 250) rfl)) (by decide), by decide +kernel⟩
def yh_X11_hit_0 : YCt := (194, [.inr (.inr (0, (0, 0), (0, 0))), .inl ((-2147483648), 2147483647), .inl ((-2147483648), 0)], ([], []), [], [(some (.inl ((-2147483648), 2147483647)), [])], 40)
theorem h_X11_hit_0 : y_con x_X yh_X11_hit_0 := by
  refine y_cases (N := 20) (j := 5) (k := 17) (fun s hJ => hJ.1 17 0 5 (5, 5, 0, 20) (by decide) (by decide) (by decide)) fun n hn => ?_
  rcases (show n = 0 ∨ n = 1 ∨ n = 2 ∨ n = 3 ∨ n = 4 ∨ n = 5 ∨ n = 6 ∨ n = 7 ∨ n = 8 ∨ n = 9 ∨ n = 10 ∨ n = 11 ∨ n = 12 ∨ n = 13 ∨ n = 14 ∨ n = 15 ∨ n = 16 ∨ n = 17 ∨ n = 18 ∨ n = 19 ∨ n = 20 by omega) with rfl | rfl | rfl | rfl | rfl | rfl | rfl | rfl | rfl | rfl | rfl | rfl | rfl | rfl | rfl | rfl | rfl | rfl | rfl | rfl | rfl
  · exact ⟨gk_X11_hit.2.2.2.1, y_con_ct (ct := gk_X11_hit) (g_all x_X_cl g_hand gk_X11_hit (List.mem_of_getElem? (i := 75) rfl)) (by decide), by decide +kernel⟩
  · exact ⟨gk_X11_hit_1.2.2.2.1, y_con_ct (ct := gk_X11_hit_1) (g_all x_X_cl g_hand gk_X11_hit_1 (List.mem_of_getElem? (i := 77) rfl)) (by decide), by decide +kernel⟩
  · exact ⟨gk_X11_hit_2.2.2.2.1, y_con_ct (ct := gk_X11_hit_2) (g_all x_X_cl g_hand gk_X11_hit_2 (List.mem_of_getElem? (i := 79) rfl)) (by decide), by decide +kernel⟩
  · exact ⟨gk_X11_hit_3.2.2.2.1, y_con_ct (ct := gk_X11_hit_3) (g_all x_X_cl g_hand gk_X11_hit_3 (List.mem_of_getElem? (i := 81) rfl)) (by decide), by decide +kernel⟩
  · exact ⟨gk_X11_hit_4.2.2.2.1, y_con_ct (ct := gk_X11_hit_4) (g_all x_X_cl g_hand gk_X11_hit_4 (List.mem_of_getElem? (i := 83) rfl)) (by decide), by decide +kernel⟩
  · exact ⟨gk_X11_hit_5.2.2.2.1, y_con_ct (ct := gk_X11_hit_5) (g_all x_X_cl g_hand gk_X11_hit_5 (List.mem_of_getElem? (i := 85) rfl)) (by decide), by decide +kernel⟩
  · exact ⟨gk_X11_hit_6.2.2.2.1, y_con_ct (ct := gk_X11_hit_6) (g_all x_X_cl g_hand gk_X11_hit_6 (List.mem_of_getElem? (i := 87) rfl)) (by decide), by decide +kernel⟩
  · exact ⟨gk_X11_hit_7.2.2.2.1, y_con_ct (ct := gk_X11_hit_7) (g_all x_X_cl g_hand gk_X11_hit_7 (List.mem_of_getElem? (i := 89) rfl)) (by decide), by decide +kernel⟩
  · exact ⟨gk_X11_hit_8.2.2.2.1, y_con_ct (ct := gk_X11_hit_8) (g_all x_X_cl g_hand gk_X11_hit_8 (List.mem_of_getElem? (i := 91) rfl)) (by decide), by decide +kernel⟩
  · exact ⟨gk_X11_hit_9.2.2.2.1, y_con_ct (ct := gk_X11_hit_9) (g_all x_X_cl g_hand gk_X11_hit_9 (List.mem_of_getElem? (i := 93) rfl)) (by decide), by decide +kernel⟩
  · exact ⟨gk_X11_hit_10.2.2.2.1, y_con_ct (ct := gk_X11_hit_10) (g_all x_X_cl g_hand gk_X11_hit_10 (List.mem_of_getElem? (i := 95) rfl)) (by decide), by decide +kernel⟩
  · exact ⟨gk_X11_hit_11.2.2.2.1, y_con_ct (ct := gk_X11_hit_11) (g_all x_X_cl g_hand gk_X11_hit_11 (List.mem_of_getElem? (i := 97) rfl)) (by decide), by decide +kernel⟩
  · exact ⟨gk_X11_hit_12.2.2.2.1, y_con_ct (ct := gk_X11_hit_12) (g_all x_X_cl g_hand gk_X11_hit_12 (List.mem_of_getElem? (i := 99) rfl)) (by decide), by decide +kernel⟩
  · exact ⟨gk_X11_hit_13.2.2.2.1, y_con_ct (ct := gk_X11_hit_13) (g_all x_X_cl g_hand gk_X11_hit_13 (List.mem_of_getElem? (i := 101) rfl)) (by decide), by decide +kernel⟩
  · exact ⟨gk_X11_hit_14.2.2.2.1, y_con_ct (ct := gk_X11_hit_14) (g_all x_X_cl g_hand gk_X11_hit_14 (List.mem_of_getElem? (i := 103) rfl)) (by decide), by decide +kernel⟩
  · exact ⟨gk_X11_hit_15.2.2.2.1, y_con_ct (ct := gk_X11_hit_15) (g_all x_X_cl g_hand gk_X11_hit_15 (List.mem_of_getElem? (i := 105) rfl)) (by decide), by decide +kernel⟩
  · exact ⟨gk_X11_hit_16.2.2.2.1, y_con_ct (ct := gk_X11_hit_16) (g_all x_X_cl g_hand gk_X11_hit_16 (List.mem_of_getElem? (i := 107) rfl)) (by decide), by decide +kernel⟩
  · exact ⟨gk_X11_hit_17.2.2.2.1, y_con_ct (ct := gk_X11_hit_17) (g_all x_X_cl g_hand gk_X11_hit_17 (List.mem_of_getElem? (i := 109) rfl)) (by decide), by decide +kernel⟩
  · exact ⟨gk_X11_hit_18.2.2.2.1, y_con_ct (ct := gk_X11_hit_18) (g_all x_X_cl g_hand gk_X11_hit_18 (List.mem_of_getElem? (i := 111) rfl)) (by decide), by decide +kernel⟩
  · exact ⟨gk_X11_hit_19.2.2.2.1, y_con_ct (ct := gk_X11_hit_19) (g_all x_X_cl g_hand gk_X11_hit_19 (List.mem_of_getElem? (i := 113) rfl)) (by decide), by decide +kernel⟩
  · exact ⟨gk_X11_hit_20.2.2.2.1, y_con_ct (ct := gk_X11_hit_20) (g_all x_X_cl g_hand gk_X11_hit_20 (List.mem_of_getElem? (i := 115) rfl)) (by decide), by decide +kernel⟩
def yh_X11_hit_1 : YCt := (194, [.inr (.inr (0, (0, 0), (0, 0))), .inl ((-2147483648), 2147483647), .inl (1, 1)], ([], []), [], [(some (.inl ((-2147483648), 2147483647)), [])], 40)
theorem h_X11_hit_1 : y_con x_X yh_X11_hit_1 := by
  refine y_cases (N := 20) (j := 5) (k := 17) (fun s hJ => hJ.1 17 0 5 (5, 5, 0, 20) (by decide) (by decide) (by decide)) fun n hn => ?_
  rcases (show n = 0 ∨ n = 1 ∨ n = 2 ∨ n = 3 ∨ n = 4 ∨ n = 5 ∨ n = 6 ∨ n = 7 ∨ n = 8 ∨ n = 9 ∨ n = 10 ∨ n = 11 ∨ n = 12 ∨ n = 13 ∨ n = 14 ∨ n = 15 ∨ n = 16 ∨ n = 17 ∨ n = 18 ∨ n = 19 ∨ n = 20 by omega) with rfl | rfl | rfl | rfl | rfl | rfl | rfl | rfl | rfl | rfl | rfl | rfl | rfl | rfl | rfl | rfl | rfl | rfl | rfl | rfl | rfl
  · exact ⟨gk_X11_hit_21.2.2.2.1, y_con_ct (ct := gk_X11_hit_21) (g_all x_X_cl g_hand gk_X11_hit_21 (List.mem_of_getElem? (i := 117) rfl)) (by decide), by decide +kernel⟩
  · exact ⟨gk_X11_hit_22.2.2.2.1, y_con_ct (ct := gk_X11_hit_22) (g_all x_X_cl g_hand gk_X11_hit_22 (List.mem_of_getElem? (i := 0) rfl)) (by decide), by decide +kernel⟩
  · exact ⟨gk_X11_hit_23.2.2.2.1, y_con_ct (ct := gk_X11_hit_23) (g_all x_X_cl g_hand gk_X11_hit_23 (List.mem_of_getElem? (i := 1) rfl)) (by decide), by decide +kernel⟩
  · exact ⟨gk_X11_hit_24.2.2.2.1, y_con_ct (ct := gk_X11_hit_24) (g_all x_X_cl g_hand gk_X11_hit_24 (List.mem_of_getElem? (i := 2) rfl)) (by decide), by decide +kernel⟩
  · exact ⟨gk_X11_hit_25.2.2.2.1, y_con_ct (ct := gk_X11_hit_25) (g_all x_X_cl g_hand gk_X11_hit_25 (List.mem_of_getElem? (i := 3) rfl)) (by decide), by decide +kernel⟩
  · exact ⟨gk_X11_hit_26.2.2.2.1, y_con_ct (ct := gk_X11_hit_26) (g_all x_X_cl g_hand gk_X11_hit_26 (List.mem_of_getElem? (i := 4) rfl)) (by decide), by decide +kernel⟩
  · exact ⟨gk_X11_hit_27.2.2.2.1, y_con_ct (ct := gk_X11_hit_27) (g_all x_X_cl g_hand gk_X11_hit_27 (List.mem_of_getElem? (i := 5) rfl)) (by decide), by decide +kernel⟩
  · exact ⟨gk_X11_hit_28.2.2.2.1, y_con_ct (ct := gk_X11_hit_28) (g_all x_X_cl g_hand gk_X11_hit_28 (List.mem_of_getElem? (i := 6) rfl)) (by decide), by decide +kernel⟩
  · exact ⟨gk_X11_hit_29.2.2.2.1, y_con_ct (ct := gk_X11_hit_29) (g_all x_X_cl g_hand gk_X11_hit_29 (List.mem_of_getElem? (i := 7) rfl)) (by decide), by decide +kernel⟩
  · exact ⟨gk_X11_hit_30.2.2.2.1, y_con_ct (ct := gk_X11_hit_30) (g_all x_X_cl g_hand gk_X11_hit_30 (List.mem_of_getElem? (i := 8) rfl)) (by decide), by decide +kernel⟩
  · exact ⟨gk_X11_hit_31.2.2.2.1, y_con_ct (ct := gk_X11_hit_31) (g_all x_X_cl g_hand gk_X11_hit_31 (List.mem_of_getElem? (i := 9) rfl)) (by decide), by decide +kernel⟩
  · exact ⟨gk_X11_hit_32.2.2.2.1, y_con_ct (ct := gk_X11_hit_32) (g_all x_X_cl g_hand gk_X11_hit_32 (List.mem_of_getElem? (i := 10) rfl)) (by decide), by decide +kernel⟩
  · exact ⟨gk_X11_hit_33.2.2.2.1, y_con_ct (ct := gk_X11_hit_33) (g_all x_X_cl g_hand gk_X11_hit_33 (List.mem_of_getElem? (i := 11) rfl)) (by decide), by decide +kernel⟩
  · exact ⟨gk_X11_hit_34.2.2.2.1, y_con_ct (ct := gk_X11_hit_34) (g_all x_X_cl g_hand gk_X11_hit_34 (List.mem_of_getElem? (i := 12) rfl)) (by decide), by decide +kernel⟩
  · exact ⟨gk_X11_hit_35.2.2.2.1, y_con_ct (ct := gk_X11_hit_35) (g_all x_X_cl g_hand gk_X11_hit_35 (List.mem_of_getElem? (i := 13) rfl)) (by decide), by decide +kernel⟩
  · exact ⟨gk_X11_hit_36.2.2.2.1, y_con_ct (ct := gk_X11_hit_36) (g_all x_X_cl g_hand gk_X11_hit_36 (List.mem_of_getElem? (i := 14) rfl)) (by decide), by decide +kernel⟩
  · exact ⟨gk_X11_hit_37.2.2.2.1, y_con_ct (ct := gk_X11_hit_37) (g_all x_X_cl g_hand gk_X11_hit_37 (List.mem_of_getElem? (i := 15) rfl)) (by decide), by decide +kernel⟩
  · exact ⟨gk_X11_hit_38.2.2.2.1, y_con_ct (ct := gk_X11_hit_38) (g_all x_X_cl g_hand gk_X11_hit_38 (List.mem_of_getElem? (i := 16) rfl)) (by decide), by decide +kernel⟩
  · exact ⟨gk_X11_hit_39.2.2.2.1, y_con_ct (ct := gk_X11_hit_39) (g_all x_X_cl g_hand gk_X11_hit_39 (List.mem_of_getElem? (i := 17) rfl)) (by decide), by decide +kernel⟩
  · exact ⟨gk_X11_hit_40.2.2.2.1, y_con_ct (ct := gk_X11_hit_40) (g_all x_X_cl g_hand gk_X11_hit_40 (List.mem_of_getElem? (i := 18) rfl)) (by decide), by decide +kernel⟩
  · exact ⟨gk_X11_hit_41.2.2.2.1, y_con_ct (ct := gk_X11_hit_41) (g_all x_X_cl g_hand gk_X11_hit_41 (List.mem_of_getElem? (i := 19) rfl)) (by decide), by decide +kernel⟩
def yh_X11_hit_2 : YCt := (194, [.inr (.inr (0, (0, 0), (0, 0))), .inl ((-2147483648), 2147483647), .inl (2, 2)], ([], []), [], [(some (.inl ((-2147483648), 2147483647)), [])], 40)
theorem h_X11_hit_2 : y_con x_X yh_X11_hit_2 := by
  refine y_cases (N := 20) (j := 5) (k := 17) (fun s hJ => hJ.1 17 0 5 (5, 5, 0, 20) (by decide) (by decide) (by decide)) fun n hn => ?_
  rcases (show n = 0 ∨ n = 1 ∨ n = 2 ∨ n = 3 ∨ n = 4 ∨ n = 5 ∨ n = 6 ∨ n = 7 ∨ n = 8 ∨ n = 9 ∨ n = 10 ∨ n = 11 ∨ n = 12 ∨ n = 13 ∨ n = 14 ∨ n = 15 ∨ n = 16 ∨ n = 17 ∨ n = 18 ∨ n = 19 ∨ n = 20 by omega) with rfl | rfl | rfl | rfl | rfl | rfl | rfl | rfl | rfl | rfl | rfl | rfl | rfl | rfl | rfl | rfl | rfl | rfl | rfl | rfl | rfl
  · exact ⟨gk_X11_hit_42.2.2.2.1, y_con_ct (ct := gk_X11_hit_42) (g_all x_X_cl g_hand gk_X11_hit_42 (List.mem_of_getElem? (i := 139) rfl)) (by decide), by decide +kernel⟩
  · exact ⟨gk_X11_hit_43.2.2.2.1, y_con_ct (ct := gk_X11_hit_43) (g_all x_X_cl g_hand gk_X11_hit_43 (List.mem_of_getElem? (i := 141) rfl)) (by decide), by decide +kernel⟩
  · exact ⟨gk_X11_hit_44.2.2.2.1, y_con_ct (ct := gk_X11_hit_44) (g_all x_X_cl g_hand gk_X11_hit_44 (List.mem_of_getElem? (i := 20) rfl)) (by decide), by decide +kernel⟩
  · exact ⟨gk_X11_hit_45.2.2.2.1, y_con_ct (ct := gk_X11_hit_45) (g_all x_X_cl g_hand gk_X11_hit_45 (List.mem_of_getElem? (i := 21) rfl)) (by decide), by decide +kernel⟩
  · exact ⟨gk_X11_hit_46.2.2.2.1, y_con_ct (ct := gk_X11_hit_46) (g_all x_X_cl g_hand gk_X11_hit_46 (List.mem_of_getElem? (i := 22) rfl)) (by decide), by decide +kernel⟩
  · exact ⟨gk_X11_hit_47.2.2.2.1, y_con_ct (ct := gk_X11_hit_47) (g_all x_X_cl g_hand gk_X11_hit_47 (List.mem_of_getElem? (i := 23) rfl)) (by decide), by decide +kernel⟩
  · exact ⟨gk_X11_hit_48.2.2.2.1, y_con_ct (ct := gk_X11_hit_48) (g_all x_X_cl g_hand gk_X11_hit_48 (List.mem_of_getElem? (i := 24) rfl)) (by decide), by decide +kernel⟩
  · exact ⟨gk_X11_hit_49.2.2.2.1, y_con_ct (ct := gk_X11_hit_49) (g_all x_X_cl g_hand gk_X11_hit_49 (List.mem_of_getElem? (i := 25) rfl)) (by decide), by decide +kernel⟩
  · exact ⟨gk_X11_hit_50.2.2.2.1, y_con_ct (ct := gk_X11_hit_50) (g_all x_X_cl g_hand gk_X11_hit_50 (List.mem_of_getElem? (i := 26) rfl)) (by decide), by decide +kernel⟩
  · exact ⟨gk_X11_hit_51.2.2.2.1, y_con_ct (ct := gk_X11_hit_51) (g_all x_X_cl g_hand gk_X11_hit_51 (List.mem_of_getElem? (i := 27) rfl)) (by decide), by decide +kernel⟩
  · exact ⟨gk_X11_hit_52.2.2.2.1, y_con_ct (ct := gk_X11_hit_52) (g_all x_X_cl g_hand gk_X11_hit_52 (List.mem_of_getElem? (i := 28) rfl)) (by decide), by decide +kernel⟩
  · exact ⟨gk_X11_hit_53.2.2.2.1, y_con_ct (ct := gk_X11_hit_53) (g_all x_X_cl g_hand gk_X11_hit_53 (List.mem_of_getElem? (i := 29) rfl)) (by decide), by decide +kernel⟩
  · exact ⟨gk_X11_hit_54.2.2.2.1, y_con_ct (ct := gk_X11_hit_54) (g_all x_X_cl g_hand gk_X11_hit_54 (List.mem_of_getElem? (i := 30) rfl)) (by decide), by decide +kernel⟩
  · exact ⟨gk_X11_hit_55.2.2.2.1, y_con_ct (ct := gk_X11_hit_55) (g_all x_X_cl g_hand gk_X11_hit_55 (List.mem_of_getElem? (i := 31) rfl)) (by decide), by decide +kernel⟩
  · exact ⟨gk_X11_hit_56.2.2.2.1, y_con_ct (ct := gk_X11_hit_56) (g_all x_X_cl g_hand gk_X11_hit_56 (List.mem_of_getElem? (i := 32) rfl)) (by decide), by decide +kernel⟩
  · exact ⟨gk_X11_hit_57.2.2.2.1, y_con_ct (ct := gk_X11_hit_57) (g_all x_X_cl g_hand gk_X11_hit_57 (List.mem_of_getElem? (i := 33) rfl)) (by decide), by decide +kernel⟩
  · exact ⟨gk_X11_hit_58.2.2.2.1, y_con_ct (ct := gk_X11_hit_58) (g_all x_X_cl g_hand gk_X11_hit_58 (List.mem_of_getElem? (i := 34) rfl)) (by decide), by decide +kernel⟩
  · exact ⟨gk_X11_hit_59.2.2.2.1, y_con_ct (ct := gk_X11_hit_59) (g_all x_X_cl g_hand gk_X11_hit_59 (List.mem_of_getElem? (i := 35) rfl)) (by decide), by decide +kernel⟩
  · exact ⟨gk_X11_hit_60.2.2.2.1, y_con_ct (ct := gk_X11_hit_60) (g_all x_X_cl g_hand gk_X11_hit_60 (List.mem_of_getElem? (i := 36) rfl)) (by decide), by decide +kernel⟩
  · exact ⟨gk_X11_hit_61.2.2.2.1, y_con_ct (ct := gk_X11_hit_61) (g_all x_X_cl g_hand gk_X11_hit_61 (List.mem_of_getElem? (i := 37) rfl)) (by decide), by decide +kernel⟩
  · exact ⟨gk_X11_hit_62.2.2.2.1, y_con_ct (ct := gk_X11_hit_62) (g_all x_X_cl g_hand gk_X11_hit_62 (List.mem_of_getElem? (i := 38) rfl)) (by decide), by decide +kernel⟩
def yh_X11_hit_3 : YCt := (194, [.inr (.inr (0, (0, 0), (0, 0))), .inl ((-2147483648), 2147483647), .inl (3, 3)], ([], []), [], [(some (.inl ((-2147483648), 2147483647)), [])], 40)
theorem h_X11_hit_3 : y_con x_X yh_X11_hit_3 := by
  refine y_cases (N := 20) (j := 5) (k := 17) (fun s hJ => hJ.1 17 0 5 (5, 5, 0, 20) (by decide) (by decide) (by decide)) fun n hn => ?_
  rcases (show n = 0 ∨ n = 1 ∨ n = 2 ∨ n = 3 ∨ n = 4 ∨ n = 5 ∨ n = 6 ∨ n = 7 ∨ n = 8 ∨ n = 9 ∨ n = 10 ∨ n = 11 ∨ n = 12 ∨ n = 13 ∨ n = 14 ∨ n = 15 ∨ n = 16 ∨ n = 17 ∨ n = 18 ∨ n = 19 ∨ n = 20 by omega) with rfl | rfl | rfl | rfl | rfl | rfl | rfl | rfl | rfl | rfl | rfl | rfl | rfl | rfl | rfl | rfl | rfl | rfl | rfl | rfl | rfl
  · exact ⟨gk_X11_hit_63.2.2.2.1, y_con_ct (ct := gk_X11_hit_63) (g_all x_X_cl g_hand gk_X11_hit_63 (List.mem_of_getElem? (i := 162) rfl)) (by decide), by decide +kernel⟩
  · exact ⟨gk_X11_hit_64.2.2.2.1, y_con_ct (ct := gk_X11_hit_64) (g_all x_X_cl g_hand gk_X11_hit_64 (List.mem_of_getElem? (i := 164) rfl)) (by decide), by decide +kernel⟩
  · exact ⟨gk_X11_hit_65.2.2.2.1, y_con_ct (ct := gk_X11_hit_65) (g_all x_X_cl g_hand gk_X11_hit_65 (List.mem_of_getElem? (i := 166) rfl)) (by decide), by decide +kernel⟩
  · exact ⟨gk_X11_hit_66.2.2.2.1, y_con_ct (ct := gk_X11_hit_66) (g_all x_X_cl g_hand gk_X11_hit_66 (List.mem_of_getElem? (i := 39) rfl)) (by decide), by decide +kernel⟩
  · exact ⟨gk_X11_hit_67.2.2.2.1, y_con_ct (ct := gk_X11_hit_67) (g_all x_X_cl g_hand gk_X11_hit_67 (List.mem_of_getElem? (i := 40) rfl)) (by decide), by decide +kernel⟩
  · exact ⟨gk_X11_hit_68.2.2.2.1, y_con_ct (ct := gk_X11_hit_68) (g_all x_X_cl g_hand gk_X11_hit_68 (List.mem_of_getElem? (i := 41) rfl)) (by decide), by decide +kernel⟩
  · exact ⟨gk_X11_hit_69.2.2.2.1, y_con_ct (ct := gk_X11_hit_69) (g_all x_X_cl g_hand gk_X11_hit_69 (List.mem_of_getElem? (i := 42) rfl)) (by decide), by decide +kernel⟩
  · exact ⟨gk_X11_hit_70.2.2.2.1, y_con_ct (ct := gk_X11_hit_70) (g_all x_X_cl g_hand gk_X11_hit_70 (List.mem_of_getElem? (i := 43) rfl)) (by decide), by decide +kernel⟩
  · exact ⟨gk_X11_hit_71.2.2.2.1, y_con_ct (ct := gk_X11_hit_71) (g_all x_X_cl g_hand gk_X11_hit_71 (List.mem_of_getElem? (i := 44) rfl)) (by decide), by decide +kernel⟩
  · exact ⟨gk_X11_hit_72.2.2.2.1, y_con_ct (ct := gk_X11_hit_72) (g_all x_X_cl g_hand gk_X11_hit_72 (List.mem_of_getElem? (i := 45) rfl)) (by decide), by decide +kernel⟩
  · exact ⟨gk_X11_hit_73.2.2.2.1, y_con_ct (ct := gk_X11_hit_73) (g_all x_X_cl g_hand gk_X11_hit_73 (List.mem_of_getElem? (i := 46) rfl)) (by decide), by decide +kernel⟩
  · exact ⟨gk_X11_hit_74.2.2.2.1, y_con_ct (ct := gk_X11_hit_74) (g_all x_X_cl g_hand gk_X11_hit_74 (List.mem_of_getElem? (i := 47) rfl)) (by decide), by decide +kernel⟩
  · exact ⟨gk_X11_hit_75.2.2.2.1, y_con_ct (ct := gk_X11_hit_75) (g_all x_X_cl g_hand gk_X11_hit_75 (List.mem_of_getElem? (i := 48) rfl)) (by decide), by decide +kernel⟩
  · exact ⟨gk_X11_hit_76.2.2.2.1, y_con_ct (ct := gk_X11_hit_76) (g_all x_X_cl g_hand gk_X11_hit_76 (List.mem_of_getElem? (i := 49) rfl)) (by decide), by decide +kernel⟩
  · exact ⟨gk_X11_hit_77.2.2.2.1, y_con_ct (ct := gk_X11_hit_77) (g_all x_X_cl g_hand gk_X11_hit_77 (List.mem_of_getElem? (i := 50) rfl)) (by decide), by decide +kernel⟩
  · exact ⟨gk_X11_hit_78.2.2.2.1, y_con_ct (ct := gk_X11_hit_78) (g_all x_X_cl g_hand gk_X11_hit_78 (List.mem_of_getElem? (i := 51) rfl)) (by decide), by decide +kernel⟩
  · exact ⟨gk_X11_hit_79.2.2.2.1, y_con_ct (ct := gk_X11_hit_79) (g_all x_X_cl g_hand gk_X11_hit_79 (List.mem_of_getElem? (i := 52) rfl)) (by decide), by decide +kernel⟩
  · exact ⟨gk_X11_hit_80.2.2.2.1, y_con_ct (ct := gk_X11_hit_80) (g_all x_X_cl g_hand gk_X11_hit_80 (List.mem_of_getElem? (i := 53) rfl)) (by decide), by decide +kernel⟩
  · exact ⟨gk_X11_hit_81.2.2.2.1, y_con_ct (ct := gk_X11_hit_81) (g_all x_X_cl g_hand gk_X11_hit_81 (List.mem_of_getElem? (i := 54) rfl)) (by decide), by decide +kernel⟩
  · exact ⟨gk_X11_hit_82.2.2.2.1, y_con_ct (ct := gk_X11_hit_82) (g_all x_X_cl g_hand gk_X11_hit_82 (List.mem_of_getElem? (i := 55) rfl)) (by decide), by decide +kernel⟩
  · exact ⟨gk_X11_hit_83.2.2.2.1, y_con_ct (ct := gk_X11_hit_83) (g_all x_X_cl g_hand gk_X11_hit_83 (List.mem_of_getElem? (i := 56) rfl)) (by decide), by decide +kernel⟩
def yh_X11_hit_4 : YCt := (194, [.inr (.inr (0, (0, 0), (0, 0))), .inl ((-2147483648), 2147483647), .inl (4, 4)], ([], []), [], [(some (.inl ((-2147483648), 2147483647)), [])], 40)
theorem h_X11_hit_4 : y_con x_X yh_X11_hit_4 := by
  refine y_cases (N := 20) (j := 5) (k := 17) (fun s hJ => hJ.1 17 0 5 (5, 5, 0, 20) (by decide) (by decide) (by decide)) fun n hn => ?_
  rcases (show n = 0 ∨ n = 1 ∨ n = 2 ∨ n = 3 ∨ n = 4 ∨ n = 5 ∨ n = 6 ∨ n = 7 ∨ n = 8 ∨ n = 9 ∨ n = 10 ∨ n = 11 ∨ n = 12 ∨ n = 13 ∨ n = 14 ∨ n = 15 ∨ n = 16 ∨ n = 17 ∨ n = 18 ∨ n = 19 ∨ n = 20 by omega) with rfl | rfl | rfl | rfl | rfl | rfl | rfl | rfl | rfl | rfl | rfl | rfl | rfl | rfl | rfl | rfl | rfl | rfl | rfl | rfl | rfl
  · exact ⟨gk_X11_hit_84.2.2.2.1, y_con_ct (ct := gk_X11_hit_84) (g_all x_X_cl g_hand gk_X11_hit_84 (List.mem_of_getElem? (i := 186) rfl)) (by decide), by decide +kernel⟩
  · exact ⟨gk_X11_hit_85.2.2.2.1, y_con_ct (ct := gk_X11_hit_85) (g_all x_X_cl g_hand gk_X11_hit_85 (List.mem_of_getElem? (i := 188) rfl)) (by decide), by decide +kernel⟩
  · exact ⟨gk_X11_hit_86.2.2.2.1, y_con_ct (ct := gk_X11_hit_86) (g_all x_X_cl g_hand gk_X11_hit_86 (List.mem_of_getElem? (i := 190) rfl)) (by decide), by decide +kernel⟩
  · exact ⟨gk_X11_hit_87.2.2.2.1, y_con_ct (ct := gk_X11_hit_87) (g_all x_X_cl g_hand gk_X11_hit_87 (List.mem_of_getElem? (i := 192) rfl)) (by decide), by decide +kernel⟩
  · exact ⟨gk_X11_hit_88.2.2.2.1, y_con_ct (ct := gk_X11_hit_88) (g_all x_X_cl g_hand gk_X11_hit_88 (List.mem_of_getElem? (i := 57) rfl)) (by decide), by decide +kernel⟩
  · exact ⟨gk_X11_hit_89.2.2.2.1, y_con_ct (ct := gk_X11_hit_89) (g_all x_X_cl g_hand gk_X11_hit_89 (List.mem_of_getElem? (i := 58) rfl)) (by decide), by decide +kernel⟩
  · exact ⟨gk_X11_hit_90.2.2.2.1, y_con_ct (ct := gk_X11_hit_90) (g_all x_X_cl g_hand gk_X11_hit_90 (List.mem_of_getElem? (i := 59) rfl)) (by decide), by decide +kernel⟩
  · exact ⟨gk_X11_hit_91.2.2.2.1, y_con_ct (ct := gk_X11_hit_91) (g_all x_X_cl g_hand gk_X11_hit_91 (List.mem_of_getElem? (i := 60) rfl)) (by decide), by decide +kernel⟩
  · exact ⟨gk_X11_hit_92.2.2.2.1, y_con_ct (ct := gk_X11_hit_92) (g_all x_X_cl g_hand gk_X11_hit_92 (List.mem_of_getElem? (i := 61) rfl)) (by decide), by decide +kernel⟩
  · exact ⟨gk_X11_hit_93.2.2.2.1, y_con_ct (ct := gk_X11_hit_93) (g_all x_X_cl g_hand gk_X11_hit_93 (List.mem_of_getElem? (i := 62) rfl)) (by decide), by decide +kernel⟩
  · exact ⟨gk_X11_hit_94.2.2.2.1, y_con_ct (ct := gk_X11_hit_94) (g_all x_X_cl g_hand gk_X11_hit_94 (List.mem_of_getElem? (i := 63) rfl)) (by decide), by decide +kernel⟩
  · exact ⟨gk_X11_hit_95.2.2.2.1, y_con_ct (ct := gk_X11_hit_95) (g_all x_X_cl g_hand gk_X11_hit_95 (List.mem_of_getElem? (i := 64) rfl)) (by decide), by decide +kernel⟩
  · exact ⟨gk_X11_hit_96.2.2.2.1, y_con_ct (ct := gk_X11_hit_96) (g_all x_X_cl g_hand gk_X11_hit_96 (List.mem_of_getElem? (i := 65) rfl)) (by decide), by decide +kernel⟩
  · exact ⟨gk_X11_hit_97.2.2.2.1, y_con_ct (ct := gk_X11_hit_97) (g_all x_X_cl g_hand gk_X11_hit_97 (List.mem_of_getElem? (i := 66) rfl)) (by decide), by decide +kernel⟩
  · exact ⟨gk_X11_hit_98.2.2.2.1, y_con_ct (ct := gk_X11_hit_98) (g_all x_X_cl g_hand gk_X11_hit_98 (List.mem_of_getElem? (i := 67) rfl)) (by decide), by decide +kernel⟩
  · exact ⟨gk_X11_hit_99.2.2.2.1, y_con_ct (ct := gk_X11_hit_99) (g_all x_X_cl g_hand gk_X11_hit_99 (List.mem_of_getElem? (i := 68) rfl)) (by decide), by decide +kernel⟩
  · exact ⟨gk_X11_hit_100.2.2.2.1, y_con_ct (ct := gk_X11_hit_100) (g_all x_X_cl g_hand gk_X11_hit_100 (List.mem_of_getElem? (i := 69) rfl)) (by decide), by decide +kernel⟩
  · exact ⟨gk_X11_hit_101.2.2.2.1, y_con_ct (ct := gk_X11_hit_101) (g_all x_X_cl g_hand gk_X11_hit_101 (List.mem_of_getElem? (i := 70) rfl)) (by decide), by decide +kernel⟩
  · exact ⟨gk_X11_hit_102.2.2.2.1, y_con_ct (ct := gk_X11_hit_102) (g_all x_X_cl g_hand gk_X11_hit_102 (List.mem_of_getElem? (i := 71) rfl)) (by decide), by decide +kernel⟩
  · exact ⟨gk_X11_hit_103.2.2.2.1, y_con_ct (ct := gk_X11_hit_103) (g_all x_X_cl g_hand gk_X11_hit_103 (List.mem_of_getElem? (i := 72) rfl)) (by decide), by decide +kernel⟩
  · exact ⟨gk_X11_hit_104.2.2.2.1, y_con_ct (ct := gk_X11_hit_104) (g_all x_X_cl g_hand gk_X11_hit_104 (List.mem_of_getElem? (i := 73) rfl)) (by decide), by decide +kernel⟩
def yh_X11_hit_5 : YCt := (194, [.inr (.inr (0, (0, 0), (0, 0))), .inl ((-2147483648), 2147483647), .inl (5, 2147483647)], ([], []), [], [(some (.inl ((-2147483648), 2147483647)), [])], 40)
theorem h_X11_hit_5 : y_con x_X yh_X11_hit_5 := by
  refine y_cases (N := 20) (j := 5) (k := 17) (fun s hJ => hJ.1 17 0 5 (5, 5, 0, 20) (by decide) (by decide) (by decide)) fun n hn => ?_
  rcases (show n = 0 ∨ n = 1 ∨ n = 2 ∨ n = 3 ∨ n = 4 ∨ n = 5 ∨ n = 6 ∨ n = 7 ∨ n = 8 ∨ n = 9 ∨ n = 10 ∨ n = 11 ∨ n = 12 ∨ n = 13 ∨ n = 14 ∨ n = 15 ∨ n = 16 ∨ n = 17 ∨ n = 18 ∨ n = 19 ∨ n = 20 by omega) with rfl | rfl | rfl | rfl | rfl | rfl | rfl | rfl | rfl | rfl | rfl | rfl | rfl | rfl | rfl | rfl | rfl | rfl | rfl | rfl | rfl
  · exact ⟨gk_X11_hit_105.2.2.2.1, y_con_ct (ct := gk_X11_hit_105) (g_all x_X_cl g_hand gk_X11_hit_105 (List.mem_of_getElem? (i := 211) rfl)) (by decide), by decide +kernel⟩
  · exact ⟨gk_X11_hit_106.2.2.2.1, y_con_ct (ct := gk_X11_hit_106) (g_all x_X_cl g_hand gk_X11_hit_106 (List.mem_of_getElem? (i := 213) rfl)) (by decide), by decide +kernel⟩
  · exact ⟨gk_X11_hit_107.2.2.2.1, y_con_ct (ct := gk_X11_hit_107) (g_all x_X_cl g_hand gk_X11_hit_107 (List.mem_of_getElem? (i := 215) rfl)) (by decide), by decide +kernel⟩
  · exact ⟨gk_X11_hit_108.2.2.2.1, y_con_ct (ct := gk_X11_hit_108) (g_all x_X_cl g_hand gk_X11_hit_108 (List.mem_of_getElem? (i := 217) rfl)) (by decide), by decide +kernel⟩
  · exact ⟨gk_X11_hit_109.2.2.2.1, y_con_ct (ct := gk_X11_hit_109) (g_all x_X_cl g_hand gk_X11_hit_109 (List.mem_of_getElem? (i := 219) rfl)) (by decide), by decide +kernel⟩
  · exact ⟨gk_X11_hit_110.2.2.2.1, y_con_ct (ct := gk_X11_hit_110) (g_all x_X_cl g_hand gk_X11_hit_110 (List.mem_of_getElem? (i := 221) rfl)) (by decide), by decide +kernel⟩
  · exact ⟨gk_X11_hit_111.2.2.2.1, y_con_ct (ct := gk_X11_hit_111) (g_all x_X_cl g_hand gk_X11_hit_111 (List.mem_of_getElem? (i := 223) rfl)) (by decide), by decide +kernel⟩
  · exact ⟨gk_X11_hit_112.2.2.2.1, y_con_ct (ct := gk_X11_hit_112) (g_all x_X_cl g_hand gk_X11_hit_112 (List.mem_of_getElem? (i := 225) rfl)) (by decide), by decide +kernel⟩
  · exact ⟨gk_X11_hit_113.2.2.2.1, y_con_ct (ct := gk_X11_hit_113) (g_all x_X_cl g_hand gk_X11_hit_113 (List.mem_of_getElem? (i := 227) rfl)) (by decide), by decide +kernel⟩
  · exact ⟨gk_X11_hit_114.2.2.2.1, y_con_ct (ct := gk_X11_hit_114) (g_all x_X_cl g_hand gk_X11_hit_114 (List.mem_of_getElem? (i := 229) rfl)) (by decide), by decide +kernel⟩
  · exact ⟨gk_X11_hit_115.2.2.2.1, y_con_ct (ct := gk_X11_hit_115) (g_all x_X_cl g_hand gk_X11_hit_115 (List.mem_of_getElem? (i := 231) rfl)) (by decide), by decide +kernel⟩
  · exact ⟨gk_X11_hit_116.2.2.2.1, y_con_ct (ct := gk_X11_hit_116) (g_all x_X_cl g_hand gk_X11_hit_116 (List.mem_of_getElem? (i := 233) rfl)) (by decide), by decide +kernel⟩
  · exact ⟨gk_X11_hit_117.2.2.2.1, y_con_ct (ct := gk_X11_hit_117) (g_all x_X_cl g_hand gk_X11_hit_117 (List.mem_of_getElem? (i := 235) rfl)) (by decide), by decide +kernel⟩
  · exact ⟨gk_X11_hit_118.2.2.2.1, y_con_ct (ct := gk_X11_hit_118) (g_all x_X_cl g_hand gk_X11_hit_118 (List.mem_of_getElem? (i := 237) rfl)) (by decide), by decide +kernel⟩
  · exact ⟨gk_X11_hit_119.2.2.2.1, y_con_ct (ct := gk_X11_hit_119) (g_all x_X_cl g_hand gk_X11_hit_119 (List.mem_of_getElem? (i := 239) rfl)) (by decide), by decide +kernel⟩
  · exact ⟨gk_X11_hit_120.2.2.2.1, y_con_ct (ct := gk_X11_hit_120) (g_all x_X_cl g_hand gk_X11_hit_120 (List.mem_of_getElem? (i := 241) rfl)) (by decide), by decide +kernel⟩
  · exact ⟨gk_X11_hit_121.2.2.2.1, y_con_ct (ct := gk_X11_hit_121) (g_all x_X_cl g_hand gk_X11_hit_121 (List.mem_of_getElem? (i := 243) rfl)) (by decide), by decide +kernel⟩
  · exact ⟨gk_X11_hit_122.2.2.2.1, y_con_ct (ct := gk_X11_hit_122) (g_all x_X_cl g_hand gk_X11_hit_122 (List.mem_of_getElem? (i := 245) rfl)) (by decide), by decide +kernel⟩
  · exact ⟨gk_X11_hit_123.2.2.2.1, y_con_ct (ct := gk_X11_hit_123) (g_all x_X_cl g_hand gk_X11_hit_123 (List.mem_of_getElem? (i := 247) rfl)) (by decide), by decide +kernel⟩
  · exact ⟨gk_X11_hit_124.2.2.2.1, y_con_ct (ct := gk_X11_hit_124) (g_all x_X_cl g_hand gk_X11_hit_124 (List.mem_of_getElem? (i := 249) rfl)) (by decide), by decide +kernel⟩
  · exact ⟨gk_X11_hit_125.2.2.2.1, y_con_ct (ct := gk_X11_hit_125) (g_all x_X_cl g_hand gk_X11_hit_125 (List.mem_of_getElem? (i := 251) rfl)) (by decide), by decide +kernel⟩
