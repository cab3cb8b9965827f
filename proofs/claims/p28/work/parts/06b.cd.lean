/-! the code words -/
theorem qa_in1 {w : Cond} (h9 : w ∈ tables_1_1) : w ∈ lw_tbl := List.mem_append_right _ (List.mem_append_left _ (h9))
theorem qa_in2 {w : Cond} (h9 : w ∈ tables_1_2) : w ∈ lw_tbl := List.mem_append_right _ (List.mem_append_right _ (List.mem_append_left _ (h9)))
theorem qa_in3 {w : Cond} (h9 : w ∈ tables_1_3) : w ∈ lw_tbl := List.mem_append_right _ (List.mem_append_right _ (List.mem_append_right _ (List.mem_append_left _ (h9))))
theorem qa_in4 {w : Cond} (h9 : w ∈ tables_1_4) : w ∈ lw_tbl := List.mem_append_right _ (List.mem_append_right _ (List.mem_append_right _ (List.mem_append_right _ (List.mem_append_left _ (h9)))))
theorem qa_in5 {w : Cond} (h9 : w ∈ tables_1_5) : w ∈ lw_tbl := List.mem_append_right _ (List.mem_append_right _ (List.mem_append_right _ (List.mem_append_right _ (List.mem_append_right _ (List.mem_append_left _ (h9))))))
theorem qa_in6 {w : Cond} (h9 : w ∈ tables_1_6) : w ∈ lw_tbl := List.mem_append_right _ (List.mem_append_right _ (List.mem_append_right _ (List.mem_append_right _ (List.mem_append_right _ (List.mem_append_right _ (List.mem_append_left _ (h9)))))))
theorem qa_in7 {w : Cond} (h9 : w ∈ tables_1_7) : w ∈ lw_tbl := List.mem_append_right _ (List.mem_append_right _ (List.mem_append_right _ (List.mem_append_right _ (List.mem_append_right _ (List.mem_append_right _ (List.mem_append_right _ (List.mem_append_left _ (h9))))))))
theorem qa_in8 {w : Cond} (h9 : w ∈ tables_1_8) : w ∈ lw_tbl := List.mem_append_right _ (List.mem_append_right _ (List.mem_append_right _ (List.mem_append_right _ (List.mem_append_right _ (List.mem_append_right _ (List.mem_append_right _ (List.mem_append_right _ (List.mem_append_left _ (h9)))))))))
theorem qa_in9 {w : Cond} (h9 : w ∈ tables_1_9) : w ∈ lw_tbl := List.mem_append_right _ (List.mem_append_right _ (List.mem_append_right _ (List.mem_append_right _ (List.mem_append_right _ (List.mem_append_right _ (List.mem_append_right _ (List.mem_append_right _ (List.mem_append_right _ (h9)))))))))
set_option maxRecDepth 20000 in
theorem qa_cd0 : Cond.code (qa_y 0) (qa_code 0) (qa_mL 0) (qa_ret 0) ∈ lw_tbl := qa_in1 (List.mem_of_getElem? (i := 76) rfl)
set_option maxRecDepth 20000 in
theorem qa_cd1 : Cond.code (qa_y 1) (qa_code 1) (qa_mL 1) (qa_ret 1) ∈ lw_tbl := qa_in3 (List.mem_of_getElem? (i := 204) rfl)
set_option maxRecDepth 20000 in
theorem qa_cd2 : Cond.code (qa_y 2) (qa_code 2) (qa_mL 2) (qa_ret 2) ∈ lw_tbl := qa_in3 (List.mem_of_getElem? (i := 213) rfl)
set_option maxRecDepth 20000 in
theorem qa_cd3 : Cond.code (qa_y 3) (qa_code 3) (qa_mL 3) (qa_ret 3) ∈ lw_tbl := qa_in2 (List.mem_of_getElem? (i := 170) rfl)
set_option maxRecDepth 20000 in
theorem qa_cd4 : Cond.code (qa_y 4) (qa_code 4) (qa_mL 4) (qa_ret 4) ∈ lw_tbl := qa_in2 (List.mem_of_getElem? (i := 173) rfl)
set_option maxRecDepth 20000 in
theorem qa_cd5 : Cond.code (qa_y 5) (qa_code 5) (qa_mL 5) (qa_ret 5) ∈ lw_tbl := qa_in3 (List.mem_of_getElem? (i := 33) rfl)
set_option maxRecDepth 20000 in
theorem qa_cd6 : Cond.code (qa_y 6) (qa_code 6) (qa_mL 6) (qa_ret 6) ∈ lw_tbl := qa_in3 (List.mem_of_getElem? (i := 38) rfl)
set_option maxRecDepth 20000 in
theorem qa_cd7 : Cond.code (qa_y 7) (qa_code 7) (qa_mL 7) (qa_ret 7) ∈ lw_tbl := qa_in1 (List.mem_of_getElem? (i := 142) rfl)
set_option maxRecDepth 20000 in
theorem qa_cd8 : Cond.code (qa_y 8) (qa_code 8) (qa_mL 8) (qa_ret 8) ∈ lw_tbl := qa_in3 (List.mem_of_getElem? (i := 168) rfl)
set_option maxRecDepth 20000 in
theorem qa_cd9 : Cond.code (qa_y 9) (qa_code 9) (qa_mL 9) (qa_ret 9) ∈ lw_tbl := qa_in3 (List.mem_of_getElem? (i := 172) rfl)
set_option maxRecDepth 20000 in
theorem qa_cd10 : Cond.code (qa_y 10) (qa_code 10) (qa_mL 10) (qa_ret 10) ∈ lw_tbl := qa_in4 (List.mem_of_getElem? (i := 61) rfl)
set_option maxRecDepth 20000 in
theorem qa_cd11 : Cond.code (qa_y 11) (qa_code 11) (qa_mL 11) (qa_ret 11) ∈ lw_tbl := qa_in4 (List.mem_of_getElem? (i := 84) rfl)
set_option maxRecDepth 20000 in
theorem qa_cd12 : Cond.code (qa_y 12) (qa_code 12) (qa_mL 12) (qa_ret 12) ∈ lw_tbl := qa_in3 (List.mem_of_getElem? (i := 208) rfl)
set_option maxRecDepth 20000 in
theorem qa_cd13 : Cond.code (qa_y 13) (qa_code 13) (qa_mL 13) (qa_ret 13) ∈ lw_tbl := qa_in3 (List.mem_of_getElem? (i := 221) rfl)
set_option maxRecDepth 20000 in
theorem qa_cd14 : Cond.code (qa_y 14) (qa_code 14) (qa_mL 14) (qa_ret 14) ∈ lw_tbl := qa_in3 (List.mem_of_getElem? (i := 200) rfl)
set_option maxRecDepth 20000 in
theorem qa_cd15 : Cond.code (qa_y 15) (qa_code 15) (qa_mL 15) (qa_ret 15) ∈ lw_tbl := qa_in5 (List.mem_of_getElem? (i := 181) rfl)
set_option maxRecDepth 20000 in
theorem qa_cd16 : Cond.code (qa_y 16) (qa_code 16) (qa_mL 16) (qa_ret 16) ∈ lw_tbl := qa_in5 (List.mem_of_getElem? (i := 161) rfl)
set_option maxRecDepth 20000 in
theorem qa_cd17 : Cond.code (qa_y 17) (qa_code 17) (qa_mL 17) (qa_ret 17) ∈ lw_tbl := qa_in4 (List.mem_of_getElem? (i := 161) rfl)
set_option maxRecDepth 20000 in
theorem qa_cd18 : Cond.code (qa_y 18) (qa_code 18) (qa_mL 18) (qa_ret 18) ∈ lw_tbl := qa_in5 (List.mem_of_getElem? (i := 199) rfl)
set_option maxRecDepth 20000 in
theorem qa_cd19 : Cond.code (qa_y 19) (qa_code 19) (qa_mL 19) (qa_ret 19) ∈ lw_tbl := qa_in5 (List.mem_of_getElem? (i := 211) rfl)
set_option maxRecDepth 20000 in
theorem qa_cd20 : Cond.code (qa_y 20) (qa_code 20) (qa_mL 20) (qa_ret 20) ∈ lw_tbl := qa_in4 (List.mem_of_getElem? (i := 73) rfl)
set_option maxRecDepth 20000 in
theorem qa_cd21 : Cond.code (qa_y 21) (qa_code 21) (qa_mL 21) (qa_ret 21) ∈ lw_tbl := qa_in4 (List.mem_of_getElem? (i := 184) rfl)
set_option maxRecDepth 20000 in
theorem qa_cd22 : Cond.code (qa_y 22) (qa_code 22) (qa_mL 22) (qa_ret 22) ∈ lw_tbl := qa_in3 (List.mem_of_getElem? (i := 230) rfl)
set_option maxRecDepth 20000 in
theorem qa_cd23 : Cond.code (qa_y 23) (qa_code 23) (qa_mL 23) (qa_ret 23) ∈ lw_tbl := qa_in3 (List.mem_of_getElem? (i := 234) rfl)
set_option maxRecDepth 20000 in
theorem qa_cd24 : Cond.code (qa_y 24) (qa_code 24) (qa_mL 24) (qa_ret 24) ∈ lw_tbl := qa_in4 (List.mem_of_getElem? (i := 2) rfl)
set_option maxRecDepth 20000 in
theorem qa_cd25 : Cond.code (qa_y 25) (qa_code 25) (qa_mL 25) (qa_ret 25) ∈ lw_tbl := qa_in3 (List.mem_of_getElem? (i := 238) rfl)
set_option maxRecDepth 20000 in
theorem qa_cd26 : Cond.code (qa_y 26) (qa_code 26) (qa_mL 26) (qa_ret 26) ∈ lw_tbl := qa_in4 (List.mem_of_getElem? (i := 26) rfl)
set_option maxRecDepth 20000 in
theorem qa_cd27 : Cond.code (qa_y 27) (qa_code 27) (qa_mL 27) (qa_ret 27) ∈ lw_tbl := qa_in4 (List.mem_of_getElem? (i := 30) rfl)
set_option maxRecDepth 20000 in
theorem qa_cd28 : Cond.code (qa_y 28) (qa_code 28) (qa_mL 28) (qa_ret 28) ∈ lw_tbl := qa_in4 (List.mem_of_getElem? (i := 42) rfl)
set_option maxRecDepth 20000 in
theorem qa_cd29 : Cond.code (qa_y 29) (qa_code 29) (qa_mL 29) (qa_ret 29) ∈ lw_tbl := qa_in4 (List.mem_of_getElem? (i := 46) rfl)
set_option maxRecDepth 20000 in
theorem qa_cd30 : Cond.code (qa_y 30) (qa_code 30) (qa_mL 30) (qa_ret 30) ∈ lw_tbl := qa_in4 (List.mem_of_getElem? (i := 53) rfl)
set_option maxRecDepth 20000 in
theorem qa_cd31 : Cond.code (qa_y 31) (qa_code 31) (qa_mL 31) (qa_ret 31) ∈ lw_tbl := qa_in4 (List.mem_of_getElem? (i := 57) rfl)
set_option maxRecDepth 20000 in
theorem qa_cd32 : Cond.code (qa_y 32) (qa_code 32) (qa_mL 32) (qa_ret 32) ∈ lw_tbl := qa_in4 (List.mem_of_getElem? (i := 213) rfl)
set_option maxRecDepth 20000 in
theorem qa_cd33 : Cond.code (qa_y 33) (qa_code 33) (qa_mL 33) (qa_ret 33) ∈ lw_tbl := qa_in4 (List.mem_of_getElem? (i := 125) rfl)
set_option maxRecDepth 20000 in
theorem qa_cd34 : Cond.code (qa_y 34) (qa_code 34) (qa_mL 34) (qa_ret 34) ∈ lw_tbl := qa_in4 (List.mem_of_getElem? (i := 117) rfl)
set_option maxRecDepth 20000 in
theorem qa_cd35 : Cond.code (qa_y 35) (qa_code 35) (qa_mL 35) (qa_ret 35) ∈ lw_tbl := qa_in4 (List.mem_of_getElem? (i := 106) rfl)
set_option maxRecDepth 20000 in
theorem qa_cd36 : Cond.code (qa_y 36) (qa_code 36) (qa_mL 36) (qa_ret 36) ∈ lw_tbl := qa_in4 (List.mem_of_getElem? (i := 121) rfl)
set_option maxRecDepth 20000 in
theorem qa_cd37 : Cond.code (qa_y 37) (qa_code 37) (qa_mL 37) (qa_ret 37) ∈ lw_tbl := qa_in4 (List.mem_of_getElem? (i := 137) rfl)
set_option maxRecDepth 20000 in
theorem qa_cd38 : Cond.code (qa_y 38) (qa_code 38) (qa_mL 38) (qa_ret 38) ∈ lw_tbl := qa_in5 (List.mem_of_getElem? (i := 58) rfl)
set_option maxRecDepth 20000 in
theorem qa_cd39 : Cond.code (qa_y 39) (qa_code 39) (qa_mL 39) (qa_ret 39) ∈ lw_tbl := qa_in4 (List.mem_of_getElem? (i := 133) rfl)
set_option maxRecDepth 20000 in
theorem qa_cd40 : Cond.code (qa_y 40) (qa_code 40) (qa_mL 40) (qa_ret 40) ∈ lw_tbl := qa_in4 (List.mem_of_getElem? (i := 189) rfl)
set_option maxRecDepth 20000 in
theorem qa_cd41 : Cond.code (qa_y 41) (qa_code 41) (qa_mL 41) (qa_ret 41) ∈ lw_tbl := qa_in4 (List.mem_of_getElem? (i := 97) rfl)
set_option maxRecDepth 20000 in
theorem qa_cd42 : Cond.code (qa_y 42) (qa_code 42) (qa_mL 42) (qa_ret 42) ∈ lw_tbl := qa_in4 (List.mem_of_getElem? (i := 101) rfl)
set_option maxRecDepth 20000 in
theorem qa_cd43 : Cond.code (qa_y 43) (qa_code 43) (qa_mL 43) (qa_ret 43) ∈ lw_tbl := qa_in5 (List.mem_of_getElem? (i := 165) rfl)
set_option maxRecDepth 20000 in
theorem qa_cd44 : Cond.code (qa_y 44) (qa_code 44) (qa_mL 44) (qa_ret 44) ∈ lw_tbl := qa_in5 (List.mem_of_getElem? (i := 169) rfl)
set_option maxRecDepth 20000 in
theorem qa_cd45 : Cond.code (qa_y 45) (qa_code 45) (qa_mL 45) (qa_ret 45) ∈ lw_tbl := qa_in5 (List.mem_of_getElem? (i := 227) rfl)
set_option maxRecDepth 20000 in
theorem qa_cd46 : Cond.code (qa_y 46) (qa_code 46) (qa_mL 46) (qa_ret 46) ∈ lw_tbl := qa_in6 (List.mem_of_getElem? (i := 36) rfl)
set_option maxRecDepth 20000 in
theorem qa_cd47 : Cond.code (qa_y 47) (qa_code 47) (qa_mL 47) (qa_ret 47) ∈ lw_tbl := qa_in5 (List.mem_of_getElem? (i := 186) rfl)
set_option maxRecDepth 20000 in
theorem qa_cd48 : Cond.code (qa_y 48) (qa_code 48) (qa_mL 48) (qa_ret 48) ∈ lw_tbl := qa_in4 (List.mem_of_getElem? (i := 153) rfl)
set_option maxRecDepth 20000 in
theorem qa_cd49 : Cond.code (qa_y 49) (qa_code 49) (qa_mL 49) (qa_ret 49) ∈ lw_tbl := qa_in2 (List.mem_of_getElem? (i := 43) rfl)
set_option maxRecDepth 20000 in
theorem qa_cd50 : Cond.code (qa_y 50) (qa_code 50) (qa_mL 50) (qa_ret 50) ∈ lw_tbl := qa_in5 (List.mem_of_getElem? (i := 40) rfl)
set_option maxRecDepth 20000 in
theorem qa_cd51 : Cond.code (qa_y 51) (qa_code 51) (qa_mL 51) (qa_ret 51) ∈ lw_tbl := qa_in5 (List.mem_of_getElem? (i := 48) rfl)
set_option maxRecDepth 20000 in
theorem qa_cd52 : Cond.code (qa_y 52) (qa_code 52) (qa_mL 52) (qa_ret 52) ∈ lw_tbl := qa_in5 (List.mem_of_getElem? (i := 44) rfl)
set_option maxRecDepth 20000 in
theorem qa_cd53 : Cond.code (qa_y 53) (qa_code 53) (qa_mL 53) (qa_ret 53) ∈ lw_tbl := qa_in5 (List.mem_of_getElem? (i := 54) rfl)
set_option maxRecDepth 20000 in
theorem qa_cd54 : Cond.code (qa_y 54) (qa_code 54) (qa_mL 54) (qa_ret 54) ∈ lw_tbl := qa_in5 (List.mem_of_getElem? (i := 64) rfl)
set_option maxRecDepth 20000 in
theorem qa_cd55 : Cond.code (qa_y 55) (qa_code 55) (qa_mL 55) (qa_ret 55) ∈ lw_tbl := qa_in5 (List.mem_of_getElem? (i := 69) rfl)
set_option maxRecDepth 20000 in
theorem qa_cd56 : Cond.code (qa_y 56) (qa_code 56) (qa_mL 56) (qa_ret 56) ∈ lw_tbl := qa_in5 (List.mem_of_getElem? (i := 73) rfl)
set_option maxRecDepth 20000 in
theorem qa_cd57 : Cond.code (qa_y 57) (qa_code 57) (qa_mL 57) (qa_ret 57) ∈ lw_tbl := qa_in5 (List.mem_of_getElem? (i := 77) rfl)
set_option maxRecDepth 20000 in
theorem qa_cd58 : Cond.code (qa_y 58) (qa_code 58) (qa_mL 58) (qa_ret 58) ∈ lw_tbl := qa_in5 (List.mem_of_getElem? (i := 91) rfl)
set_option maxRecDepth 20000 in
theorem qa_cd59 : Cond.code (qa_y 59) (qa_code 59) (qa_mL 59) (qa_ret 59) ∈ lw_tbl := qa_in5 (List.mem_of_getElem? (i := 86) rfl)
set_option maxRecDepth 20000 in
theorem qa_cd60 : Cond.code (qa_y 60) (qa_code 60) (qa_mL 60) (qa_ret 60) ∈ lw_tbl := qa_in5 (List.mem_of_getElem? (i := 100) rfl)
set_option maxRecDepth 20000 in
theorem qa_cd61 : Cond.code (qa_y 61) (qa_code 61) (qa_mL 61) (qa_ret 61) ∈ lw_tbl := qa_in1 (List.mem_of_getElem? (i := 89) rfl)
set_option maxRecDepth 20000 in
theorem qa_cd62 : Cond.code (qa_y 62) (qa_code 62) (qa_mL 62) (qa_ret 62) ∈ lw_tbl := qa_in3 (List.mem_of_getElem? (i := 70) rfl)
set_option maxRecDepth 20000 in
theorem qa_cd63 : Cond.code (qa_y 63) (qa_code 63) (qa_mL 63) (qa_ret 63) ∈ lw_tbl := qa_in3 (List.mem_of_getElem? (i := 95) rfl)
set_option maxRecDepth 20000 in
theorem qa_cd64 : Cond.code (qa_y 64) (qa_code 64) (qa_mL 64) (qa_ret 64) ∈ lw_tbl := qa_in3 (List.mem_of_getElem? (i := 74) rfl)
set_option maxRecDepth 20000 in
theorem qa_cd65 : Cond.code (qa_y 65) (qa_code 65) (qa_mL 65) (qa_ret 65) ∈ lw_tbl := qa_in3 (List.mem_of_getElem? (i := 119) rfl)
set_option maxRecDepth 20000 in
theorem qa_cd66 : Cond.code (qa_y 66) (qa_code 66) (qa_mL 66) (qa_ret 66) ∈ lw_tbl := qa_in3 (List.mem_of_getElem? (i := 103) rfl)
set_option maxRecDepth 20000 in
theorem qa_cd67 : Cond.code (qa_y 67) (qa_code 67) (qa_mL 67) (qa_ret 67) ∈ lw_tbl := qa_in3 (List.mem_of_getElem? (i := 107) rfl)
set_option maxRecDepth 20000 in
theorem qa_cd68 : Cond.code (qa_y 68) (qa_code 68) (qa_mL 68) (qa_ret 68) ∈ lw_tbl := qa_in3 (List.mem_of_getElem? (i := 111) rfl)
set_option maxRecDepth 20000 in
theorem qa_cd69 : Cond.code (qa_y 69) (qa_code 69) (qa_mL 69) (qa_ret 69) ∈ lw_tbl := qa_in3 (List.mem_of_getElem? (i := 115) rfl)
set_option maxRecDepth 20000 in
theorem qa_cd70 : Cond.code (qa_y 70) (qa_code 70) (qa_mL 70) (qa_ret 70) ∈ lw_tbl := qa_in3 (List.mem_of_getElem? (i := 99) rfl)
set_option maxRecDepth 20000 in
theorem qa_cd71 : Cond.code (qa_y 71) (qa_code 71) (qa_mL 71) (qa_ret 71) ∈ lw_tbl := qa_in3 (List.mem_of_getElem? (i := 80) rfl)
set_option maxRecDepth 20000 in
theorem qa_cd72 : Cond.code (qa_y 72) (qa_code 72) (qa_mL 72) (qa_ret 72) ∈ lw_tbl := qa_in3 (List.mem_of_getElem? (i := 84) rfl)
set_option maxRecDepth 20000 in
theorem qa_cd73 : Cond.code (qa_y 73) (qa_code 73) (qa_mL 73) (qa_ret 73) ∈ lw_tbl := qa_in3 (List.mem_of_getElem? (i := 88) rfl)
set_option maxRecDepth 20000 in
theorem qa_cd74 : Cond.code (qa_y 74) (qa_code 74) (qa_mL 74) (qa_ret 74) ∈ lw_tbl := qa_in4 (List.mem_of_getElem? (i := 10) rfl)
set_option maxRecDepth 20000 in
theorem qa_cd75 : Cond.code (qa_y 75) (qa_code 75) (qa_mL 75) (qa_ret 75) ∈ lw_tbl := qa_in4 (List.mem_of_getElem? (i := 16) rfl)
set_option maxRecDepth 20000 in
theorem qa_cd76 : Cond.code (qa_y 76) (qa_code 76) (qa_mL 76) (qa_ret 76) ∈ lw_tbl := qa_in4 (List.mem_of_getElem? (i := 13) rfl)
set_option maxRecDepth 20000 in
theorem qa_cd77 : Cond.code (qa_y 77) (qa_code 77) (qa_mL 77) (qa_ret 77) ∈ lw_tbl := qa_in4 (List.mem_of_getElem? (i := 21) rfl)
set_option maxRecDepth 20000 in
theorem qa_cd78 : Cond.code (qa_y 78) (qa_code 78) (qa_mL 78) (qa_ret 78) ∈ lw_tbl := qa_in1 (List.mem_of_getElem? (i := 59) rfl)
set_option maxRecDepth 20000 in
theorem qa_cd79 : Cond.code (qa_y 79) (qa_code 79) (qa_mL 79) (qa_ret 79) ∈ lw_tbl := qa_in6 (List.mem_of_getElem? (i := 1) rfl)
set_option maxRecDepth 20000 in
theorem qa_cd80 : Cond.code (qa_y 80) (qa_code 80) (qa_mL 80) (qa_ret 80) ∈ lw_tbl := qa_in6 (List.mem_of_getElem? (i := 5) rfl)
set_option maxRecDepth 20000 in
theorem qa_cd81 : Cond.code (qa_y 81) (qa_code 81) (qa_mL 81) (qa_ret 81) ∈ lw_tbl := qa_in6 (List.mem_of_getElem? (i := 15) rfl)
set_option maxRecDepth 20000 in
theorem qa_cd82 : Cond.code (qa_y 82) (qa_code 82) (qa_mL 82) (qa_ret 82) ∈ lw_tbl := qa_in6 (List.mem_of_getElem? (i := 19) rfl)
set_option maxRecDepth 20000 in
theorem qa_cd83 : Cond.code (qa_y 83) (qa_code 83) (qa_mL 83) (qa_ret 83) ∈ lw_tbl := qa_in6 (List.mem_of_getElem? (i := 11) rfl)
set_option maxRecDepth 20000 in
theorem qa_cd84 : Cond.code (qa_y 84) (qa_code 84) (qa_mL 84) (qa_ret 84) ∈ lw_tbl := qa_in6 (List.mem_of_getElem? (i := 25) rfl)
set_option maxRecDepth 20000 in
theorem qa_cd85 : Cond.code (qa_y 85) (qa_code 85) (qa_mL 85) (qa_ret 85) ∈ lw_tbl := qa_in1 (List.mem_of_getElem? (i := 107) rfl)
set_option maxRecDepth 20000 in
theorem qa_cd86 : Cond.code (qa_y 86) (qa_code 86) (qa_mL 86) (qa_ret 86) ∈ lw_tbl := qa_in3 (List.mem_of_getElem? (i := 152) rfl)
set_option maxRecDepth 20000 in
theorem qa_cd87 : Cond.code (qa_y 87) (qa_code 87) (qa_mL 87) (qa_ret 87) ∈ lw_tbl := qa_in3 (List.mem_of_getElem? (i := 156) rfl)
set_option maxRecDepth 20000 in
theorem qa_cd88 : Cond.code (qa_y 88) (qa_code 88) (qa_mL 88) (qa_ret 88) ∈ lw_tbl := qa_in3 (List.mem_of_getElem? (i := 128) rfl)
set_option maxRecDepth 20000 in
theorem qa_cd89 : Cond.code (qa_y 89) (qa_code 89) (qa_mL 89) (qa_ret 89) ∈ lw_tbl := qa_in1 (List.mem_of_getElem? (i := 149) rfl)
set_option maxRecDepth 20000 in
theorem qa_cd90 : Cond.code (qa_y 90) (qa_code 90) (qa_mL 90) (qa_ret 90) ∈ lw_tbl := qa_in3 (List.mem_of_getElem? (i := 217) rfl)
set_option maxRecDepth 20000 in
theorem qa_cd91 : Cond.code (qa_y 91) (qa_code 91) (qa_mL 91) (qa_ret 91) ∈ lw_tbl := qa_in4 (List.mem_of_getElem? (i := 165) rfl)
set_option maxRecDepth 20000 in
theorem qa_cd92 : Cond.code (qa_y 92) (qa_code 92) (qa_mL 92) (qa_ret 92) ∈ lw_tbl := qa_in4 (List.mem_of_getElem? (i := 6) rfl)
set_option maxRecDepth 20000 in
theorem qa_cd93 : Cond.code (qa_y 93) (qa_code 93) (qa_mL 93) (qa_ret 93) ∈ lw_tbl := qa_in4 (List.mem_of_getElem? (i := 141) rfl)
set_option maxRecDepth 20000 in
theorem qa_cd94 : Cond.code (qa_y 94) (qa_code 94) (qa_mL 94) (qa_ret 94) ∈ lw_tbl := qa_in5 (List.mem_of_getElem? (i := 231) rfl)
set_option maxRecDepth 20000 in
theorem qa_cd95 : Cond.code (qa_y 95) (qa_code 95) (qa_mL 95) (qa_ret 95) ∈ lw_tbl := qa_in4 (List.mem_of_getElem? (i := 34) rfl)
set_option maxRecDepth 20000 in
theorem qa_cd96 : Cond.code (qa_y 96) (qa_code 96) (qa_mL 96) (qa_ret 96) ∈ lw_tbl := qa_in4 (List.mem_of_getElem? (i := 38) rfl)
set_option maxRecDepth 20000 in
theorem qa_cd97 : Cond.code (qa_y 97) (qa_code 97) (qa_mL 97) (qa_ret 97) ∈ lw_tbl := qa_in4 (List.mem_of_getElem? (i := 88) rfl)
set_option maxRecDepth 20000 in
theorem qa_cd98 : Cond.code (qa_y 98) (qa_code 98) (qa_mL 98) (qa_ret 98) ∈ lw_tbl := qa_in2 (List.mem_of_getElem? (i := 69) rfl)
set_option maxRecDepth 20000 in
theorem qa_cd99 : Cond.code (qa_y 99) (qa_code 99) (qa_mL 99) (qa_ret 99) ∈ lw_tbl := qa_in5 (List.mem_of_getElem? (i := 108) rfl)
set_option maxRecDepth 20000 in
theorem qa_cd100 : Cond.code (qa_y 100) (qa_code 100) (qa_mL 100) (qa_ret 100) ∈ lw_tbl := qa_in5 (List.mem_of_getElem? (i := 121) rfl)
set_option maxRecDepth 20000 in
theorem qa_cd101 : Cond.code (qa_y 101) (qa_code 101) (qa_mL 101) (qa_ret 101) ∈ lw_tbl := qa_in5 (List.mem_of_getElem? (i := 132) rfl)
set_option maxRecDepth 20000 in
theorem qa_cd102 : Cond.code (qa_y 102) (qa_code 102) (qa_mL 102) (qa_ret 102) ∈ lw_tbl := qa_in5 (List.mem_of_getElem? (i := 128) rfl)
set_option maxRecDepth 20000 in
theorem qa_cd103 : Cond.code (qa_y 103) (qa_code 103) (qa_mL 103) (qa_ret 103) ∈ lw_tbl := qa_in5 (List.mem_of_getElem? (i := 117) rfl)
set_option maxRecDepth 20000 in
theorem qa_cd104 : Cond.code (qa_y 104) (qa_code 104) (qa_mL 104) (qa_ret 104) ∈ lw_tbl := qa_in5 (List.mem_of_getElem? (i := 140) rfl)
set_option maxRecDepth 20000 in
theorem qa_cd105 : Cond.code (qa_y 105) (qa_code 105) (qa_mL 105) (qa_ret 105) ∈ lw_tbl := qa_in5 (List.mem_of_getElem? (i := 149) rfl)
set_option maxRecDepth 20000 in
theorem qa_cd106 : Cond.code (qa_y 106) (qa_code 106) (qa_mL 106) (qa_ret 106) ∈ lw_tbl := qa_in1 (List.mem_of_getElem? (i := 36) rfl)
set_option maxRecDepth 20000 in
theorem qa_cd107 : Cond.code (qa_y 107) (qa_code 107) (qa_mL 107) (qa_ret 107) ∈ lw_tbl := qa_in2 (List.mem_of_getElem? (i := 125) rfl)
set_option maxRecDepth 20000 in
theorem qa_cd108 : Cond.code (qa_y 108) (qa_code 108) (qa_mL 108) (qa_ret 108) ∈ lw_tbl := qa_in2 (List.mem_of_getElem? (i := 128) rfl)
set_option maxRecDepth 20000 in
theorem qa_cd109 : Cond.code (qa_y 109) (qa_code 109) (qa_mL 109) (qa_ret 109) ∈ lw_tbl := qa_in2 (List.mem_of_getElem? (i := 132) rfl)
set_option maxRecDepth 20000 in
theorem qa_cd110 : Cond.code (qa_y 110) (qa_code 110) (qa_mL 110) (qa_ret 110) ∈ lw_tbl := qa_in2 (List.mem_of_getElem? (i := 140) rfl)
set_option maxRecDepth 20000 in
theorem qa_cd111 : Cond.code (qa_y 111) (qa_code 111) (qa_mL 111) (qa_ret 111) ∈ lw_tbl := qa_in3 (List.mem_of_getElem? (i := 164) rfl)
set_option maxRecDepth 20000 in
theorem qa_cd112 : Cond.code (qa_y 112) (qa_code 112) (qa_mL 112) (qa_ret 112) ∈ lw_tbl := qa_in3 (List.mem_of_getElem? (i := 135) rfl)
set_option maxRecDepth 20000 in
theorem qa_cd113 : Cond.code (qa_y 113) (qa_code 113) (qa_mL 113) (qa_ret 113) ∈ lw_tbl := qa_in2 (List.mem_of_getElem? (i := 158) rfl)
set_option maxRecDepth 20000 in
theorem qa_cd114 : Cond.code (qa_y 114) (qa_code 114) (qa_mL 114) (qa_ret 114) ∈ lw_tbl := qa_in2 (List.mem_of_getElem? (i := 178) rfl)
set_option maxRecDepth 20000 in
theorem qa_cd115 : Cond.code (qa_y 115) (qa_code 115) (qa_mL 115) (qa_ret 115) ∈ lw_tbl := qa_in3 (List.mem_of_getElem? (i := 28) rfl)
set_option maxRecDepth 20000 in
theorem qa_cd116 : Cond.code (qa_y 116) (qa_code 116) (qa_mL 116) (qa_ret 116) ∈ lw_tbl := qa_in3 (List.mem_of_getElem? (i := 54) rfl)
set_option maxRecDepth 20000 in
theorem qa_cd117 : Cond.code (qa_y 117) (qa_code 117) (qa_mL 117) (qa_ret 117) ∈ lw_tbl := qa_in3 (List.mem_of_getElem? (i := 62) rfl)
set_option maxRecDepth 20000 in
theorem qa_cd118 : Cond.code (qa_y 118) (qa_code 118) (qa_mL 118) (qa_ret 118) ∈ lw_tbl := qa_in3 (List.mem_of_getElem? (i := 58) rfl)
set_option maxRecDepth 20000 in
theorem qa_cd119 : Cond.code (qa_y 119) (qa_code 119) (qa_mL 119) (qa_ret 119) ∈ lw_tbl := qa_in3 (List.mem_of_getElem? (i := 42) rfl)
set_option maxRecDepth 20000 in
theorem qa_cd120 : Cond.code (qa_y 120) (qa_code 120) (qa_mL 120) (qa_ret 120) ∈ lw_tbl := qa_in3 (List.mem_of_getElem? (i := 46) rfl)
set_option maxRecDepth 20000 in
theorem qa_cd121 : Cond.code (qa_y 121) (qa_code 121) (qa_mL 121) (qa_ret 121) ∈ lw_tbl := qa_in2 (List.mem_of_getElem? (i := 27) rfl)
set_option maxRecDepth 20000 in
theorem qa_cd122 : Cond.code (qa_y 122) (qa_code 122) (qa_mL 122) (qa_ret 122) ∈ lw_tbl := qa_in4 (List.mem_of_getElem? (i := 180) rfl)
set_option maxRecDepth 20000 in
theorem qa_cd123 : Cond.code (qa_y 123) (qa_code 123) (qa_mL 123) (qa_ret 123) ∈ lw_tbl := qa_in4 (List.mem_of_getElem? (i := 195) rfl)
set_option maxRecDepth 20000 in
theorem qa_cd124 : Cond.code (qa_y 124) (qa_code 124) (qa_mL 124) (qa_ret 124) ∈ lw_tbl := qa_in4 (List.mem_of_getElem? (i := 209) rfl)
set_option maxRecDepth 20000 in
theorem qa_cd125 : Cond.code (qa_y 125) (qa_code 125) (qa_mL 125) (qa_ret 125) ∈ lw_tbl := qa_in4 (List.mem_of_getElem? (i := 221) rfl)
set_option maxRecDepth 20000 in
theorem qa_cd126 : Cond.code (qa_y 126) (qa_code 126) (qa_mL 126) (qa_ret 126) ∈ lw_tbl := qa_in4 (List.mem_of_getElem? (i := 226) rfl)
set_option maxRecDepth 20000 in
theorem qa_cd127 : Cond.code (qa_y 127) (qa_code 127) (qa_mL 127) (qa_ret 127) ∈ lw_tbl := qa_in4 (List.mem_of_getElem? (i := 238) rfl)
set_option maxRecDepth 20000 in
theorem qa_cd128 : Cond.code (qa_y 128) (qa_code 128) (qa_mL 128) (qa_ret 128) ∈ lw_tbl := qa_in5 (List.mem_of_getElem? (i := 2) rfl)
set_option maxRecDepth 20000 in
theorem qa_cd129 : Cond.code (qa_y 129) (qa_code 129) (qa_mL 129) (qa_ret 129) ∈ lw_tbl := qa_in5 (List.mem_of_getElem? (i := 11) rfl)
set_option maxRecDepth 20000 in
theorem qa_cd130 : Cond.code (qa_y 130) (qa_code 130) (qa_mL 130) (qa_ret 130) ∈ lw_tbl := qa_in5 (List.mem_of_getElem? (i := 15) rfl)
set_option maxRecDepth 20000 in
theorem qa_cd131 : Cond.code (qa_y 131) (qa_code 131) (qa_mL 131) (qa_ret 131) ∈ lw_tbl := qa_in5 (List.mem_of_getElem? (i := 24) rfl)
set_option maxRecDepth 20000 in
theorem qa_cd132 : Cond.code (qa_y 132) (qa_code 132) (qa_mL 132) (qa_ret 132) ∈ lw_tbl := qa_in5 (List.mem_of_getElem? (i := 28) rfl)
set_option maxRecDepth 20000 in
theorem qa_cd133 : Cond.code (qa_y 133) (qa_code 133) (qa_mL 133) (qa_ret 133) ∈ lw_tbl := qa_in5 (List.mem_of_getElem? (i := 219) rfl)
set_option maxRecDepth 20000 in
theorem qa_cd134 : Cond.code (qa_y 134) (qa_code 134) (qa_mL 134) (qa_ret 134) ∈ lw_tbl := qa_in6 (List.mem_of_getElem? (i := 45) rfl)
set_option maxRecDepth 20000 in
theorem qa_cd135 : Cond.code (qa_y 135) (qa_code 135) (qa_mL 135) (qa_ret 135) ∈ lw_tbl := qa_in6 (List.mem_of_getElem? (i := 53) rfl)
set_option maxRecDepth 20000 in
theorem qa_cd136 : Cond.code (qa_y 136) (qa_code 136) (qa_mL 136) (qa_ret 136) ∈ lw_tbl := qa_in5 (List.mem_of_getElem? (i := 207) rfl)
set_option maxRecDepth 20000 in
theorem qa_cd137 : Cond.code (qa_y 137) (qa_code 137) (qa_mL 137) (qa_ret 137) ∈ lw_tbl := qa_in5 (List.mem_of_getElem? (i := 195) rfl)
set_option maxRecDepth 20000 in
theorem qa_cd138 : Cond.code (qa_y 138) (qa_code 138) (qa_mL 138) (qa_ret 138) ∈ lw_tbl := qa_in5 (List.mem_of_getElem? (i := 177) rfl)
set_option maxRecDepth 20000 in
theorem qa_cd139 : Cond.code (qa_y 139) (qa_code 139) (qa_mL 139) (qa_ret 139) ∈ lw_tbl := qa_in5 (List.mem_of_getElem? (i := 157) rfl)
set_option maxRecDepth 20000 in
theorem qa_cd140 : Cond.code (qa_y 140) (qa_code 140) (qa_mL 140) (qa_ret 140) ∈ lw_tbl := qa_in1 (List.mem_of_getElem? (i := 120) rfl)
set_option maxRecDepth 20000 in
theorem qa_cd141 : Cond.code (qa_y 141) (qa_code 141) (qa_mL 141) (qa_ret 141) ∈ lw_tbl := qa_in3 (List.mem_of_getElem? (i := 181) rfl)
set_option maxRecDepth 20000 in
theorem qa_cd142 : Cond.code (qa_y 142) (qa_code 142) (qa_mL 142) (qa_ret 142) ∈ lw_tbl := qa_in1 (List.mem_of_getElem? (i := 28) rfl)
set_option maxRecDepth 20000 in
theorem qa_cd143 : Cond.code (qa_y 143) (qa_code 143) (qa_mL 143) (qa_ret 143) ∈ lw_tbl := qa_in2 (List.mem_of_getElem? (i := 121) rfl)
set_option maxRecDepth 20000 in
theorem qa_cd144 : Cond.code (qa_y 144) (qa_code 144) (qa_mL 144) (qa_ret 144) ∈ lw_tbl := qa_in2 (List.mem_of_getElem? (i := 136) rfl)
set_option maxRecDepth 20000 in
theorem qa_cd145 : Cond.code (qa_y 145) (qa_code 145) (qa_mL 145) (qa_ret 145) ∈ lw_tbl := qa_in2 (List.mem_of_getElem? (i := 144) rfl)
set_option maxRecDepth 20000 in
theorem qa_cd146 : Cond.code (qa_y 146) (qa_code 146) (qa_mL 146) (qa_ret 146) ∈ lw_tbl := qa_in3 (List.mem_of_getElem? (i := 140) rfl)
set_option maxRecDepth 20000 in
theorem qa_cd147 : Cond.code (qa_y 147) (qa_code 147) (qa_mL 147) (qa_ret 147) ∈ lw_tbl := qa_in2 (List.mem_of_getElem? (i := 154) rfl)
set_option maxRecDepth 20000 in
theorem qa_cd148 : Cond.code (qa_y 148) (qa_code 148) (qa_mL 148) (qa_ret 148) ∈ lw_tbl := qa_in2 (List.mem_of_getElem? (i := 166) rfl)
set_option maxRecDepth 20000 in
theorem qa_cd149 : Cond.code (qa_y 149) (qa_code 149) (qa_mL 149) (qa_ret 149) ∈ lw_tbl := qa_in3 (List.mem_of_getElem? (i := 66) rfl)
set_option maxRecDepth 20000 in
theorem qa_cd150 : Cond.code (qa_y 150) (qa_code 150) (qa_mL 150) (qa_ret 150) ∈ lw_tbl := qa_in3 (List.mem_of_getElem? (i := 124) rfl)
set_option maxRecDepth 20000 in
theorem qa_cd151 : Cond.code (qa_y 151) (qa_code 151) (qa_mL 151) (qa_ret 151) ∈ lw_tbl := qa_in3 (List.mem_of_getElem? (i := 192) rfl)
set_option maxRecDepth 20000 in
theorem qa_cd152 : Cond.code (qa_y 152) (qa_code 152) (qa_mL 152) (qa_ret 152) ∈ lw_tbl := qa_in3 (List.mem_of_getElem? (i := 196) rfl)
set_option maxRecDepth 20000 in
theorem qa_cd153 : Cond.code (qa_y 153) (qa_code 153) (qa_mL 153) (qa_ret 153) ∈ lw_tbl := qa_in3 (List.mem_of_getElem? (i := 148) rfl)
set_option maxRecDepth 20000 in
theorem qa_cd154 : Cond.code (qa_y 154) (qa_code 154) (qa_mL 154) (qa_ret 154) ∈ lw_tbl := qa_in4 (List.mem_of_getElem? (i := 69) rfl)
set_option maxRecDepth 20000 in
theorem qa_cd155 : Cond.code (qa_y 155) (qa_code 155) (qa_mL 155) (qa_ret 155) ∈ lw_tbl := qa_in2 (List.mem_of_getElem? (i := 148) rfl)
set_option maxRecDepth 20000 in
theorem qa_cd156 : Cond.code (qa_y 156) (qa_code 156) (qa_mL 156) (qa_ret 156) ∈ lw_tbl := qa_in2 (List.mem_of_getElem? (i := 162) rfl)
set_option maxRecDepth 20000 in
theorem qa_cd157 : Cond.code (qa_y 157) (qa_code 157) (qa_mL 157) (qa_ret 157) ∈ lw_tbl := qa_in3 (List.mem_of_getElem? (i := 184) rfl)
set_option maxRecDepth 20000 in
theorem qa_cd158 : Cond.code (qa_y 158) (qa_code 158) (qa_mL 158) (qa_ret 158) ∈ lw_tbl := qa_in4 (List.mem_of_getElem? (i := 113) rfl)
set_option maxRecDepth 20000 in
theorem qa_cd159 : Cond.code (qa_y 159) (qa_code 159) (qa_mL 159) (qa_ret 159) ∈ lw_tbl := qa_in3 (List.mem_of_getElem? (i := 144) rfl)
set_option maxRecDepth 20000 in
theorem qa_cd160 : Cond.code (qa_y 160) (qa_code 160) (qa_mL 160) (qa_ret 160) ∈ lw_tbl := qa_in3 (List.mem_of_getElem? (i := 160) rfl)
set_option maxRecDepth 20000 in
theorem qa_cd161 : Cond.code (qa_y 161) (qa_code 161) (qa_mL 161) (qa_ret 161) ∈ lw_tbl := qa_in3 (List.mem_of_getElem? (i := 177) rfl)
set_option maxRecDepth 20000 in
theorem qa_cd162 : Cond.code (qa_y 162) (qa_code 162) (qa_mL 162) (qa_ret 162) ∈ lw_tbl := qa_in3 (List.mem_of_getElem? (i := 188) rfl)
set_option maxRecDepth 20000 in
theorem qa_cd163 : Cond.code (qa_y 163) (qa_code 163) (qa_mL 163) (qa_ret 163) ∈ lw_tbl := qa_in3 (List.mem_of_getElem? (i := 225) rfl)
set_option maxRecDepth 20000 in
theorem qa_cd164 : Cond.code (qa_y 164) (qa_code 164) (qa_mL 164) (qa_ret 164) ∈ lw_tbl := qa_in4 (List.mem_of_getElem? (i := 65) rfl)
set_option maxRecDepth 20000 in
theorem qa_cd165 : Cond.code (qa_y 165) (qa_code 165) (qa_mL 165) (qa_ret 165) ∈ lw_tbl := qa_in4 (List.mem_of_getElem? (i := 80) rfl)
set_option maxRecDepth 20000 in
theorem qa_cd166 : Cond.code (qa_y 166) (qa_code 166) (qa_mL 166) (qa_ret 166) ∈ lw_tbl := qa_in4 (List.mem_of_getElem? (i := 93) rfl)
set_option maxRecDepth 20000 in
theorem qa_cd167 : Cond.code (qa_y 167) (qa_code 167) (qa_mL 167) (qa_ret 167) ∈ lw_tbl := qa_in4 (List.mem_of_getElem? (i := 110) rfl)
set_option maxRecDepth 20000 in
theorem qa_cd168 : Cond.code (qa_y 168) (qa_code 168) (qa_mL 168) (qa_ret 168) ∈ lw_tbl := qa_in4 (List.mem_of_getElem? (i := 129) rfl)
set_option maxRecDepth 20000 in
theorem qa_cd169 : Cond.code (qa_y 169) (qa_code 169) (qa_mL 169) (qa_ret 169) ∈ lw_tbl := qa_in4 (List.mem_of_getElem? (i := 145) rfl)
set_option maxRecDepth 20000 in
theorem qa_cd170 : Cond.code (qa_y 170) (qa_code 170) (qa_mL 170) (qa_ret 170) ∈ lw_tbl := qa_in4 (List.mem_of_getElem? (i := 149) rfl)
set_option maxRecDepth 20000 in
theorem qa_cd171 : Cond.code (qa_y 171) (qa_code 171) (qa_mL 171) (qa_ret 171) ∈ lw_tbl := qa_in4 (List.mem_of_getElem? (i := 157) rfl)
set_option maxRecDepth 20000 in
theorem qa_cd172 : Cond.code (qa_y 172) (qa_code 172) (qa_mL 172) (qa_ret 172) ∈ lw_tbl := qa_in4 (List.mem_of_getElem? (i := 172) rfl)
set_option maxRecDepth 20000 in
theorem qa_cd173 : Cond.code (qa_y 173) (qa_code 173) (qa_mL 173) (qa_ret 173) ∈ lw_tbl := qa_in4 (List.mem_of_getElem? (i := 176) rfl)
set_option maxRecDepth 20000 in
theorem qa_cd174 : Cond.code (qa_y 174) (qa_code 174) (qa_mL 174) (qa_ret 174) ∈ lw_tbl := qa_in4 (List.mem_of_getElem? (i := 201) rfl)
set_option maxRecDepth 20000 in
theorem qa_cd175 : Cond.code (qa_y 175) (qa_code 175) (qa_mL 175) (qa_ret 175) ∈ lw_tbl := qa_in4 (List.mem_of_getElem? (i := 205) rfl)
set_option maxRecDepth 20000 in
theorem qa_cd176 : Cond.code (qa_y 176) (qa_code 176) (qa_mL 176) (qa_ret 176) ∈ lw_tbl := qa_in4 (List.mem_of_getElem? (i := 217) rfl)
set_option maxRecDepth 20000 in
theorem qa_cd177 : Cond.code (qa_y 177) (qa_code 177) (qa_mL 177) (qa_ret 177) ∈ lw_tbl := qa_in4 (List.mem_of_getElem? (i := 234) rfl)
set_option maxRecDepth 20000 in
theorem qa_cd178 : Cond.code (qa_y 178) (qa_code 178) (qa_mL 178) (qa_ret 178) ∈ lw_tbl := qa_in5 (List.mem_of_getElem? (i := 7) rfl)
set_option maxRecDepth 20000 in
theorem qa_cd179 : Cond.code (qa_y 179) (qa_code 179) (qa_mL 179) (qa_ret 179) ∈ lw_tbl := qa_in5 (List.mem_of_getElem? (i := 20) rfl)
set_option maxRecDepth 20000 in
theorem qa_cd180 : Cond.code (qa_y 180) (qa_code 180) (qa_mL 180) (qa_ret 180) ∈ lw_tbl := qa_in5 (List.mem_of_getElem? (i := 36) rfl)
set_option maxRecDepth 20000 in
theorem qa_cd181 : Cond.code (qa_y 181) (qa_code 181) (qa_mL 181) (qa_ret 181) ∈ lw_tbl := qa_in5 (List.mem_of_getElem? (i := 33) rfl)
set_option maxRecDepth 20000 in
theorem qa_cd182 : Cond.code (qa_y 182) (qa_code 182) (qa_mL 182) (qa_ret 182) ∈ lw_tbl := qa_in5 (List.mem_of_getElem? (i := 82) rfl)
set_option maxRecDepth 20000 in
theorem qa_cd183 : Cond.code (qa_y 183) (qa_code 183) (qa_mL 183) (qa_ret 183) ∈ lw_tbl := qa_in5 (List.mem_of_getElem? (i := 96) rfl)
set_option maxRecDepth 20000 in
theorem qa_cd184 : Cond.code (qa_y 184) (qa_code 184) (qa_mL 184) (qa_ret 184) ∈ lw_tbl := qa_in5 (List.mem_of_getElem? (i := 104) rfl)
set_option maxRecDepth 20000 in
theorem qa_cd185 : Cond.code (qa_y 185) (qa_code 185) (qa_mL 185) (qa_ret 185) ∈ lw_tbl := qa_in5 (List.mem_of_getElem? (i := 113) rfl)
set_option maxRecDepth 20000 in
theorem qa_cd186 : Cond.code (qa_y 186) (qa_code 186) (qa_mL 186) (qa_ret 186) ∈ lw_tbl := qa_in5 (List.mem_of_getElem? (i := 145) rfl)
set_option maxRecDepth 20000 in
theorem qa_cd187 : Cond.code (qa_y 187) (qa_code 187) (qa_mL 187) (qa_ret 187) ∈ lw_tbl := qa_in5 (List.mem_of_getElem? (i := 153) rfl)
set_option maxRecDepth 20000 in
theorem qa_cd188 : Cond.code (qa_y 188) (qa_code 188) (qa_mL 188) (qa_ret 188) ∈ lw_tbl := qa_in5 (List.mem_of_getElem? (i := 173) rfl)
set_option maxRecDepth 20000 in
theorem qa_cd189 : Cond.code (qa_y 189) (qa_code 189) (qa_mL 189) (qa_ret 189) ∈ lw_tbl := qa_in5 (List.mem_of_getElem? (i := 191) rfl)
set_option maxRecDepth 20000 in
theorem qa_cd190 : Cond.code (qa_y 190) (qa_code 190) (qa_mL 190) (qa_ret 190) ∈ lw_tbl := qa_in5 (List.mem_of_getElem? (i := 203) rfl)
set_option maxRecDepth 20000 in
theorem qa_cd191 : Cond.code (qa_y 191) (qa_code 191) (qa_mL 191) (qa_ret 191) ∈ lw_tbl := qa_in5 (List.mem_of_getElem? (i := 215) rfl)
set_option maxRecDepth 20000 in
theorem qa_cd192 : Cond.code (qa_y 192) (qa_code 192) (qa_mL 192) (qa_ret 192) ∈ lw_tbl := qa_in5 (List.mem_of_getElem? (i := 223) rfl)
set_option maxRecDepth 20000 in
theorem qa_cd193 : Cond.code (qa_y 193) (qa_code 193) (qa_mL 193) (qa_ret 193) ∈ lw_tbl := qa_in5 (List.mem_of_getElem? (i := 237) rfl)
set_option maxRecDepth 20000 in
theorem qa_cd194 : Cond.code (qa_y 194) (qa_code 194) (qa_mL 194) (qa_ret 194) ∈ lw_tbl := qa_in6 (List.mem_of_getElem? (i := 29) rfl)
set_option maxRecDepth 20000 in
theorem qa_cd195 : Cond.code (qa_y 195) (qa_code 195) (qa_mL 195) (qa_ret 195) ∈ lw_tbl := qa_in6 (List.mem_of_getElem? (i := 32) rfl)
set_option maxRecDepth 20000 in
theorem qa_cd196 : Cond.code (qa_y 196) (qa_code 196) (qa_mL 196) (qa_ret 196) ∈ lw_tbl := qa_in6 (List.mem_of_getElem? (i := 41) rfl)
set_option maxRecDepth 20000 in
theorem qa_cd197 : Cond.code (qa_y 197) (qa_code 197) (qa_mL 197) (qa_ret 197) ∈ lw_tbl := qa_in6 (List.mem_of_getElem? (i := 49) rfl)
set_option maxRecDepth 20000 in
theorem qa_cd198 : Cond.code (qa_y 198) (qa_code 198) (qa_mL 198) (qa_ret 198) ∈ lw_tbl := qa_in7 (List.mem_of_getElem? (i := 84) rfl)
set_option maxRecDepth 20000 in
theorem qa_cd199 : Cond.code (qa_y 199) (qa_code 199) (qa_mL 199) (qa_ret 199) ∈ lw_tbl := qa_in7 (List.mem_of_getElem? (i := 74) rfl)
set_option maxRecDepth 20000 in
theorem qa_cd200 : Cond.code (qa_y 200) (qa_code 200) (qa_mL 200) (qa_ret 200) ∈ lw_tbl := qa_in6 (List.mem_of_getElem? (i := 130) rfl)
set_option maxRecDepth 20000 in
theorem qa_cd201 : Cond.code (qa_y 201) (qa_code 201) (qa_mL 201) (qa_ret 201) ∈ lw_tbl := qa_in7 (List.mem_of_getElem? (i := 40) rfl)
set_option maxRecDepth 20000 in
theorem qa_cd202 : Cond.code (qa_y 202) (qa_code 202) (qa_mL 202) (qa_ret 202) ∈ lw_tbl := qa_in7 (List.mem_of_getElem? (i := 37) rfl)
set_option maxRecDepth 20000 in
theorem qa_cd203 : Cond.code (qa_y 203) (qa_code 203) (qa_mL 203) (qa_ret 203) ∈ lw_tbl := qa_in7 (List.mem_of_getElem? (i := 44) rfl)
set_option maxRecDepth 20000 in
theorem qa_cd204 : Cond.code (qa_y 204) (qa_code 204) (qa_mL 204) (qa_ret 204) ∈ lw_tbl := qa_in7 (List.mem_of_getElem? (i := 64) rfl)
set_option maxRecDepth 20000 in
theorem qa_cd205 : Cond.code (qa_y 205) (qa_code 205) (qa_mL 205) (qa_ret 205) ∈ lw_tbl := qa_in7 (List.mem_of_getElem? (i := 60) rfl)
set_option maxRecDepth 20000 in
theorem qa_cd206 : Cond.code (qa_y 206) (qa_code 206) (qa_mL 206) (qa_ret 206) ∈ lw_tbl := qa_in7 (List.mem_of_getElem? (i := 68) rfl)
set_option maxRecDepth 20000 in
theorem qa_cd207 : Cond.code (qa_y 207) (qa_code 207) (qa_mL 207) (qa_ret 207) ∈ lw_tbl := qa_in7 (List.mem_of_getElem? (i := 81) rfl)
set_option maxRecDepth 20000 in
theorem qa_cd208 : Cond.code (qa_y 208) (qa_code 208) (qa_mL 208) (qa_ret 208) ∈ lw_tbl := qa_in7 (List.mem_of_getElem? (i := 112) rfl)
set_option maxRecDepth 20000 in
theorem qa_cd209 : Cond.code (qa_y 209) (qa_code 209) (qa_mL 209) (qa_ret 209) ∈ lw_tbl := qa_in7 (List.mem_of_getElem? (i := 135) rfl)
set_option maxRecDepth 20000 in
theorem qa_cd210 : Cond.code (qa_y 210) (qa_code 210) (qa_mL 210) (qa_ret 210) ∈ lw_tbl := qa_in7 (List.mem_of_getElem? (i := 108) rfl)
set_option maxRecDepth 20000 in
theorem qa_cd211 : Cond.code (qa_y 211) (qa_code 211) (qa_mL 211) (qa_ret 211) ∈ lw_tbl := qa_in7 (List.mem_of_getElem? (i := 116) rfl)
set_option maxRecDepth 20000 in
theorem qa_cd212 : Cond.code (qa_y 212) (qa_code 212) (qa_mL 212) (qa_ret 212) ∈ lw_tbl := qa_in7 (List.mem_of_getElem? (i := 132) rfl)
set_option maxRecDepth 20000 in
theorem qa_cd213 : Cond.code (qa_y 213) (qa_code 213) (qa_mL 213) (qa_ret 213) ∈ lw_tbl := qa_in7 (List.mem_of_getElem? (i := 128) rfl)
set_option maxRecDepth 20000 in
theorem qa_cd214 : Cond.code (qa_y 214) (qa_code 214) (qa_mL 214) (qa_ret 214) ∈ lw_tbl := qa_in7 (List.mem_of_getElem? (i := 124) rfl)
set_option maxRecDepth 20000 in
theorem qa_cd215 : Cond.code (qa_y 215) (qa_code 215) (qa_mL 215) (qa_ret 215) ∈ lw_tbl := qa_in7 (List.mem_of_getElem? (i := 120) rfl)
set_option maxRecDepth 20000 in
theorem qa_cd216 : Cond.code (qa_y 216) (qa_code 216) (qa_mL 216) (qa_ret 216) ∈ lw_tbl := qa_in7 (List.mem_of_getElem? (i := 142) rfl)
set_option maxRecDepth 20000 in
theorem qa_cd217 : Cond.code (qa_y 217) (qa_code 217) (qa_mL 217) (qa_ret 217) ∈ lw_tbl := qa_in7 (List.mem_of_getElem? (i := 139) rfl)
set_option maxRecDepth 20000 in
theorem qa_cd218 : Cond.code (qa_y 218) (qa_code 218) (qa_mL 218) (qa_ret 218) ∈ lw_tbl := qa_in7 (List.mem_of_getElem? (i := 104) rfl)
set_option maxRecDepth 20000 in
theorem qa_cd219 : Cond.code (qa_y 219) (qa_code 219) (qa_mL 219) (qa_ret 219) ∈ lw_tbl := qa_in7 (List.mem_of_getElem? (i := 146) rfl)
set_option maxRecDepth 20000 in
theorem qa_cd220 : Cond.code (qa_y 220) (qa_code 220) (qa_mL 220) (qa_ret 220) ∈ lw_tbl := qa_in7 (List.mem_of_getElem? (i := 150) rfl)
set_option maxRecDepth 20000 in
theorem qa_cd221 : Cond.code (qa_y 221) (qa_code 221) (qa_mL 221) (qa_ret 221) ∈ lw_tbl := qa_in7 (List.mem_of_getElem? (i := 100) rfl)
set_option maxRecDepth 20000 in
theorem qa_cd222 : Cond.code (qa_y 222) (qa_code 222) (qa_mL 222) (qa_ret 222) ∈ lw_tbl := qa_in7 (List.mem_of_getElem? (i := 96) rfl)
set_option maxRecDepth 20000 in
theorem qa_cd223 : Cond.code (qa_y 223) (qa_code 223) (qa_mL 223) (qa_ret 223) ∈ lw_tbl := qa_in7 (List.mem_of_getElem? (i := 92) rfl)
set_option maxRecDepth 20000 in
theorem qa_cd224 : Cond.code (qa_y 224) (qa_code 224) (qa_mL 224) (qa_ret 224) ∈ lw_tbl := qa_in7 (List.mem_of_getElem? (i := 154) rfl)
set_option maxRecDepth 20000 in
theorem qa_cd225 : Cond.code (qa_y 225) (qa_code 225) (qa_mL 225) (qa_ret 225) ∈ lw_tbl := qa_in7 (List.mem_of_getElem? (i := 88) rfl)
set_option maxRecDepth 20000 in
theorem qa_cd226 : Cond.code (qa_y 226) (qa_code 226) (qa_mL 226) (qa_ret 226) ∈ lw_tbl := qa_in8 (List.mem_of_getElem? (i := 0) rfl)
set_option maxRecDepth 20000 in
theorem qa_cd227 : Cond.code (qa_y 227) (qa_code 227) (qa_mL 227) (qa_ret 227) ∈ lw_tbl := qa_in7 (List.mem_of_getElem? (i := 237) rfl)
set_option maxRecDepth 20000 in
theorem qa_cd228 : Cond.code (qa_y 228) (qa_code 228) (qa_mL 228) (qa_ret 228) ∈ lw_tbl := qa_in7 (List.mem_of_getElem? (i := 234) rfl)
set_option maxRecDepth 20000 in
theorem qa_cd229 : Cond.code (qa_y 229) (qa_code 229) (qa_mL 229) (qa_ret 229) ∈ lw_tbl := qa_in7 (List.mem_of_getElem? (i := 230) rfl)
set_option maxRecDepth 20000 in
theorem qa_cd230 : Cond.code (qa_y 230) (qa_code 230) (qa_mL 230) (qa_ret 230) ∈ lw_tbl := qa_in7 (List.mem_of_getElem? (i := 78) rfl)
set_option maxRecDepth 20000 in
theorem qa_cd231 : Cond.code (qa_y 231) (qa_code 231) (qa_mL 231) (qa_ret 231) ∈ lw_tbl := qa_in7 (List.mem_of_getElem? (i := 71) rfl)
set_option maxRecDepth 20000 in
theorem qa_cd232 : Cond.code (qa_y 232) (qa_code 232) (qa_mL 232) (qa_ret 232) ∈ lw_tbl := qa_in7 (List.mem_of_getElem? (i := 56) rfl)
set_option maxRecDepth 20000 in
theorem qa_cd233 : Cond.code (qa_y 233) (qa_code 233) (qa_mL 233) (qa_ret 233) ∈ lw_tbl := qa_in7 (List.mem_of_getElem? (i := 52) rfl)
set_option maxRecDepth 20000 in
theorem qa_cd234 : Cond.code (qa_y 234) (qa_code 234) (qa_mL 234) (qa_ret 234) ∈ lw_tbl := qa_in7 (List.mem_of_getElem? (i := 158) rfl)
set_option maxRecDepth 20000 in
theorem qa_cd235 : Cond.code (qa_y 235) (qa_code 235) (qa_mL 235) (qa_ret 235) ∈ lw_tbl := qa_in7 (List.mem_of_getElem? (i := 48) rfl)
set_option maxRecDepth 20000 in
theorem qa_cd236 : Cond.code (qa_y 236) (qa_code 236) (qa_mL 236) (qa_ret 236) ∈ lw_tbl := qa_in7 (List.mem_of_getElem? (i := 162) rfl)
set_option maxRecDepth 20000 in
theorem qa_cd237 : Cond.code (qa_y 237) (qa_code 237) (qa_mL 237) (qa_ret 237) ∈ lw_tbl := qa_in7 (List.mem_of_getElem? (i := 170) rfl)
set_option maxRecDepth 20000 in
theorem qa_cd238 : Cond.code (qa_y 238) (qa_code 238) (qa_mL 238) (qa_ret 238) ∈ lw_tbl := qa_in7 (List.mem_of_getElem? (i := 190) rfl)
set_option maxRecDepth 20000 in
theorem qa_cd239 : Cond.code (qa_y 239) (qa_code 239) (qa_mL 239) (qa_ret 239) ∈ lw_tbl := qa_in7 (List.mem_of_getElem? (i := 178) rfl)
set_option maxRecDepth 20000 in
theorem qa_cd240 : Cond.code (qa_y 240) (qa_code 240) (qa_mL 240) (qa_ret 240) ∈ lw_tbl := qa_in7 (List.mem_of_getElem? (i := 166) rfl)
set_option maxRecDepth 20000 in
theorem qa_cd241 : Cond.code (qa_y 241) (qa_code 241) (qa_mL 241) (qa_ret 241) ∈ lw_tbl := qa_in7 (List.mem_of_getElem? (i := 174) rfl)
set_option maxRecDepth 20000 in
theorem qa_cd242 : Cond.code (qa_y 242) (qa_code 242) (qa_mL 242) (qa_ret 242) ∈ lw_tbl := qa_in7 (List.mem_of_getElem? (i := 182) rfl)
set_option maxRecDepth 20000 in
theorem qa_cd243 : Cond.code (qa_y 243) (qa_code 243) (qa_mL 243) (qa_ret 243) ∈ lw_tbl := qa_in7 (List.mem_of_getElem? (i := 218) rfl)
set_option maxRecDepth 20000 in
theorem qa_cd244 : Cond.code (qa_y 244) (qa_code 244) (qa_mL 244) (qa_ret 244) ∈ lw_tbl := qa_in7 (List.mem_of_getElem? (i := 198) rfl)
set_option maxRecDepth 20000 in
theorem qa_cd245 : Cond.code (qa_y 245) (qa_code 245) (qa_mL 245) (qa_ret 245) ∈ lw_tbl := qa_in7 (List.mem_of_getElem? (i := 194) rfl)
set_option maxRecDepth 20000 in
theorem qa_cd246 : Cond.code (qa_y 246) (qa_code 246) (qa_mL 246) (qa_ret 246) ∈ lw_tbl := qa_in7 (List.mem_of_getElem? (i := 186) rfl)
set_option maxRecDepth 20000 in
theorem qa_cd247 : Cond.code (qa_y 247) (qa_code 247) (qa_mL 247) (qa_ret 247) ∈ lw_tbl := qa_in7 (List.mem_of_getElem? (i := 214) rfl)
set_option maxRecDepth 20000 in
theorem qa_cd248 : Cond.code (qa_y 248) (qa_code 248) (qa_mL 248) (qa_ret 248) ∈ lw_tbl := qa_in7 (List.mem_of_getElem? (i := 222) rfl)
set_option maxRecDepth 20000 in
theorem qa_cd249 : Cond.code (qa_y 249) (qa_code 249) (qa_mL 249) (qa_ret 249) ∈ lw_tbl := qa_in7 (List.mem_of_getElem? (i := 226) rfl)
set_option maxRecDepth 20000 in
theorem qa_cd250 : Cond.code (qa_y 250) (qa_code 250) (qa_mL 250) (qa_ret 250) ∈ lw_tbl := qa_in7 (List.mem_of_getElem? (i := 210) rfl)
set_option maxRecDepth 20000 in
theorem qa_cd251 : Cond.code (qa_y 251) (qa_code 251) (qa_mL 251) (qa_ret 251) ∈ lw_tbl := qa_in8 (List.mem_of_getElem? (i := 12) rfl)
set_option maxRecDepth 20000 in
theorem qa_cd252 : Cond.code (qa_y 252) (qa_code 252) (qa_mL 252) (qa_ret 252) ∈ lw_tbl := qa_in8 (List.mem_of_getElem? (i := 16) rfl)
set_option maxRecDepth 20000 in
theorem qa_cd253 : Cond.code (qa_y 253) (qa_code 253) (qa_mL 253) (qa_ret 253) ∈ lw_tbl := qa_in7 (List.mem_of_getElem? (i := 206) rfl)
set_option maxRecDepth 20000 in
theorem qa_cd254 : Cond.code (qa_y 254) (qa_code 254) (qa_mL 254) (qa_ret 254) ∈ lw_tbl := qa_in8 (List.mem_of_getElem? (i := 28) rfl)
set_option maxRecDepth 20000 in
theorem qa_cd255 : Cond.code (qa_y 255) (qa_code 255) (qa_mL 255) (qa_ret 255) ∈ lw_tbl := qa_in7 (List.mem_of_getElem? (i := 202) rfl)
set_option maxRecDepth 20000 in
theorem qa_cd256 : Cond.code (qa_y 256) (qa_code 256) (qa_mL 256) (qa_ret 256) ∈ lw_tbl := qa_in8 (List.mem_of_getElem? (i := 24) rfl)
set_option maxRecDepth 20000 in
theorem qa_cd257 : Cond.code (qa_y 257) (qa_code 257) (qa_mL 257) (qa_ret 257) ∈ lw_tbl := qa_in8 (List.mem_of_getElem? (i := 32) rfl)
set_option maxRecDepth 20000 in
theorem qa_cd258 : Cond.code (qa_y 258) (qa_code 258) (qa_mL 258) (qa_ret 258) ∈ lw_tbl := qa_in8 (List.mem_of_getElem? (i := 40) rfl)
set_option maxRecDepth 20000 in
theorem qa_cd259 : Cond.code (qa_y 259) (qa_code 259) (qa_mL 259) (qa_ret 259) ∈ lw_tbl := qa_in8 (List.mem_of_getElem? (i := 36) rfl)
set_option maxRecDepth 20000 in
theorem qa_cd260 : Cond.code (qa_y 260) (qa_code 260) (qa_mL 260) (qa_ret 260) ∈ lw_tbl := qa_in8 (List.mem_of_getElem? (i := 47) rfl)
set_option maxRecDepth 20000 in
theorem qa_cd261 : Cond.code (qa_y 261) (qa_code 261) (qa_mL 261) (qa_ret 261) ∈ lw_tbl := qa_in8 (List.mem_of_getElem? (i := 44) rfl)
set_option maxRecDepth 20000 in
theorem qa_cd262 : Cond.code (qa_y 262) (qa_code 262) (qa_mL 262) (qa_ret 262) ∈ lw_tbl := qa_in8 (List.mem_of_getElem? (i := 55) rfl)
set_option maxRecDepth 20000 in
theorem qa_cd263 : Cond.code (qa_y 263) (qa_code 263) (qa_mL 263) (qa_ret 263) ∈ lw_tbl := qa_in8 (List.mem_of_getElem? (i := 51) rfl)
set_option maxRecDepth 20000 in
theorem qa_cd264 : Cond.code (qa_y 264) (qa_code 264) (qa_mL 264) (qa_ret 264) ∈ lw_tbl := qa_in8 (List.mem_of_getElem? (i := 59) rfl)
set_option maxRecDepth 20000 in
theorem qa_cd265 : Cond.code (qa_y 265) (qa_code 265) (qa_mL 265) (qa_ret 265) ∈ lw_tbl := qa_in8 (List.mem_of_getElem? (i := 71) rfl)
set_option maxRecDepth 20000 in
theorem qa_cd266 : Cond.code (qa_y 266) (qa_code 266) (qa_mL 266) (qa_ret 266) ∈ lw_tbl := qa_in8 (List.mem_of_getElem? (i := 83) rfl)
set_option maxRecDepth 20000 in
theorem qa_cd267 : Cond.code (qa_y 267) (qa_code 267) (qa_mL 267) (qa_ret 267) ∈ lw_tbl := qa_in8 (List.mem_of_getElem? (i := 79) rfl)
set_option maxRecDepth 20000 in
theorem qa_cd268 : Cond.code (qa_y 268) (qa_code 268) (qa_mL 268) (qa_ret 268) ∈ lw_tbl := qa_in8 (List.mem_of_getElem? (i := 75) rfl)
set_option maxRecDepth 20000 in
theorem qa_cd269 : Cond.code (qa_y 269) (qa_code 269) (qa_mL 269) (qa_ret 269) ∈ lw_tbl := qa_in8 (List.mem_of_getElem? (i := 67) rfl)
set_option maxRecDepth 20000 in
theorem qa_cd270 : Cond.code (qa_y 270) (qa_code 270) (qa_mL 270) (qa_ret 270) ∈ lw_tbl := qa_in8 (List.mem_of_getElem? (i := 63) rfl)
set_option maxRecDepth 20000 in
theorem qa_cd271 : Cond.code (qa_y 271) (qa_code 271) (qa_mL 271) (qa_ret 271) ∈ lw_tbl := qa_in8 (List.mem_of_getElem? (i := 87) rfl)
set_option maxRecDepth 20000 in
theorem qa_cd272 : Cond.code (qa_y 272) (qa_code 272) (qa_mL 272) (qa_ret 272) ∈ lw_tbl := qa_in8 (List.mem_of_getElem? (i := 92) rfl)
set_option maxRecDepth 20000 in
theorem qa_cd273 : Cond.code (qa_y 273) (qa_code 273) (qa_mL 273) (qa_ret 273) ∈ lw_tbl := qa_in8 (List.mem_of_getElem? (i := 101) rfl)
set_option maxRecDepth 20000 in
theorem qa_cd274 : Cond.code (qa_y 274) (qa_code 274) (qa_mL 274) (qa_ret 274) ∈ lw_tbl := qa_in8 (List.mem_of_getElem? (i := 96) rfl)
set_option maxRecDepth 20000 in
theorem qa_cd275 : Cond.code (qa_y 275) (qa_code 275) (qa_mL 275) (qa_ret 275) ∈ lw_tbl := qa_in8 (List.mem_of_getElem? (i := 113) rfl)
set_option maxRecDepth 20000 in
theorem qa_cd276 : Cond.code (qa_y 276) (qa_code 276) (qa_mL 276) (qa_ret 276) ∈ lw_tbl := qa_in8 (List.mem_of_getElem? (i := 109) rfl)
set_option maxRecDepth 20000 in
theorem qa_cd277 : Cond.code (qa_y 277) (qa_code 277) (qa_mL 277) (qa_ret 277) ∈ lw_tbl := qa_in8 (List.mem_of_getElem? (i := 105) rfl)
set_option maxRecDepth 20000 in
theorem qa_cd278 : Cond.code (qa_y 278) (qa_code 278) (qa_mL 278) (qa_ret 278) ∈ lw_tbl := qa_in8 (List.mem_of_getElem? (i := 121) rfl)
set_option maxRecDepth 20000 in
theorem qa_cd279 : Cond.code (qa_y 279) (qa_code 279) (qa_mL 279) (qa_ret 279) ∈ lw_tbl := qa_in8 (List.mem_of_getElem? (i := 125) rfl)
set_option maxRecDepth 20000 in
theorem qa_cd280 : Cond.code (qa_y 280) (qa_code 280) (qa_mL 280) (qa_ret 280) ∈ lw_tbl := qa_in8 (List.mem_of_getElem? (i := 117) rfl)
set_option maxRecDepth 20000 in
theorem qa_cd281 : Cond.code (qa_y 281) (qa_code 281) (qa_mL 281) (qa_ret 281) ∈ lw_tbl := qa_in8 (List.mem_of_getElem? (i := 129) rfl)
set_option maxRecDepth 20000 in
theorem qa_cd282 : Cond.code (qa_y 282) (qa_code 282) (qa_mL 282) (qa_ret 282) ∈ lw_tbl := qa_in8 (List.mem_of_getElem? (i := 133) rfl)
set_option maxRecDepth 20000 in
theorem qa_cd283 : Cond.code (qa_y 283) (qa_code 283) (qa_mL 283) (qa_ret 283) ∈ lw_tbl := qa_in8 (List.mem_of_getElem? (i := 141) rfl)
set_option maxRecDepth 20000 in
theorem qa_cd284 : Cond.code (qa_y 284) (qa_code 284) (qa_mL 284) (qa_ret 284) ∈ lw_tbl := qa_in8 (List.mem_of_getElem? (i := 137) rfl)
set_option maxRecDepth 20000 in
theorem qa_cd285 : Cond.code (qa_y 285) (qa_code 285) (qa_mL 285) (qa_ret 285) ∈ lw_tbl := qa_in8 (List.mem_of_getElem? (i := 146) rfl)
set_option maxRecDepth 20000 in
theorem qa_cd286 : Cond.code (qa_y 286) (qa_code 286) (qa_mL 286) (qa_ret 286) ∈ lw_tbl := qa_in8 (List.mem_of_getElem? (i := 150) rfl)
set_option maxRecDepth 20000 in
theorem qa_cd287 : Cond.code (qa_y 287) (qa_code 287) (qa_mL 287) (qa_ret 287) ∈ lw_tbl := qa_in8 (List.mem_of_getElem? (i := 162) rfl)
set_option maxRecDepth 20000 in
theorem qa_cd288 : Cond.code (qa_y 288) (qa_code 288) (qa_mL 288) (qa_ret 288) ∈ lw_tbl := qa_in8 (List.mem_of_getElem? (i := 158) rfl)
set_option maxRecDepth 20000 in
theorem qa_cd289 : Cond.code (qa_y 289) (qa_code 289) (qa_mL 289) (qa_ret 289) ∈ lw_tbl := qa_in8 (List.mem_of_getElem? (i := 154) rfl)
set_option maxRecDepth 20000 in
theorem qa_cd290 : Cond.code (qa_y 290) (qa_code 290) (qa_mL 290) (qa_ret 290) ∈ lw_tbl := qa_in8 (List.mem_of_getElem? (i := 166) rfl)
set_option maxRecDepth 20000 in
theorem qa_cd291 : Cond.code (qa_y 291) (qa_code 291) (qa_mL 291) (qa_ret 291) ∈ lw_tbl := qa_in8 (List.mem_of_getElem? (i := 170) rfl)
set_option maxRecDepth 20000 in
theorem qa_cd292 : Cond.code (qa_y 292) (qa_code 292) (qa_mL 292) (qa_ret 292) ∈ lw_tbl := qa_in8 (List.mem_of_getElem? (i := 178) rfl)
set_option maxRecDepth 20000 in
theorem qa_cd293 : Cond.code (qa_y 293) (qa_code 293) (qa_mL 293) (qa_ret 293) ∈ lw_tbl := qa_in8 (List.mem_of_getElem? (i := 174) rfl)
set_option maxRecDepth 20000 in
theorem qa_cd294 : Cond.code (qa_y 294) (qa_code 294) (qa_mL 294) (qa_ret 294) ∈ lw_tbl := qa_in8 (List.mem_of_getElem? (i := 186) rfl)
set_option maxRecDepth 20000 in
theorem qa_cd295 : Cond.code (qa_y 295) (qa_code 295) (qa_mL 295) (qa_ret 295) ∈ lw_tbl := qa_in8 (List.mem_of_getElem? (i := 182) rfl)
set_option maxRecDepth 20000 in
theorem qa_cd296 : Cond.code (qa_y 296) (qa_code 296) (qa_mL 296) (qa_ret 296) ∈ lw_tbl := qa_in8 (List.mem_of_getElem? (i := 194) rfl)
set_option maxRecDepth 20000 in
theorem qa_cd297 : Cond.code (qa_y 297) (qa_code 297) (qa_mL 297) (qa_ret 297) ∈ lw_tbl := qa_in8 (List.mem_of_getElem? (i := 190) rfl)
set_option maxRecDepth 20000 in
theorem qa_cd298 : Cond.code (qa_y 298) (qa_code 298) (qa_mL 298) (qa_ret 298) ∈ lw_tbl := qa_in8 (List.mem_of_getElem? (i := 202) rfl)
set_option maxRecDepth 20000 in
theorem qa_cd299 : Cond.code (qa_y 299) (qa_code 299) (qa_mL 299) (qa_ret 299) ∈ lw_tbl := qa_in8 (List.mem_of_getElem? (i := 198) rfl)
set_option maxRecDepth 20000 in
theorem qa_cd300 : Cond.code (qa_y 300) (qa_code 300) (qa_mL 300) (qa_ret 300) ∈ lw_tbl := qa_in8 (List.mem_of_getElem? (i := 214) rfl)
set_option maxRecDepth 20000 in
theorem qa_cd301 : Cond.code (qa_y 301) (qa_code 301) (qa_mL 301) (qa_ret 301) ∈ lw_tbl := qa_in8 (List.mem_of_getElem? (i := 210) rfl)
set_option maxRecDepth 20000 in
theorem qa_cd302 : Cond.code (qa_y 302) (qa_code 302) (qa_mL 302) (qa_ret 302) ∈ lw_tbl := qa_in8 (List.mem_of_getElem? (i := 206) rfl)
set_option maxRecDepth 20000 in
theorem qa_cd303 : Cond.code (qa_y 303) (qa_code 303) (qa_mL 303) (qa_ret 303) ∈ lw_tbl := qa_in8 (List.mem_of_getElem? (i := 222) rfl)
set_option maxRecDepth 20000 in
theorem qa_cd304 : Cond.code (qa_y 304) (qa_code 304) (qa_mL 304) (qa_ret 304) ∈ lw_tbl := qa_in8 (List.mem_of_getElem? (i := 218) rfl)
set_option maxRecDepth 20000 in
theorem qa_cd305 : Cond.code (qa_y 305) (qa_code 305) (qa_mL 305) (qa_ret 305) ∈ lw_tbl := qa_in8 (List.mem_of_getElem? (i := 229) rfl)
set_option maxRecDepth 20000 in
theorem qa_cd306 : Cond.code (qa_y 306) (qa_code 306) (qa_mL 306) (qa_ret 306) ∈ lw_tbl := qa_in8 (List.mem_of_getElem? (i := 226) rfl)
set_option maxRecDepth 20000 in
theorem qa_cd307 : Cond.code (qa_y 307) (qa_code 307) (qa_mL 307) (qa_ret 307) ∈ lw_tbl := qa_in8 (List.mem_of_getElem? (i := 233) rfl)
set_option maxRecDepth 20000 in
theorem qa_cd308 : Cond.code (qa_y 308) (qa_code 308) (qa_mL 308) (qa_ret 308) ∈ lw_tbl := qa_in9 (List.mem_of_getElem? (i := 1) rfl)
set_option maxRecDepth 20000 in
theorem qa_cd309 : Cond.code (qa_y 309) (qa_code 309) (qa_mL 309) (qa_ret 309) ∈ lw_tbl := qa_in8 (List.mem_of_getElem? (i := 237) rfl)
set_option maxRecDepth 20000 in
theorem qa_cd310 : Cond.code (qa_y 310) (qa_code 310) (qa_mL 310) (qa_ret 310) ∈ lw_tbl := qa_in9 (List.mem_of_getElem? (i := 5) rfl)
set_option maxRecDepth 20000 in
theorem qa_cd311 : Cond.code (qa_y 311) (qa_code 311) (qa_mL 311) (qa_ret 311) ∈ lw_tbl := qa_in9 (List.mem_of_getElem? (i := 9) rfl)
set_option maxRecDepth 20000 in
theorem qa_cd312 : Cond.code (qa_y 312) (qa_code 312) (qa_mL 312) (qa_ret 312) ∈ lw_tbl := qa_in9 (List.mem_of_getElem? (i := 13) rfl)
set_option maxRecDepth 20000 in
theorem qa_cd313 : Cond.code (qa_y 313) (qa_code 313) (qa_mL 313) (qa_ret 313) ∈ lw_tbl := qa_in9 (List.mem_of_getElem? (i := 17) rfl)
theorem qa_cdr0 : ∀ c, 0 ≤ c → c < 20 → Cond.code (qa_y c) (qa_code c) (qa_mL c) (qa_ret c) ∈ lw_tbl := by
  intro c h1 h2
  rcases (show c = 0 ∨ c = 1 ∨ c = 2 ∨ c = 3 ∨ c = 4 ∨ c = 5 ∨ c = 6 ∨ c = 7 ∨ c = 8 ∨ c = 9 ∨ c = 10 ∨ c = 11 ∨ c = 12 ∨ c = 13 ∨ c = 14 ∨ c = 15 ∨ c = 16 ∨ c = 17 ∨ c = 18 ∨ c = 19 by omega) with rfl | rfl | rfl | rfl | rfl | rfl | rfl | rfl | rfl | rfl | rfl | rfl | rfl | rfl | rfl | rfl | rfl | rfl | rfl | rfl
  · exact qa_cd0
  · exact qa_cd1
  · exact qa_cd2
  · exact qa_cd3
  · exact qa_cd4
  · exact qa_cd5
  · exact qa_cd6
  · exact qa_cd7
  · exact qa_cd8
  · exact qa_cd9
  · exact qa_cd10
  · exact qa_cd11
  · exact qa_cd12
  · exact qa_cd13
  · exact qa_cd14
  · exact qa_cd15
  · exact qa_cd16
  · exact qa_cd17
  · exact qa_cd18
  · exact qa_cd19
theorem qa_cdr1 : ∀ c, 20 ≤ c → c < 40 → Cond.code (qa_y c) (qa_code c) (qa_mL c) (qa_ret c) ∈ lw_tbl := by
  intro c h1 h2
  rcases (show c = 20 ∨ c = 21 ∨ c = 22 ∨ c = 23 ∨ c = 24 ∨ c = 25 ∨ c = 26 ∨ c = 27 ∨ c = 28 ∨ c = 29 ∨ c = 30 ∨ c = 31 ∨ c = 32 ∨ c = 33 ∨ c = 34 ∨ c = 35 ∨ c = 36 ∨ c = 37 ∨ c = 38 ∨ c = 39 by omega) with rfl | rfl | rfl | rfl | rfl | rfl | rfl | rfl | rfl | rfl | rfl | rfl | rfl | rfl | rfl | rfl | rfl | rfl | rfl | rfl
  · exact qa_cd20
  · exact qa_cd21
  · exact qa_cd22
  · exact qa_cd23
  · exact qa_cd24
  · exact qa_cd25
  · exact qa_cd26
  · exact qa_cd27
  · exact qa_cd28
  · exact qa_cd29
  · exact qa_cd30
  · exact qa_cd31
  · exact qa_cd32
  · exact qa_cd33
  · exact qa_cd34
  · exact qa_cd35
  · exact qa_cd36
  · exact qa_cd37
  · exact qa_cd38
  · exact qa_cd39
theorem qa_cdr2 : ∀ c, 40 ≤ c → c < 60 → Cond.code (qa_y c) (qa_code c) (qa_mL c) (qa_ret c) ∈ lw_tbl := by
  intro c h1 h2
  rcases (show c = 40 ∨ c = 41 ∨ c = 42 ∨ c = 43 ∨ c = 44 ∨ c = 45 ∨ c = 46 ∨ c = 47 ∨ c = 48 ∨ c = 49 ∨ c = 50 ∨ c = 51 ∨ c = 52 ∨ c = 53 ∨ c = 54 ∨ c = 55 ∨ c = 56 ∨ c = 57 ∨ c = 58 ∨ c = 59 by omega) with rfl | rfl | rfl | rfl | rfl | rfl | rfl | rfl | rfl | rfl | rfl | rfl | rfl | rfl | rfl | rfl | rfl | rfl | rfl | rfl
  · exact qa_cd40
  · exact qa_cd41
  · exact qa_cd42
  · exact qa_cd43
  · exact qa_cd44
  · exact qa_cd45
  · exact qa_cd46
  · exact qa_cd47
  · exact qa_cd48
  · exact qa_cd49
  · exact qa_cd50
  · exact qa_cd51
  · exact qa_cd52
  · exact qa_cd53
  · exact qa_cd54
  · exact qa_cd55
  · exact qa_cd56
  · exact qa_cd57
  · exact qa_cd58
  · exact qa_cd59
theorem qa_cdr3 : ∀ c, 60 ≤ c → c < 80 → Cond.code (qa_y c) (qa_code c) (qa_mL c) (qa_ret c) ∈ lw_tbl := by
  intro c h1 h2
  rcases (show c = 60 ∨ c = 61 ∨ c = 62 ∨ c = 63 ∨ c = 64 ∨ c = 65 ∨ c = 66 ∨ c = 67 ∨ c = 68 ∨ c = 69 ∨ c = 70 ∨ c = 71 ∨ c = 72 ∨ c = 73 ∨ c = 74 ∨ c = 75 ∨ c = 76 ∨ c = 77 ∨ c = 78 ∨ c = 79 by omega) with rfl | rfl | rfl | rfl | rfl | rfl | rfl | rfl | rfl | rfl | rfl | rfl | rfl | rfl | rfl | rfl | rfl | rfl | rfl | rfl
  · exact qa_cd60
  · exact qa_cd61
  · exact qa_cd62
  · exact qa_cd63
  · exact qa_cd64
  · exact qa_cd65
  · exact qa_cd66
  · exact qa_cd67
  · exact qa_cd68
  · exact qa_cd69
  · exact qa_cd70
  · exact qa_cd71
  · exact qa_cd72
  · exact qa_cd73
  · exact qa_cd74
  · exact qa_cd75
  · exact qa_cd76
  · exact qa_cd77
  · exact qa_cd78
  · exact qa_cd79
theorem qa_cdr4 : ∀ c, 80 ≤ c → c < 100 → Cond.code (qa_y c) (qa_code c) (qa_mL c) (qa_ret c) ∈ lw_tbl := by
  intro c h1 h2
  rcases (show c = 80 ∨ c = 81 ∨ c = 82 ∨ c = 83 ∨ c = 84 ∨ c = 85 ∨ c = 86 ∨ c = 87 ∨ c = 88 ∨ c = 89 ∨ c = 90 ∨ c = 91 ∨ c = 92 ∨ c = 93 ∨ c = 94 ∨ c = 95 ∨ c = 96 ∨ c = 97 ∨ c = 98 ∨ c = 99 by omega) with rfl | rfl | rfl | rfl | rfl | rfl | rfl | rfl | rfl | rfl | rfl | rfl | rfl | rfl | rfl | rfl | rfl | rfl | rfl | rfl
  · exact qa_cd80
  · exact qa_cd81
  · exact qa_cd82
  · exact qa_cd83
  · exact qa_cd84
  · exact qa_cd85
  · exact qa_cd86
  · exact qa_cd87
  · exact qa_cd88
  · exact qa_cd89
  · exact qa_cd90
  · exact qa_cd91
  · exact qa_cd92
  · exact qa_cd93
  · exact qa_cd94
  · exact qa_cd95
  · exact qa_cd96
  · exact qa_cd97
  · exact qa_cd98
  · exact qa_cd99
theorem qa_cdr5 : ∀ c, 100 ≤ c → c < 120 → Cond.code (qa_y c) (qa_code c) (qa_mL c) (qa_ret c) ∈ lw_tbl := by
  intro c h1 h2
  rcases (show c = 100 ∨ c = 101 ∨ c = 102 ∨ c = 103 ∨ c = 104 ∨ c = 105 ∨ c = 106 ∨ c = 107 ∨ c = 108 ∨ c = 109 ∨ c = 110 ∨ c = 111 ∨ c = 112 ∨ c = 113 ∨ c = 114 ∨ c = 115 ∨ c = 116 ∨ c = 117 ∨ c = 118 ∨ c = 119 by omega) with rfl | rfl | rfl | rfl | rfl | rfl | rfl | rfl | rfl | rfl | rfl | rfl | rfl | rfl | rfl | rfl | rfl | rfl | rfl | rfl
  · exact qa_cd100
  · exact qa_cd101
  · exact qa_cd102
  · exact qa_cd103
  · exact qa_cd104
  · exact qa_cd105
  · exact qa_cd106
  · exact qa_cd107
  · exact qa_cd108
  · exact qa_cd109
  · exact qa_cd110
  · exact qa_cd111
  · exact qa_cd112
  · exact qa_cd113
  · exact qa_cd114
  · exact qa_cd115
  · exact qa_cd116
  · exact qa_cd117
  · exact qa_cd118
  · exact qa_cd119
theorem qa_cdr6 : ∀ c, 120 ≤ c → c < 140 → Cond.code (qa_y c) (qa_code c) (qa_mL c) (qa_ret c) ∈ lw_tbl := by
  intro c h1 h2
  rcases (show c = 120 ∨ c = 121 ∨ c = 122 ∨ c = 123 ∨ c = 124 ∨ c = 125 ∨ c = 126 ∨ c = 127 ∨ c = 128 ∨ c = 129 ∨ c = 130 ∨ c = 131 ∨ c = 132 ∨ c = 133 ∨ c = 134 ∨ c = 135 ∨ c = 136 ∨ c = 137 ∨ c = 138 ∨ c = 139 by omega) with rfl | rfl | rfl | rfl | rfl | rfl | rfl | rfl | rfl | rfl | rfl | rfl | rfl | rfl | rfl | rfl | rfl | rfl | rfl | rfl
  · exact qa_cd120
  · exact qa_cd121
  · exact qa_cd122
  · exact qa_cd123
  · exact qa_cd124
  · exact qa_cd125
  · exact qa_cd126
  · exact qa_cd127
  · exact qa_cd128
  · exact qa_cd129
  · exact qa_cd130
  · exact qa_cd131
  · exact qa_cd132
  · exact qa_cd133
  · exact qa_cd134
  · exact qa_cd135
  · exact qa_cd136
  · exact qa_cd137
  · exact qa_cd138
  · exact qa_cd139
theorem qa_cdr7 : ∀ c, 140 ≤ c → c < 160 → Cond.code (qa_y c) (qa_code c) (qa_mL c) (qa_ret c) ∈ lw_tbl := by
  intro c h1 h2
  rcases (show c = 140 ∨ c = 141 ∨ c = 142 ∨ c = 143 ∨ c = 144 ∨ c = 145 ∨ c = 146 ∨ c = 147 ∨ c = 148 ∨ c = 149 ∨ c = 150 ∨ c = 151 ∨ c = 152 ∨ c = 153 ∨ c = 154 ∨ c = 155 ∨ c = 156 ∨ c = 157 ∨ c = 158 ∨ c = 159 by omega) with rfl | rfl | rfl | rfl | rfl | rfl | rfl | rfl | rfl | rfl | rfl | rfl | rfl | rfl | rfl | rfl | rfl | rfl | rfl | rfl
  · exact qa_cd140
  · exact qa_cd141
  · exact qa_cd142
  · exact qa_cd143
  · exact qa_cd144
  · exact qa_cd145
  · exact qa_cd146
  · exact qa_cd147
  · exact qa_cd148
  · exact qa_cd149
  · exact qa_cd150
  · exact qa_cd151
  · exact qa_cd152
  · exact qa_cd153
  · exact qa_cd154
  · exact qa_cd155
  · exact qa_cd156
  · exact qa_cd157
  · exact qa_cd158
  · exact qa_cd159
theorem qa_cdr8 : ∀ c, 160 ≤ c → c < 180 → Cond.code (qa_y c) (qa_code c) (qa_mL c) (qa_ret c) ∈ lw_tbl := by
  intro c h1 h2
  rcases (show c = 160 ∨ c = 161 ∨ c = 162 ∨ c = 163 ∨ c = 164 ∨ c = 165 ∨ c = 166 ∨ c = 167 ∨ c = 168 ∨ c = 169 ∨ c = 170 ∨ c = 171 ∨ c = 172 ∨ c = 173 ∨ c = 174 ∨ c = 175 ∨ c = 176 ∨ c = 177 ∨ c = 178 ∨ c = 179 by omega) with rfl | rfl | rfl | rfl | rfl | rfl | rfl | rfl | rfl | rfl | rfl | rfl | rfl | rfl | rfl | rfl | rfl | rfl | rfl | rfl
  · exact qa_cd160
  · exact qa_cd161
  · exact qa_cd162
  · exact qa_cd163
  · exact qa_cd164
  · exact qa_cd165
  · exact qa_cd166
  · exact qa_cd167
  · exact qa_cd168
  · exact qa_cd169
  · exact qa_cd170
  · exact qa_cd171
  · exact qa_cd172
  · exact qa_cd173
  · exact qa_cd174
  · exact qa_cd175
  · exact qa_cd176
  · exact qa_cd177
  · exact qa_cd178
  · exact qa_cd179
theorem qa_cdr9 : ∀ c, 180 ≤ c → c < 200 → Cond.code (qa_y c) (qa_code c) (qa_mL c) (qa_ret c) ∈ lw_tbl := by
  intro c h1 h2
  rcases (show c = 180 ∨ c = 181 ∨ c = 182 ∨ c = 183 ∨ c = 184 ∨ c = 185 ∨ c = 186 ∨ c = 187 ∨ c = 188 ∨ c = 189 ∨ c = 190 ∨ c = 191 ∨ c = 192 ∨ c = 193 ∨ c = 194 ∨ c = 195 ∨ c = 196 ∨ c = 197 ∨ c = 198 ∨ c = 199 by omega) with rfl | rfl | rfl | rfl | rfl | rfl | rfl | rfl | rfl | rfl | rfl | rfl | rfl | rfl | rfl | rfl | rfl | rfl | rfl | rfl
  · exact qa_cd180
  · exact qa_cd181
  · exact qa_cd182
  · exact qa_cd183
  · exact qa_cd184
  · exact qa_cd185
  · exact qa_cd186
  · exact qa_cd187
  · exact qa_cd188
  · exact qa_cd189
  · exact qa_cd190
  · exact qa_cd191
  · exact qa_cd192
  · exact qa_cd193
  · exact qa_cd194
  · exact qa_cd195
  · exact qa_cd196
  · exact qa_cd197
  · exact qa_cd198
  · exact qa_cd199
theorem qa_cdr10 : ∀ c, 200 ≤ c → c < 220 → Cond.code (qa_y c) (qa_code c) (qa_mL c) (qa_ret c) ∈ lw_tbl := by
  intro c h1 h2
  rcases (show c = 200 ∨ c = 201 ∨ c = 202 ∨ c = 203 ∨ c = 204 ∨ c = 205 ∨ c = 206 ∨ c = 207 ∨ c = 208 ∨ c = 209 ∨ c = 210 ∨ c = 211 ∨ c = 212 ∨ c = 213 ∨ c = 214 ∨ c = 215 ∨ c = 216 ∨ c = 217 ∨ c = 218 ∨ c = 219 by omega) with rfl | rfl | rfl | rfl | rfl | rfl | rfl | rfl | rfl | rfl | rfl | rfl | rfl | rfl | rfl | rfl | rfl | rfl | rfl | rfl
  · exact qa_cd200
  · exact qa_cd201
  · exact qa_cd202
  · exact qa_cd203
  · exact qa_cd204
  · exact qa_cd205
  · exact qa_cd206
  · exact qa_cd207
  · exact qa_cd208
  · exact qa_cd209
  · exact qa_cd210
  · exact qa_cd211
  · exact qa_cd212
  · exact qa_cd213
  · exact qa_cd214
  · exact qa_cd215
  · exact qa_cd216
  · exact qa_cd217
  · exact qa_cd218
  · exact qa_cd219
theorem qa_cdr11 : ∀ c, 220 ≤ c → c < 240 → Cond.code (qa_y c) (qa_code c) (qa_mL c) (qa_ret c) ∈ lw_tbl := by
  intro c h1 h2
  rcases (show c = 220 ∨ c = 221 ∨ c = 222 ∨ c = 223 ∨ c = 224 ∨ c = 225 ∨ c = 226 ∨ c = 227 ∨ c = 228 ∨ c = 229 ∨ c = 230 ∨ c = 231 ∨ c = 232 ∨ c = 233 ∨ c = 234 ∨ c = 235 ∨ c = 236 ∨ c = 237 ∨ c = 238 ∨ c = 239 by omega) with rfl | rfl | rfl | rfl | rfl | rfl | rfl | rfl | rfl | rfl | rfl | rfl | rfl | rfl | rfl | rfl | rfl | rfl | rfl | rfl
  · exact qa_cd220
  · exact qa_cd221
  · exact qa_cd222
  · exact qa_cd223
  · exact qa_cd224
  · exact qa_cd225
  · exact qa_cd226
  · exact qa_cd227
  · exact qa_cd228
  · exact qa_cd229
  · exact qa_cd230
  · exact qa_cd231
  · exact qa_cd232
  · exact qa_cd233
  · exact qa_cd234
  · exact qa_cd235
  · exact qa_cd236
  · exact qa_cd237
  · exact qa_cd238
  · exact qa_cd239
theorem qa_cdr12 : ∀ c, 240 ≤ c → c < 260 → Cond.code (qa_y c) (qa_code c) (qa_mL c) (qa_ret c) ∈ lw_tbl := by
  intro c h1 h2
  rcases (show c = 240 ∨ c = 241 ∨ c = 242 ∨ c = 243 ∨ c = 244 ∨ c = 245 ∨ c = 246 ∨ c = 247 ∨ c = 248 ∨ c = 249 ∨ c = 250 ∨ c = 251 ∨ c = 252 ∨ c = 253 ∨ c = 254 ∨ c = 255 ∨ c = 256 ∨ c = 257 ∨ c = 258 ∨ c = 259 by omega) with rfl | rfl | rfl | rfl | rfl | rfl | rfl | rfl | rfl | rfl | rfl | rfl | rfl | rfl | rfl | rfl | rfl | rfl | rfl | rfl
  · exact qa_cd240
  · exact qa_cd241
  · exact qa_cd242
  · exact qa_cd243
  · exact qa_cd244
  · exact qa_cd245
  · exact qa_cd246
  · exact qa_cd247
  · exact qa_cd248
  · exact qa_cd249
  · exact qa_cd250
  · exact qa_cd251
  · exact qa_cd252
  · exact qa_cd253
  · exact qa_cd254
  · exact qa_cd255
  · exact qa_cd256
  · exact qa_cd257
  · exact qa_cd258
  · exact qa_cd259
theorem qa_cdr13 : ∀ c, 260 ≤ c → c < 280 → Cond.code (qa_y c) (qa_code c) (qa_mL c) (qa_ret c) ∈ lw_tbl := by
  intro c h1 h2
  rcases (show c = 260 ∨ c = 261 ∨ c = 262 ∨ c = 263 ∨ c = 264 ∨ c = 265 ∨ c = 266 ∨ c = 267 ∨ c = 268 ∨ c = 269 ∨ c = 270 ∨ c = 271 ∨ c = 272 ∨ c = 273 ∨ c = 274 ∨ c = 275 ∨ c = 276 ∨ c = 277 ∨ c = 278 ∨ c = 279 by omega) with rfl | rfl | rfl | rfl | rfl | rfl | rfl | rfl | rfl | rfl | rfl | rfl | rfl | rfl | rfl | rfl | rfl | rfl | rfl | rfl
  · exact qa_cd260
  · exact qa_cd261
  · exact qa_cd262
  · exact qa_cd263
  · exact qa_cd264
  · exact qa_cd265
  · exact qa_cd266
  · exact qa_cd267
  · exact qa_cd268
  · exact qa_cd269
  · exact qa_cd270
  · exact qa_cd271
  · exact qa_cd272
  · exact qa_cd273
  · exact qa_cd274
  · exact qa_cd275
  · exact qa_cd276
  · exact qa_cd277
  · exact qa_cd278
  · exact qa_cd279
theorem qa_cdr14 : ∀ c, 280 ≤ c → c < 300 → Cond.code (qa_y c) (qa_code c) (qa_mL c) (qa_ret c) ∈ lw_tbl := by
  intro c h1 h2
  rcases (show c = 280 ∨ c = 281 ∨ c = 282 ∨ c = 283 ∨ c = 284 ∨ c = 285 ∨ c = 286 ∨ c = 287 ∨ c = 288 ∨ c = 289 ∨ c = 290 ∨ c = 291 ∨ c = 292 ∨ c = 293 ∨ c = 294 ∨ c = 295 ∨ c = 296 ∨ c = 297 ∨ c = 298 ∨ c = 299 by omega) with rfl | rfl | rfl | rfl | rfl | rfl | rfl | rfl | rfl | rfl | rfl | rfl | rfl | rfl | rfl | rfl | rfl | rfl | rfl | rfl
  · exact qa_cd280
  · exact qa_cd281
  · exact qa_cd282
  · exact qa_cd283
  · exact qa_cd284
  · exact qa_cd285
  · exact qa_cd286
  · exact qa_cd287
  · exact qa_cd288
  · exact qa_cd289
  · exact qa_cd290
  · exact qa_cd291
  · exact qa_cd292
  · exact qa_cd293
  · exact qa_cd294
  · exact qa_cd295
  · exact qa_cd296
  · exact qa_cd297
  · exact qa_cd298
  · exact qa_cd299
theorem qa_cdr15 : ∀ c, 300 ≤ c → c < 314 → Cond.code (qa_y c) (qa_code c) (qa_mL c) (qa_ret c) ∈ lw_tbl := by
  intro c h1 h2
  rcases (show c = 300 ∨ c = 301 ∨ c = 302 ∨ c = 303 ∨ c = 304 ∨ c = 305 ∨ c = 306 ∨ c = 307 ∨ c = 308 ∨ c = 309 ∨ c = 310 ∨ c = 311 ∨ c = 312 ∨ c = 313 by omega) with rfl | rfl | rfl | rfl | rfl | rfl | rfl | rfl | rfl | rfl | rfl | rfl | rfl | rfl
  · exact qa_cd300
  · exact qa_cd301
  · exact qa_cd302
  · exact qa_cd303
  · exact qa_cd304
  · exact qa_cd305
  · exact qa_cd306
  · exact qa_cd307
  · exact qa_cd308
  · exact qa_cd309
  · exact qa_cd310
  · exact qa_cd311
  · exact qa_cd312
  · exact qa_cd313
theorem qa_cd : ∀ c, c < 314 → Cond.code (qa_y c) (qa_code c) (qa_mL c) (qa_ret c) ∈ qa_W := by
  intro c h
  refine List.mem_filter.mpr ⟨?_, rfl⟩
  rcases (show c / 20 = 0 ∨ c / 20 = 1 ∨ c / 20 = 2 ∨ c / 20 = 3 ∨ c / 20 = 4 ∨ c / 20 = 5 ∨ c / 20 = 6 ∨ c / 20 = 7 ∨ c / 20 = 8 ∨ c / 20 = 9 ∨ c / 20 = 10 ∨ c / 20 = 11 ∨ c / 20 = 12 ∨ c / 20 = 13 ∨ c / 20 = 14 ∨ c / 20 = 15 by omega) with q | q | q | q | q | q | q | q | q | q | q | q | q | q | q | q
  · exact qa_cdr0 c (by omega) (by omega)
  · exact qa_cdr1 c (by omega) (by omega)
  · exact qa_cdr2 c (by omega) (by omega)
  · exact qa_cdr3 c (by omega) (by omega)
  · exact qa_cdr4 c (by omega) (by omega)
  · exact qa_cdr5 c (by omega) (by omega)
  · exact qa_cdr6 c (by omega) (by omega)
  · exact qa_cdr7 c (by omega) (by omega)
  · exact qa_cdr8 c (by omega) (by omega)
  · exact qa_cdr9 c (by omega) (by omega)
  · exact qa_cdr10 c (by omega) (by omega)
  · exact qa_cdr11 c (by omega) (by omega)
  · exact qa_cdr12 c (by omega) (by omega)
  · exact qa_cdr13 c (by omega) (by omega)
  · exact qa_cdr14 c (by omega) (by omega)
  · exact qa_cdr15 c (by omega) (by omega)
