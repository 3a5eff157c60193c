theorem iwsL_law_r10 : ∀ w ∈ wsL_law_r10, w ∈ lw_tbl := by
  refine lwc (lwt2 (List.mem_of_getElem? (l := tables_1_2) (i := 112) (by decide +kernel))) ?_
  refine lwc (lwt2 (List.mem_of_getElem? (l := tables_1_2) (i := 113) rfl)) ?_
  refine lwc (lwt2 (List.mem_of_getElem? (l := tables_1_2) (i := 114) (by decide +kernel))) ?_
  refine lwc (lwt2 (List.mem_of_getElem? (l := tables_1_2) (i := 116) (by decide +kernel))) ?_
  refine lwc (lws (List.mem_of_getElem? (i := 10) (by decide +kernel))) ?_
  refine lwc (lwt2 (List.mem_of_getElem? (l := tables_1_2) (i := 117) rfl)) ?_
  refine lwc (lwt2 (List.mem_of_getElem? (l := tables_1_2) (i := 118) (by decide +kernel))) ?_
  refine lwc (lwt2 (List.mem_of_getElem? (l := tables_1_2) (i := 120) (by decide +kernel))) ?_
  refine lwc (lws (List.mem_of_getElem? (i := 11) (by decide +kernel))) ?_
  refine lwc (lwt2 (List.mem_of_getElem? (l := tables_1_2) (i := 121) rfl)) ?_
  refine lwc (lwt2 (List.mem_of_getElem? (l := tables_1_2) (i := 122) (by decide +kernel))) ?_
  refine lwc (lwt2 (List.mem_of_getElem? (l := tables_1_2) (i := 124) (by decide +kernel))) ?_
  refine lwc (lws (List.mem_of_getElem? (i := 12) (by decide +kernel))) ?_
  refine lwc (lwt2 (List.mem_of_getElem? (l := tables_1_2) (i := 125) rfl)) ?_
  refine lwc (lwt2 (List.mem_of_getElem? (l := tables_1_2) (i := 126) (by decide +kernel))) ?_
  refine lwc (lwt2 (List.mem_of_getElem? (l := tables_1_2) (i := 128) (by decide +kernel))) ?_
  refine lwc (lws (List.mem_of_getElem? (i := 13) (by decide +kernel))) ?_
  refine lwc (lwt2 (List.mem_of_getElem? (l := tables_1_2) (i := 129) rfl)) ?_
  refine lwc (lwt2 (List.mem_of_getElem? (l := tables_1_2) (i := 130) (by decide +kernel))) ?_
  refine lwc (lwt2 (List.mem_of_getElem? (l := tables_1_2) (i := 96) (by decide +kernel))) ?_
  refine lwc (lwt2 (List.mem_of_getElem? (l := tables_1_2) (i := 177) (by decide +kernel))) ?_
  refine lwc (lwt2 (List.mem_of_getElem? (l := tables_1_2) (i := 178) (by decide +kernel))) ?_
  refine lwc (lwt2 (List.mem_of_getElem? (l := tables_1_2) (i := 179) rfl)) ?_
  refine lwc (lwt2 (List.mem_of_getElem? (l := tables_1_2) (i := 191) (by decide +kernel))) ?_
  exact lwn
theorem iwsL_law_r11 : ∀ w ∈ wsL_law_r11, w ∈ lw_tbl := by
  refine lwc (lwt2 (List.mem_of_getElem? (l := tables_1_2) (i := 174) (by decide +kernel))) ?_
  refine lwc (lwt2 (List.mem_of_getElem? (l := tables_1_2) (i := 175) (by decide +kernel))) ?_
  refine lwc (lwt2 (List.mem_of_getElem? (l := tables_1_2) (i := 176) rfl)) ?_
  refine lwc (lwt2 (List.mem_of_getElem? (l := tables_1_2) (i := 180) (by decide +kernel))) ?_
  refine lwc (lwt2 (List.mem_of_getElem? (l := tables_1_2) (i := 181) (by decide +kernel))) ?_
  refine lwc (lwt2 (List.mem_of_getElem? (l := tables_1_2) (i := 182) rfl)) ?_
  refine lwc (lwt2 (List.mem_of_getElem? (l := tables_1_2) (i := 183) (by decide +kernel))) ?_
  refine lwc (lwt2 (List.mem_of_getElem? (l := tables_1_2) (i := 184) (by decide +kernel))) ?_
  refine lwc (lwt2 (List.mem_of_getElem? (l := tables_1_2) (i := 185) (by decide +kernel))) ?_
  refine lwc (lwt2 (List.mem_of_getElem? (l := tables_1_2) (i := 186) rfl)) ?_
  refine lwc (lwt2 (List.mem_of_getElem? (l := tables_1_2) (i := 187) (by decide +kernel))) ?_
  refine lwc (lwt2 (List.mem_of_getElem? (l := tables_1_2) (i := 188) (by decide +kernel))) ?_
  refine lwc (lwt2 (List.mem_of_getElem? (l := tables_1_2) (i := 189) (by decide +kernel))) ?_
  refine lwc (lwt2 (List.mem_of_getElem? (l := tables_1_2) (i := 190) rfl)) ?_
  refine lwc (lwt2 (List.mem_of_getElem? (l := tables_1_2) (i := 192) (by decide +kernel))) ?_
  refine lwc (lwt2 (List.mem_of_getElem? (l := tables_1_2) (i := 193) (by decide +kernel))) ?_
  refine lwc (lwt2 (List.mem_of_getElem? (l := tables_1_2) (i := 194) (by decide +kernel))) ?_
  refine lwc (lwt2 (List.mem_of_getElem? (l := tables_1_2) (i := 195) rfl)) ?_
  refine lwc (lwt2 (List.mem_of_getElem? (l := tables_1_2) (i := 92) (by decide +kernel))) ?_
  refine lwc (lwt2 (List.mem_of_getElem? (l := tables_1_2) (i := 93) (by decide +kernel))) ?_
  refine lwc (lwt2 (List.mem_of_getElem? (l := tables_1_2) (i := 94) rfl)) ?_
  refine lwc (lwt2 (List.mem_of_getElem? (l := tables_1_2) (i := 157) (by decide +kernel))) ?_
  refine lwc (lwt2 (List.mem_of_getElem? (l := tables_1_2) (i := 158) (by decide +kernel))) ?_
  refine lwc (lwt2 (List.mem_of_getElem? (l := tables_1_2) (i := 159) (by decide +kernel))) ?_
  exact lwn
theorem iwsL_law_r12 : ∀ w ∈ wsL_law_r12, w ∈ lw_tbl := by
  refine lwc (lwt2 (List.mem_of_getElem? (l := tables_1_2) (i := 160) rfl)) ?_
  refine lwc (lwt2 (List.mem_of_getElem? (l := tables_1_2) (i := 161) (by decide +kernel))) ?_
  refine lwc (lwt2 (List.mem_of_getElem? (l := tables_1_2) (i := 135) (by decide +kernel))) ?_
  refine lwc (lwt2 (List.mem_of_getElem? (l := tables_1_2) (i := 137) (by decide +kernel))) ?_
  refine lwc (lws (List.mem_of_getElem? (i := 14) (by decide +kernel))) ?_
  refine lwc (lwt2 (List.mem_of_getElem? (l := tables_1_2) (i := 138) rfl)) ?_
  refine lwc (lwt2 (List.mem_of_getElem? (l := tables_1_2) (i := 139) (by decide +kernel))) ?_
  refine lwc (lwt2 (List.mem_of_getElem? (l := tables_1_2) (i := 140) (by decide +kernel))) ?_
  refine lwc (lwt2 (List.mem_of_getElem? (l := tables_1_2) (i := 141) (by decide +kernel))) ?_
  refine lwc (lwt2 (List.mem_of_getElem? (l := tables_1_2) (i := 142) rfl)) ?_
  refine lwc (lwt2 (List.mem_of_getElem? (l := tables_1_2) (i := 143) (by decide +kernel))) ?_
  refine lwc (lwt2 (List.mem_of_getElem? (l := tables_1_2) (i := 144) (by decide +kernel))) ?_
  refine lwc (lwt2 (List.mem_of_getElem? (l := tables_1_2) (i := 145) (by decide +kernel))) ?_
  refine lwc (lwt2 (List.mem_of_getElem? (l := tables_1_2) (i := 146) rfl)) ?_
  refine lwc (lwt2 (List.mem_of_getElem? (l := tables_1_2) (i := 147) (by decide +kernel))) ?_
  refine lwc (lwt2 (List.mem_of_getElem? (l := tables_1_2) (i := 148) (by decide +kernel))) ?_
  refine lwc (lwt2 (List.mem_of_getElem? (l := tables_1_2) (i := 149) (by decide +kernel))) ?_
  refine lwc (lwt2 (List.mem_of_getElem? (l := tables_1_2) (i := 150) (by decide +kernel))) ?_
  refine lwc (lwt2 (List.mem_of_getElem? (l := tables_1_2) (i := 151) rfl)) ?_
  refine lwc (lwt2 (List.mem_of_getElem? (l := tables_1_2) (i := 152) (by decide +kernel))) ?_
  refine lwc (lwt2 (List.mem_of_getElem? (l := tables_1_2) (i := 153) (by decide +kernel))) ?_
  refine lwc (lwt2 (List.mem_of_getElem? (l := tables_1_2) (i := 155) (by decide +kernel))) ?_
  refine lwc (lws (List.mem_of_getElem? (i := 15) (by decide +kernel))) ?_
  refine lwc (lwt2 (List.mem_of_getElem? (l := tables_1_2) (i := 156) rfl)) ?_
  exact lwn
theorem iwsL_law_r13 : ∀ w ∈ wsL_law_r13, w ∈ lw_tbl := by
  refine lwc (lwt2 (List.mem_of_getElem? (l := tables_1_2) (i := 196) (by decide +kernel))) ?_
  refine lwc (lwt2 (List.mem_of_getElem? (l := tables_1_2) (i := 197) (by decide +kernel))) ?_
  refine lwc (lwt2 (List.mem_of_getElem? (l := tables_1_2) (i := 198) rfl)) ?_
  refine lwc (lwt2 (List.mem_of_getElem? (l := tables_1_2) (i := 199) (by decide +kernel))) ?_
  refine lwc (lwt2 (List.mem_of_getElem? (l := tables_1_2) (i := 200) (by decide +kernel))) ?_
  refine lwc (lwt2 (List.mem_of_getElem? (l := tables_1_2) (i := 201) rfl)) ?_
  refine lwc (lwt2 (List.mem_of_getElem? (l := tables_1_2) (i := 202) (by decide +kernel))) ?_
  refine lwc (lwt2 (List.mem_of_getElem? (l := tables_1_2) (i := 203) (by decide +kernel))) ?_
  refine lwc (lwt2 (List.mem_of_getElem? (l := tables_1_2) (i := 204) (by decide +kernel))) ?_
  refine lwc (lwt2 (List.mem_of_getElem? (l := tables_1_2) (i := 205) rfl)) ?_
  refine lwc (lwt2 (List.mem_of_getElem? (l := tables_1_2) (i := 206) (by decide +kernel))) ?_
  refine lwc (lwt2 (List.mem_of_getElem? (l := tables_1_2) (i := 208) (by decide +kernel))) ?_
  refine lwc (lws (List.mem_of_getElem? (i := 16) (by decide +kernel))) ?_
  refine lwc (lwt2 (List.mem_of_getElem? (l := tables_1_2) (i := 209) rfl)) ?_
  refine lwc (lwt2 (List.mem_of_getElem? (l := tables_1_2) (i := 19) (by decide +kernel))) ?_
  refine lwc (lwt2 (List.mem_of_getElem? (l := tables_1_2) (i := 20) (by decide +kernel))) ?_
  refine lwc (lwt2 (List.mem_of_getElem? (l := tables_1_2) (i := 21) (by decide +kernel))) ?_
  refine lwc (lwt2 (List.mem_of_getElem? (l := tables_1_2) (i := 22) rfl)) ?_
  refine lwc (lwt2 (List.mem_of_getElem? (l := tables_1_2) (i := 47) (by decide +kernel))) ?_
  refine lwc (lwt2 (List.mem_of_getElem? (l := tables_1_2) (i := 48) (by decide +kernel))) ?_
  refine lwc (lwt2 (List.mem_of_getElem? (l := tables_1_2) (i := 49) rfl)) ?_
  refine lwc (lwt2 (List.mem_of_getElem? (l := tables_1_2) (i := 50) (by decide +kernel))) ?_
  refine lwc (lwt2 (List.mem_of_getElem? (l := tables_1_2) (i := 51) (by decide +kernel))) ?_
  refine lwc (lwt2 (List.mem_of_getElem? (l := tables_1_2) (i := 52) rfl)) ?_
  exact lwn
theorem iwsL_law_r14 : ∀ w ∈ wsL_law_r14, w ∈ lw_tbl := by
  refine lwc (lwt2 (List.mem_of_getElem? (l := tables_1_2) (i := 210) (by decide +kernel))) ?_
  refine lwc (lwt2 (List.mem_of_getElem? (l := tables_1_2) (i := 211) (by decide +kernel))) ?_
  refine lwc (lwt2 (List.mem_of_getElem? (l := tables_1_2) (i := 212) rfl)) ?_
  refine lwc (lwt2 (List.mem_of_getElem? (l := tables_1_2) (i := 53) (by decide +kernel))) ?_
  refine lwc (lwt2 (List.mem_of_getElem? (l := tables_1_2) (i := 54) (by decide +kernel))) ?_
  refine lwc (lwt2 (List.mem_of_getElem? (l := tables_1_2) (i := 55) rfl)) ?_
  refine lwc (lwt2 (List.mem_of_getElem? (l := tables_1_2) (i := 213) (by decide +kernel))) ?_
  refine lwc (lwt2 (List.mem_of_getElem? (l := tables_1_2) (i := 215) (by decide +kernel))) ?_
  refine lwc (lws (List.mem_of_getElem? (i := 17) (by decide +kernel))) ?_
  refine lwc (lwt2 (List.mem_of_getElem? (l := tables_1_2) (i := 216) rfl)) ?_
  refine lwc (lwt2 (List.mem_of_getElem? (l := tables_1_2) (i := 30) (by decide +kernel))) ?_
  refine lwc (lwt2 (List.mem_of_getElem? (l := tables_1_2) (i := 31) (by decide +kernel))) ?_
  refine lwc (lwt2 (List.mem_of_getElem? (l := tables_1_2) (i := 32) (by decide +kernel))) ?_
  refine lwc (lwt2 (List.mem_of_getElem? (l := tables_1_2) (i := 33) rfl)) ?_
  refine lwc (lwt2 (List.mem_of_getElem? (l := tables_1_2) (i := 34) (by decide +kernel))) ?_
  refine lwc (lwt2 (List.mem_of_getElem? (l := tables_1_2) (i := 35) (by decide +kernel))) ?_
  refine lwc (lwt2 (List.mem_of_getElem? (l := tables_1_2) (i := 36) (by decide +kernel))) ?_
  refine lwc (lwt2 (List.mem_of_getElem? (l := tables_1_2) (i := 37) rfl)) ?_
  refine lwc (lwt2 (List.mem_of_getElem? (l := tables_1_2) (i := 38) (by decide +kernel))) ?_
  refine lwc (lwt2 (List.mem_of_getElem? (l := tables_1_2) (i := 64) (by decide +kernel))) ?_
  refine lwc (lwt2 (List.mem_of_getElem? (l := tables_1_2) (i := 65) (by decide +kernel))) ?_
  refine lwc (lwt2 (List.mem_of_getElem? (l := tables_1_2) (i := 66) (by decide +kernel))) ?_
  refine lwc (lwt2 (List.mem_of_getElem? (l := tables_1_2) (i := 67) rfl)) ?_
  refine lwc (lwt2 (List.mem_of_getElem? (l := tables_1_2) (i := 68) (by decide +kernel))) ?_
  exact lwn
theorem iwsL_law_r15 : ∀ w ∈ wsL_law_r15, w ∈ lw_tbl := by
  refine lwc (lwt2 (List.mem_of_getElem? (l := tables_1_2) (i := 61) (by decide +kernel))) ?_
  refine lwc (lwt2 (List.mem_of_getElem? (l := tables_1_2) (i := 62) (by decide +kernel))) ?_
  refine lwc (lwt2 (List.mem_of_getElem? (l := tables_1_2) (i := 63) rfl)) ?_
  refine lwc (lwt2 (List.mem_of_getElem? (l := tables_1_2) (i := 217) (by decide +kernel))) ?_
  refine lwc (lwt2 (List.mem_of_getElem? (l := tables_1_2) (i := 218) (by decide +kernel))) ?_
  refine lwc (lwt2 (List.mem_of_getElem? (l := tables_1_2) (i := 219) (by decide +kernel))) ?_
  refine lwc (lwt2 (List.mem_of_getElem? (l := tables_1_2) (i := 220) rfl)) ?_
  refine lwc (lwt2 (List.mem_of_getElem? (l := tables_1_2) (i := 26) (by decide +kernel))) ?_
  refine lwc (lwt2 (List.mem_of_getElem? (l := tables_1_2) (i := 28) (by decide +kernel))) ?_
  refine lwc (lws (List.mem_of_getElem? (i := 8) (by decide +kernel))) ?_
  refine lwc (lwt2 (List.mem_of_getElem? (l := tables_1_2) (i := 29) rfl)) ?_
  refine lwc (lwt2 (List.mem_of_getElem? (l := tables_1_2) (i := 88) (by decide +kernel))) ?_
  refine lwc (lwt2 (List.mem_of_getElem? (l := tables_1_2) (i := 89) (by decide +kernel))) ?_
  refine lwc (lwt2 (List.mem_of_getElem? (l := tables_1_2) (i := 90) (by decide +kernel))) ?_
  refine lwc (lwt2 (List.mem_of_getElem? (l := tables_1_2) (i := 91) rfl)) ?_
  refine lwc (lwt2 (List.mem_of_getElem? (l := tables_1_2) (i := 60) (by decide +kernel))) ?_
  refine lwc (lwt2 (List.mem_of_getElem? (l := tables_1_2) (i := 15) (by decide +kernel))) ?_
  refine lwc (lwt2 (List.mem_of_getElem? (l := tables_1_2) (i := 16) (by decide +kernel))) ?_
  refine lwc (lwt2 (List.mem_of_getElem? (l := tables_1_2) (i := 17) (by decide +kernel))) ?_
  refine lwc (lwt2 (List.mem_of_getElem? (l := tables_1_2) (i := 18) rfl)) ?_
  refine lwc (lwt2 (List.mem_of_getElem? (l := tables_1_2) (i := 23) (by decide +kernel))) ?_
  refine lwc (lwt2 (List.mem_of_getElem? (l := tables_1_2) (i := 24) (by decide +kernel))) ?_
  refine lwc (lwt2 (List.mem_of_getElem? (l := tables_1_2) (i := 25) rfl)) ?_
  refine lwc (lwt2 (List.mem_of_getElem? (l := tables_1_2) (i := 43) (by decide +kernel))) ?_
  exact lwn
theorem iwsL_law_r16 : ∀ w ∈ wsL_law_r16, w ∈ lw_tbl := by
  refine lwc (lwt2 (List.mem_of_getElem? (l := tables_1_2) (i := 44) (by decide +kernel))) ?_
  refine lwc (lwt2 (List.mem_of_getElem? (l := tables_1_2) (i := 45) (by decide +kernel))) ?_
  refine lwc (lwt2 (List.mem_of_getElem? (l := tables_1_2) (i := 46) rfl)) ?_
  refine lwc (lwt2 (List.mem_of_getElem? (l := tables_1_2) (i := 56) (by decide +kernel))) ?_
  refine lwc (lwt2 (List.mem_of_getElem? (l := tables_1_2) (i := 57) (by decide +kernel))) ?_
  refine lwc (lwt2 (List.mem_of_getElem? (l := tables_1_2) (i := 58) (by decide +kernel))) ?_
  refine lwc (lwt2 (List.mem_of_getElem? (l := tables_1_2) (i := 59) rfl)) ?_
  refine lwc (lwt2 (List.mem_of_getElem? (l := tables_1_2) (i := 221) (by decide +kernel))) ?_
  refine lwc (lwt2 (List.mem_of_getElem? (l := tables_1_2) (i := 222) (by decide +kernel))) ?_
  refine lwc (lwt2 (List.mem_of_getElem? (l := tables_1_2) (i := 223) rfl)) ?_
  refine lwc (lwt2 (List.mem_of_getElem? (l := tables_1_2) (i := 131) (by decide +kernel))) ?_
  refine lwc (lwt2 (List.mem_of_getElem? (l := tables_1_2) (i := 132) (by decide +kernel))) ?_
  refine lwc (lwt2 (List.mem_of_getElem? (l := tables_1_2) (i := 133) (by decide +kernel))) ?_
  refine lwc (lwt2 (List.mem_of_getElem? (l := tables_1_2) (i := 134) rfl)) ?_
  refine lwc (lwt2 (List.mem_of_getElem? (l := tables_1_2) (i := 69) (by decide +kernel))) ?_
  refine lwc (lwt2 (List.mem_of_getElem? (l := tables_1_2) (i := 70) (by decide +kernel))) ?_
  refine lwc (lwt2 (List.mem_of_getElem? (l := tables_1_2) (i := 71) (by decide +kernel))) ?_
  refine lwc (lwt2 (List.mem_of_getElem? (l := tables_1_2) (i := 72) rfl)) ?_
  refine lwc (lwt2 (List.mem_of_getElem? (l := tables_1_2) (i := 74) (by decide +kernel))) ?_
  refine lwc (lwt2 (List.mem_of_getElem? (l := tables_1_2) (i := 75) (by decide +kernel))) ?_
  refine lwc (lwt2 (List.mem_of_getElem? (l := tables_1_2) (i := 76) (by decide +kernel))) ?_
  refine lwc (lwt2 (List.mem_of_getElem? (l := tables_1_2) (i := 77) rfl)) ?_
  refine lwc (lwt2 (List.mem_of_getElem? (l := tables_1_2) (i := 78) (by decide +kernel))) ?_
  refine lwc (lwt2 (List.mem_of_getElem? (l := tables_1_2) (i := 79) (by decide +kernel))) ?_
  exact lwn
theorem iwsL_law_r17 : ∀ w ∈ wsL_law_r17, w ∈ lw_tbl := by
  refine lwc (lwt2 (List.mem_of_getElem? (l := tables_1_2) (i := 80) (by decide +kernel))) ?_
  refine lwc (lwt2 (List.mem_of_getElem? (l := tables_1_2) (i := 81) (by decide +kernel))) ?_
  refine lwc (lwt2 (List.mem_of_getElem? (l := tables_1_2) (i := 82) rfl)) ?_
  refine lwc (lwt2 (List.mem_of_getElem? (l := tables_1_2) (i := 83) (by decide +kernel))) ?_
  refine lwc (lwt2 (List.mem_of_getElem? (l := tables_1_2) (i := 84) (by decide +kernel))) ?_
  refine lwc (lwt2 (List.mem_of_getElem? (l := tables_1_2) (i := 85) (by decide +kernel))) ?_
  refine lwc (lwt2 (List.mem_of_getElem? (l := tables_1_2) (i := 86) (by decide +kernel))) ?_
  refine lwc (lwt2 (List.mem_of_getElem? (l := tables_1_2) (i := 87) rfl)) ?_
  refine lwc (lwt2 (List.mem_of_getElem? (l := tables_1_2) (i := 224) (by decide +kernel))) ?_
  refine lwc (lwt2 (List.mem_of_getElem? (l := tables_1_2) (i := 225) (by decide +kernel))) ?_
  refine lwc (lwt2 (List.mem_of_getElem? (l := tables_1_2) (i := 226) rfl)) ?_
  refine lwc (lwt2 (List.mem_of_getElem? (l := tables_1_2) (i := 227) (by decide +kernel))) ?_
  refine lwc (lwt2 (List.mem_of_getElem? (l := tables_1_2) (i := 228) (by decide +kernel))) ?_
  refine lwc (lwt2 (List.mem_of_getElem? (l := tables_1_2) (i := 229) (by decide +kernel))) ?_
  refine lwc (lwt2 (List.mem_of_getElem? (l := tables_1_2) (i := 230) rfl)) ?_
  refine lwc (lwt2 (List.mem_of_getElem? (l := tables_1_2) (i := 231) (by decide +kernel))) ?_
  refine lwc (lwt2 (List.mem_of_getElem? (l := tables_1_2) (i := 232) (by decide +kernel))) ?_
  refine lwc (lwt2 (List.mem_of_getElem? (l := tables_1_2) (i := 233) rfl)) ?_
  refine lwc (lwt2 (List.mem_of_getElem? (l := tables_1_2) (i := 234) (by decide +kernel))) ?_
  refine lwc (lwt2 (List.mem_of_getElem? (l := tables_1_2) (i := 235) (by decide +kernel))) ?_
  refine lwc (lwt2 (List.mem_of_getElem? (l := tables_1_2) (i := 236) (by decide +kernel))) ?_
  refine lwc (lwt2 (List.mem_of_getElem? (l := tables_1_2) (i := 237) rfl)) ?_
  exact lwn
