theorem iwsL_law_r19 : ∀ w ∈ wsL_law_r19, w ∈ lw_tbl := by
  refine lwc (lwt2 (List.mem_of_getElem? (l := tables_1_2) (i := 96) (by decide +kernel))) ?_
  refine lwc (lwt2 (List.mem_of_getElem? (l := tables_1_2) (i := 97) (by decide +kernel))) ?_
  refine lwc (lwt2 (List.mem_of_getElem? (l := tables_1_2) (i := 98) (by decide +kernel))) ?_
  refine lwc (lwt2 (List.mem_of_getElem? (l := tables_1_2) (i := 99) (by decide +kernel))) ?_
  refine lwc (lwt2 (List.mem_of_getElem? (l := tables_1_2) (i := 100) rfl)) ?_
  refine lwc (lwt4 (List.mem_of_getElem? (l := tables_1_4) (i := 46) (by decide +kernel))) ?_
  refine lwc (lwt4 (List.mem_of_getElem? (l := tables_1_4) (i := 47) (by decide +kernel))) ?_
  refine lwc (lwt4 (List.mem_of_getElem? (l := tables_1_4) (i := 48) (by decide +kernel))) ?_
  refine lwc (lwt4 (List.mem_of_getElem? (l := tables_1_4) (i := 49) rfl)) ?_
  refine lwc (lwt4 (List.mem_of_getElem? (l := tables_1_4) (i := 50) (by decide +kernel))) ?_
  refine lwc (lwt4 (List.mem_of_getElem? (l := tables_1_4) (i := 52) (by decide +kernel))) ?_
  refine lwc (lws (List.mem_of_getElem? (i := 48) (by decide +kernel))) ?_
  refine lwc (lwt4 (List.mem_of_getElem? (l := tables_1_4) (i := 53) rfl)) ?_
  refine lwc (lwt2 (List.mem_of_getElem? (l := tables_1_2) (i := 101) (by decide +kernel))) ?_
  refine lwc (lwt2 (List.mem_of_getElem? (l := tables_1_2) (i := 102) (by decide +kernel))) ?_
  refine lwc (lwt2 (List.mem_of_getElem? (l := tables_1_2) (i := 103) (by decide +kernel))) ?_
  refine lwc (lwt2 (List.mem_of_getElem? (l := tables_1_2) (i := 104) rfl)) ?_
  refine lwc (lwt2 (List.mem_of_getElem? (l := tables_1_2) (i := 105) (by decide +kernel))) ?_
  refine lwc (lwt2 (List.mem_of_getElem? (l := tables_1_2) (i := 106) (by decide +kernel))) ?_
  refine lwc (lwt2 (List.mem_of_getElem? (l := tables_1_2) (i := 107) (by decide +kernel))) ?_
  refine lwc (lwt2 (List.mem_of_getElem? (l := tables_1_2) (i := 108) (by decide +kernel))) ?_
  refine lwc (lwt2 (List.mem_of_getElem? (l := tables_1_2) (i := 109) (by decide +kernel))) ?_
  refine lwc (lwt2 (List.mem_of_getElem? (l := tables_1_2) (i := 110) rfl)) ?_
  refine lwc (lwt4 (List.mem_of_getElem? (l := tables_1_4) (i := 54) (by decide +kernel))) ?_
  exact lwn
theorem iwsL_law_r20 : ∀ w ∈ wsL_law_r20, w ∈ lw_tbl := by
  refine lwc (lwt4 (List.mem_of_getElem? (l := tables_1_4) (i := 55) (by decide +kernel))) ?_
  refine lwc (lwt4 (List.mem_of_getElem? (l := tables_1_4) (i := 56) (by decide +kernel))) ?_
  refine lwc (lwt4 (List.mem_of_getElem? (l := tables_1_4) (i := 57) rfl)) ?_
  refine lwc (lwt2 (List.mem_of_getElem? (l := tables_1_2) (i := 111) (by decide +kernel))) ?_
  refine lwc (lwt2 (List.mem_of_getElem? (l := tables_1_2) (i := 112) (by decide +kernel))) ?_
  refine lwc (lwt2 (List.mem_of_getElem? (l := tables_1_2) (i := 113) (by decide +kernel))) ?_
  refine lwc (lwt2 (List.mem_of_getElem? (l := tables_1_2) (i := 114) rfl)) ?_
  refine lwc (lwt2 (List.mem_of_getElem? (l := tables_1_2) (i := 115) (by decide +kernel))) ?_
  refine lwc (lwt2 (List.mem_of_getElem? (l := tables_1_2) (i := 116) (by decide +kernel))) ?_
  refine lwc (lwt2 (List.mem_of_getElem? (l := tables_1_2) (i := 117) rfl)) ?_
  refine lwc (lwt2 (List.mem_of_getElem? (l := tables_1_2) (i := 118) (by decide +kernel))) ?_
  refine lwc (lwt2 (List.mem_of_getElem? (l := tables_1_2) (i := 119) (by decide +kernel))) ?_
  refine lwc (lwt4 (List.mem_of_getElem? (l := tables_1_4) (i := 58) (by decide +kernel))) ?_
  refine lwc (lwt4 (List.mem_of_getElem? (l := tables_1_4) (i := 59) (by decide +kernel))) ?_
  refine lwc (lwt4 (List.mem_of_getElem? (l := tables_1_4) (i := 60) (by decide +kernel))) ?_
  refine lwc (lwt4 (List.mem_of_getElem? (l := tables_1_4) (i := 61) rfl)) ?_
  refine lwc (lwt2 (List.mem_of_getElem? (l := tables_1_2) (i := 120) (by decide +kernel))) ?_
  refine lwc (lwt2 (List.mem_of_getElem? (l := tables_1_2) (i := 121) (by decide +kernel))) ?_
  refine lwc (lwt2 (List.mem_of_getElem? (l := tables_1_2) (i := 122) (by decide +kernel))) ?_
  refine lwc (lwt2 (List.mem_of_getElem? (l := tables_1_2) (i := 123) rfl)) ?_
  refine lwc (lwt2 (List.mem_of_getElem? (l := tables_1_2) (i := 124) (by decide +kernel))) ?_
  refine lwc (lwt2 (List.mem_of_getElem? (l := tables_1_2) (i := 125) (by decide +kernel))) ?_
  refine lwc (lwt2 (List.mem_of_getElem? (l := tables_1_2) (i := 127) (by decide +kernel))) ?_
  refine lwc (lws (List.mem_of_getElem? (i := 10) (by decide +kernel))) ?_
  exact lwn
theorem iwsL_law_r21 : ∀ w ∈ wsL_law_r21, w ∈ lw_tbl := by
  refine lwc (lwt2 (List.mem_of_getElem? (l := tables_1_2) (i := 128) rfl)) ?_
  refine lwc (lwt2 (List.mem_of_getElem? (l := tables_1_2) (i := 129) (by decide +kernel))) ?_
  refine lwc (lwt2 (List.mem_of_getElem? (l := tables_1_2) (i := 130) (by decide +kernel))) ?_
  refine lwc (lwt2 (List.mem_of_getElem? (l := tables_1_2) (i := 131) (by decide +kernel))) ?_
  refine lwc (lwt2 (List.mem_of_getElem? (l := tables_1_2) (i := 132) rfl)) ?_
  refine lwc (lwt2 (List.mem_of_getElem? (l := tables_1_2) (i := 133) (by decide +kernel))) ?_
  refine lwc (lwt2 (List.mem_of_getElem? (l := tables_1_2) (i := 135) (by decide +kernel))) ?_
  refine lwc (lws (List.mem_of_getElem? (i := 11) (by decide +kernel))) ?_
  refine lwc (lwt2 (List.mem_of_getElem? (l := tables_1_2) (i := 136) rfl)) ?_
  refine lwc (lwt2 (List.mem_of_getElem? (l := tables_1_2) (i := 137) (by decide +kernel))) ?_
  refine lwc (lwt2 (List.mem_of_getElem? (l := tables_1_2) (i := 139) (by decide +kernel))) ?_
  refine lwc (lws (List.mem_of_getElem? (i := 12) (by decide +kernel))) ?_
  refine lwc (lwt2 (List.mem_of_getElem? (l := tables_1_2) (i := 140) rfl)) ?_
  refine lwc (lwt2 (List.mem_of_getElem? (l := tables_1_2) (i := 141) (by decide +kernel))) ?_
  refine lwc (lwt2 (List.mem_of_getElem? (l := tables_1_2) (i := 143) (by decide +kernel))) ?_
  refine lwc (lws (List.mem_of_getElem? (i := 13) (by decide +kernel))) ?_
  refine lwc (lwt2 (List.mem_of_getElem? (l := tables_1_2) (i := 144) rfl)) ?_
  refine lwc (lwt2 (List.mem_of_getElem? (l := tables_1_2) (i := 145) (by decide +kernel))) ?_
  refine lwc (lwt2 (List.mem_of_getElem? (l := tables_1_2) (i := 147) (by decide +kernel))) ?_
  refine lwc (lws (List.mem_of_getElem? (i := 14) (by decide +kernel))) ?_
  refine lwc (lwt2 (List.mem_of_getElem? (l := tables_1_2) (i := 148) rfl)) ?_
  refine lwc (lwt4 (List.mem_of_getElem? (l := tables_1_4) (i := 62) (by decide +kernel))) ?_
  refine lwc (lwt4 (List.mem_of_getElem? (l := tables_1_4) (i := 63) (by decide +kernel))) ?_
  refine lwc (lwt4 (List.mem_of_getElem? (l := tables_1_4) (i := 64) (by decide +kernel))) ?_
  exact lwn
theorem iwsL_law_r22 : ∀ w ∈ wsL_law_r22, w ∈ lw_tbl := by
  refine lwc (lwt4 (List.mem_of_getElem? (l := tables_1_4) (i := 65) rfl)) ?_
  refine lwc (lwt3 (List.mem_of_getElem? (l := tables_1_3) (i := 70) (by decide +kernel))) ?_
  refine lwc (lwt4 (List.mem_of_getElem? (l := tables_1_4) (i := 66) (by decide +kernel))) ?_
  refine lwc (lwt4 (List.mem_of_getElem? (l := tables_1_4) (i := 68) (by decide +kernel))) ?_
  refine lwc (lws (List.mem_of_getElem? (i := 49) (by decide +kernel))) ?_
  refine lwc (lwt4 (List.mem_of_getElem? (l := tables_1_4) (i := 69) rfl)) ?_
  refine lwc (lwt4 (List.mem_of_getElem? (l := tables_1_4) (i := 70) (by decide +kernel))) ?_
  refine lwc (lwt4 (List.mem_of_getElem? (l := tables_1_4) (i := 72) (by decide +kernel))) ?_
  refine lwc (lws (List.mem_of_getElem? (i := 50) (by decide +kernel))) ?_
  refine lwc (lwt4 (List.mem_of_getElem? (l := tables_1_4) (i := 73) rfl)) ?_
  refine lwc (lwt4 (List.mem_of_getElem? (l := tables_1_4) (i := 74) (by decide +kernel))) ?_
  refine lwc (lwt4 (List.mem_of_getElem? (l := tables_1_4) (i := 76) (by decide +kernel))) ?_
  refine lwc (lws (List.mem_of_getElem? (i := 51) (by decide +kernel))) ?_
  refine lwc (lwt4 (List.mem_of_getElem? (l := tables_1_4) (i := 77) rfl)) ?_
  refine lwc (lwt4 (List.mem_of_getElem? (l := tables_1_4) (i := 78) (by decide +kernel))) ?_
  refine lwc (lwt4 (List.mem_of_getElem? (l := tables_1_4) (i := 80) (by decide +kernel))) ?_
  refine lwc (lws (List.mem_of_getElem? (i := 52) (by decide +kernel))) ?_
  refine lwc (lwt4 (List.mem_of_getElem? (l := tables_1_4) (i := 81) rfl)) ?_
  refine lwc (lwt4 (List.mem_of_getElem? (l := tables_1_4) (i := 82) (by decide +kernel))) ?_
  refine lwc (lwt4 (List.mem_of_getElem? (l := tables_1_4) (i := 84) (by decide +kernel))) ?_
  refine lwc (lws (List.mem_of_getElem? (i := 53) (by decide +kernel))) ?_
  refine lwc (lwt4 (List.mem_of_getElem? (l := tables_1_4) (i := 85) rfl)) ?_
  refine lwc (lwt2 (List.mem_of_getElem? (l := tables_1_2) (i := 149) (by decide +kernel))) ?_
  refine lwc (lwt2 (List.mem_of_getElem? (l := tables_1_2) (i := 150) (by decide +kernel))) ?_
  exact lwn
theorem iwsL_law_r23 : ∀ w ∈ wsL_law_r23, w ∈ lw_tbl := by
  refine lwc (lwt2 (List.mem_of_getElem? (l := tables_1_2) (i := 151) (by decide +kernel))) ?_
  refine lwc (lwt2 (List.mem_of_getElem? (l := tables_1_2) (i := 152) rfl)) ?_
  refine lwc (lwt4 (List.mem_of_getElem? (l := tables_1_4) (i := 86) (by decide +kernel))) ?_
  refine lwc (lwt4 (List.mem_of_getElem? (l := tables_1_4) (i := 87) (by decide +kernel))) ?_
  refine lwc (lwt4 (List.mem_of_getElem? (l := tables_1_4) (i := 88) (by decide +kernel))) ?_
  refine lwc (lwt4 (List.mem_of_getElem? (l := tables_1_4) (i := 89) rfl)) ?_
  refine lwc (lwt2 (List.mem_of_getElem? (l := tables_1_2) (i := 153) (by decide +kernel))) ?_
  refine lwc (lwt2 (List.mem_of_getElem? (l := tables_1_2) (i := 154) (by decide +kernel))) ?_
  refine lwc (lwt2 (List.mem_of_getElem? (l := tables_1_2) (i := 155) (by decide +kernel))) ?_
  refine lwc (lwt2 (List.mem_of_getElem? (l := tables_1_2) (i := 156) rfl)) ?_
  refine lwc (lwt2 (List.mem_of_getElem? (l := tables_1_2) (i := 157) (by decide +kernel))) ?_
  refine lwc (lwt2 (List.mem_of_getElem? (l := tables_1_2) (i := 159) (by decide +kernel))) ?_
  refine lwc (lws (List.mem_of_getElem? (i := 15) (by decide +kernel))) ?_
  refine lwc (lwt2 (List.mem_of_getElem? (l := tables_1_2) (i := 160) rfl)) ?_
  refine lwc (lwt2 (List.mem_of_getElem? (l := tables_1_2) (i := 161) (by decide +kernel))) ?_
  refine lwc (lwt2 (List.mem_of_getElem? (l := tables_1_2) (i := 162) (by decide +kernel))) ?_
  refine lwc (lwt2 (List.mem_of_getElem? (l := tables_1_2) (i := 163) (by decide +kernel))) ?_
  refine lwc (lwt2 (List.mem_of_getElem? (l := tables_1_2) (i := 164) rfl)) ?_
  refine lwc (lwt2 (List.mem_of_getElem? (l := tables_1_2) (i := 165) (by decide +kernel))) ?_
  refine lwc (lwt2 (List.mem_of_getElem? (l := tables_1_2) (i := 166) (by decide +kernel))) ?_
  refine lwc (lwt2 (List.mem_of_getElem? (l := tables_1_2) (i := 167) (by decide +kernel))) ?_
  refine lwc (lwt2 (List.mem_of_getElem? (l := tables_1_2) (i := 168) rfl)) ?_
  refine lwc (lwt2 (List.mem_of_getElem? (l := tables_1_2) (i := 169) (by decide +kernel))) ?_
  refine lwc (lwt2 (List.mem_of_getElem? (l := tables_1_2) (i := 170) (by decide +kernel))) ?_
  exact lwn
theorem iwsL_law_r24 : ∀ w ∈ wsL_law_r24, w ∈ lw_tbl := by
  refine lwc (lwt4 (List.mem_of_getElem? (l := tables_1_4) (i := 90) (by decide +kernel))) ?_
  refine lwc (lwt4 (List.mem_of_getElem? (l := tables_1_4) (i := 91) (by decide +kernel))) ?_
  refine lwc (lwt4 (List.mem_of_getElem? (l := tables_1_4) (i := 92) (by decide +kernel))) ?_
  refine lwc (lwt4 (List.mem_of_getElem? (l := tables_1_4) (i := 93) rfl)) ?_
  refine lwc (lwt4 (List.mem_of_getElem? (l := tables_1_4) (i := 94) (by decide +kernel))) ?_
  refine lwc (lwt4 (List.mem_of_getElem? (l := tables_1_4) (i := 96) (by decide +kernel))) ?_
  refine lwc (lws (List.mem_of_getElem? (i := 54) (by decide +kernel))) ?_
  refine lwc (lwt4 (List.mem_of_getElem? (l := tables_1_4) (i := 97) rfl)) ?_
  refine lwc (lwt2 (List.mem_of_getElem? (l := tables_1_2) (i := 171) (by decide +kernel))) ?_
  refine lwc (lwt2 (List.mem_of_getElem? (l := tables_1_2) (i := 172) (by decide +kernel))) ?_
  refine lwc (lwt2 (List.mem_of_getElem? (l := tables_1_2) (i := 173) (by decide +kernel))) ?_
  refine lwc (lwt2 (List.mem_of_getElem? (l := tables_1_2) (i := 174) rfl)) ?_
  refine lwc (lwt2 (List.mem_of_getElem? (l := tables_1_2) (i := 175) (by decide +kernel))) ?_
  refine lwc (lwt2 (List.mem_of_getElem? (l := tables_1_2) (i := 177) (by decide +kernel))) ?_
  refine lwc (lws (List.mem_of_getElem? (i := 16) (by decide +kernel))) ?_
  refine lwc (lwt2 (List.mem_of_getElem? (l := tables_1_2) (i := 178) rfl)) ?_
  refine lwc (lwt2 (List.mem_of_getElem? (l := tables_1_2) (i := 179) (by decide +kernel))) ?_
  refine lwc (lwt2 (List.mem_of_getElem? (l := tables_1_2) (i := 180) (by decide +kernel))) ?_
  refine lwc (lwt2 (List.mem_of_getElem? (l := tables_1_2) (i := 181) (by decide +kernel))) ?_
  refine lwc (lwt2 (List.mem_of_getElem? (l := tables_1_2) (i := 182) rfl)) ?_
  refine lwc (lwt2 (List.mem_of_getElem? (l := tables_1_2) (i := 183) (by decide +kernel))) ?_
  refine lwc (lwt2 (List.mem_of_getElem? (l := tables_1_2) (i := 185) (by decide +kernel))) ?_
  refine lwc (lws (List.mem_of_getElem? (i := 17) (by decide +kernel))) ?_
  refine lwc (lwt2 (List.mem_of_getElem? (l := tables_1_2) (i := 186) rfl)) ?_
  exact lwn
theorem iwsL_law_r25 : ∀ w ∈ wsL_law_r25, w ∈ lw_tbl := by
  refine lwc (lwt4 (List.mem_of_getElem? (l := tables_1_4) (i := 98) (by decide +kernel))) ?_
  refine lwc (lwt4 (List.mem_of_getElem? (l := tables_1_4) (i := 99) (by decide +kernel))) ?_
  refine lwc (lwt4 (List.mem_of_getElem? (l := tables_1_4) (i := 100) (by decide +kernel))) ?_
  refine lwc (lwt4 (List.mem_of_getElem? (l := tables_1_4) (i := 101) rfl)) ?_
  refine lwc (lwt4 (List.mem_of_getElem? (l := tables_1_4) (i := 102) (by decide +kernel))) ?_
  refine lwc (lwt4 (List.mem_of_getElem? (l := tables_1_4) (i := 104) (by decide +kernel))) ?_
  refine lwc (lws (List.mem_of_getElem? (i := 55) (by decide +kernel))) ?_
  refine lwc (lwt4 (List.mem_of_getElem? (l := tables_1_4) (i := 105) rfl)) ?_
  refine lwc (lwt4 (List.mem_of_getElem? (l := tables_1_4) (i := 106) (by decide +kernel))) ?_
  refine lwc (lwt4 (List.mem_of_getElem? (l := tables_1_4) (i := 108) (by decide +kernel))) ?_
  refine lwc (lws (List.mem_of_getElem? (i := 56) (by decide +kernel))) ?_
  refine lwc (lwt4 (List.mem_of_getElem? (l := tables_1_4) (i := 109) rfl)) ?_
  refine lwc (lwt2 (List.mem_of_getElem? (l := tables_1_2) (i := 187) (by decide +kernel))) ?_
  refine lwc (lwt2 (List.mem_of_getElem? (l := tables_1_2) (i := 188) (by decide +kernel))) ?_
  refine lwc (lwt2 (List.mem_of_getElem? (l := tables_1_2) (i := 189) (by decide +kernel))) ?_
  refine lwc (lwt2 (List.mem_of_getElem? (l := tables_1_2) (i := 190) rfl)) ?_
  refine lwc (lwt2 (List.mem_of_getElem? (l := tables_1_2) (i := 191) (by decide +kernel))) ?_
  refine lwc (lwt4 (List.mem_of_getElem? (l := tables_1_4) (i := 110) (by decide +kernel))) ?_
  refine lwc (lwt4 (List.mem_of_getElem? (l := tables_1_4) (i := 111) (by decide +kernel))) ?_
  refine lwc (lwt4 (List.mem_of_getElem? (l := tables_1_4) (i := 112) (by decide +kernel))) ?_
  refine lwc (lwt4 (List.mem_of_getElem? (l := tables_1_4) (i := 113) rfl)) ?_
  refine lwc (lwt2 (List.mem_of_getElem? (l := tables_1_2) (i := 192) (by decide +kernel))) ?_
  refine lwc (lwt2 (List.mem_of_getElem? (l := tables_1_2) (i := 193) (by decide +kernel))) ?_
  refine lwc (lwt2 (List.mem_of_getElem? (l := tables_1_2) (i := 194) (by decide +kernel))) ?_
  exact lwn
theorem iwsL_law_r26 : ∀ w ∈ wsL_law_r26, w ∈ lw_tbl := by
  refine lwc (lwt2 (List.mem_of_getElem? (l := tables_1_2) (i := 195) rfl)) ?_
  refine lwc (lwt2 (List.mem_of_getElem? (l := tables_1_2) (i := 196) (by decide +kernel))) ?_
  refine lwc (lwt2 (List.mem_of_getElem? (l := tables_1_2) (i := 197) (by decide +kernel))) ?_
  refine lwc (lwt2 (List.mem_of_getElem? (l := tables_1_2) (i := 198) rfl)) ?_
  refine lwc (lwt2 (List.mem_of_getElem? (l := tables_1_2) (i := 199) (by decide +kernel))) ?_
  refine lwc (lwt4 (List.mem_of_getElem? (l := tables_1_4) (i := 114) (by decide +kernel))) ?_
  refine lwc (lwt4 (List.mem_of_getElem? (l := tables_1_4) (i := 115) (by decide +kernel))) ?_
  refine lwc (lwt4 (List.mem_of_getElem? (l := tables_1_4) (i := 116) (by decide +kernel))) ?_
  refine lwc (lwt4 (List.mem_of_getElem? (l := tables_1_4) (i := 117) rfl)) ?_
  refine lwc (lwt4 (List.mem_of_getElem? (l := tables_1_4) (i := 118) (by decide +kernel))) ?_
  refine lwc (lwt4 (List.mem_of_getElem? (l := tables_1_4) (i := 120) (by decide +kernel))) ?_
  refine lwc (lws (List.mem_of_getElem? (i := 57) (by decide +kernel))) ?_
  refine lwc (lwt4 (List.mem_of_getElem? (l := tables_1_4) (i := 121) rfl)) ?_
  refine lwc (lwt2 (List.mem_of_getElem? (l := tables_1_2) (i := 200) (by decide +kernel))) ?_
  refine lwc (lwt2 (List.mem_of_getElem? (l := tables_1_2) (i := 201) (by decide +kernel))) ?_
  refine lwc (lwt2 (List.mem_of_getElem? (l := tables_1_2) (i := 202) (by decide +kernel))) ?_
  refine lwc (lwt2 (List.mem_of_getElem? (l := tables_1_2) (i := 203) rfl)) ?_
  refine lwc (lwt2 (List.mem_of_getElem? (l := tables_1_2) (i := 204) (by decide +kernel))) ?_
  refine lwc (lwt2 (List.mem_of_getElem? (l := tables_1_2) (i := 205) (by decide +kernel))) ?_
  refine lwc (lwt2 (List.mem_of_getElem? (l := tables_1_2) (i := 206) rfl)) ?_
  refine lwc (lwt2 (List.mem_of_getElem? (l := tables_1_2) (i := 207) (by decide +kernel))) ?_
  refine lwc (lwt2 (List.mem_of_getElem? (l := tables_1_2) (i := 208) (by decide +kernel))) ?_
  refine lwc (lwt2 (List.mem_of_getElem? (l := tables_1_2) (i := 209) (by decide +kernel))) ?_
  refine lwc (lwt2 (List.mem_of_getElem? (l := tables_1_2) (i := 210) (by decide +kernel))) ?_
  exact lwn
theorem iwsL_law_r27 : ∀ w ∈ wsL_law_r27, w ∈ lw_tbl := by
  refine lwc (lwt2 (List.mem_of_getElem? (l := tables_1_2) (i := 211) (by decide +kernel))) ?_
  refine lwc (lwt2 (List.mem_of_getElem? (l := tables_1_2) (i := 212) (by decide +kernel))) ?_
  refine lwc (lwt2 (List.mem_of_getElem? (l := tables_1_2) (i := 213) rfl)) ?_
  refine lwc (lwt1 (List.mem_of_getElem? (l := tables_1_1) (i := 114) (by decide +kernel))) ?_
  refine lwc (lwt4 (List.mem_of_getElem? (l := tables_1_4) (i := 122) (by decide +kernel))) ?_
  refine lwc (lwt4 (List.mem_of_getElem? (l := tables_1_4) (i := 123) (by decide +kernel))) ?_
  refine lwc (lwt4 (List.mem_of_getElem? (l := tables_1_4) (i := 124) (by decide +kernel))) ?_
  refine lwc (lwt4 (List.mem_of_getElem? (l := tables_1_4) (i := 125) rfl)) ?_
  refine lwc (lwt4 (List.mem_of_getElem? (l := tables_1_4) (i := 126) (by decide +kernel))) ?_
  refine lwc (lwt2 (List.mem_of_getElem? (l := tables_1_2) (i := 214) (by decide +kernel))) ?_
  refine lwc (lwt2 (List.mem_of_getElem? (l := tables_1_2) (i := 215) (by decide +kernel))) ?_
  refine lwc (lwt2 (List.mem_of_getElem? (l := tables_1_2) (i := 216) (by decide +kernel))) ?_
  refine lwc (lwt2 (List.mem_of_getElem? (l := tables_1_2) (i := 217) rfl)) ?_
  refine lwc (lwt4 (List.mem_of_getElem? (l := tables_1_4) (i := 127) (by decide +kernel))) ?_
  refine lwc (lwt4 (List.mem_of_getElem? (l := tables_1_4) (i := 128) (by decide +kernel))) ?_
  refine lwc (lwt4 (List.mem_of_getElem? (l := tables_1_4) (i := 129) (by decide +kernel))) ?_
  refine lwc (lwt4 (List.mem_of_getElem? (l := tables_1_4) (i := 130) rfl)) ?_
  refine lwc (lwt2 (List.mem_of_getElem? (l := tables_1_2) (i := 218) (by decide +kernel))) ?_
  refine lwc (lwt2 (List.mem_of_getElem? (l := tables_1_2) (i := 219) (by decide +kernel))) ?_
  refine lwc (lwt2 (List.mem_of_getElem? (l := tables_1_2) (i := 220) (by decide +kernel))) ?_
  refine lwc (lwt2 (List.mem_of_getElem? (l := tables_1_2) (i := 221) rfl)) ?_
  refine lwc (lwt2 (List.mem_of_getElem? (l := tables_1_2) (i := 222) (by decide +kernel))) ?_
  refine lwc (lwt2 (List.mem_of_getElem? (l := tables_1_2) (i := 223) (by decide +kernel))) ?_
  refine lwc (lwt2 (List.mem_of_getElem? (l := tables_1_2) (i := 224) (by decide +kernel))) ?_
  exact lwn
