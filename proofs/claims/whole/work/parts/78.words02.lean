theorem iwsL_law_r10 : ∀ w ∈ wsL_law_r10, w ∈ lw_tbl := by
  refine lwc (lwt3 (List.mem_of_getElem? (l := tables_1_3) (i := 148) rfl)) ?_
  refine lwc (lwt3 (List.mem_of_getElem? (l := tables_1_3) (i := 68) (by decide +kernel))) ?_
  refine lwc (lwt2 (List.mem_of_getElem? (l := tables_1_2) (i := 17) (by decide +kernel))) ?_
  refine lwc (lwt2 (List.mem_of_getElem? (l := tables_1_2) (i := 18) (by decide +kernel))) ?_
  refine lwc (lwt2 (List.mem_of_getElem? (l := tables_1_2) (i := 19) (by decide +kernel))) ?_
  refine lwc (lwt2 (List.mem_of_getElem? (l := tables_1_2) (i := 20) rfl)) ?_
  refine lwc (lwt2 (List.mem_of_getElem? (l := tables_1_2) (i := 21) (by decide +kernel))) ?_
  refine lwc (lwt2 (List.mem_of_getElem? (l := tables_1_2) (i := 22) (by decide +kernel))) ?_
  refine lwc (lwt2 (List.mem_of_getElem? (l := tables_1_2) (i := 23) (by decide +kernel))) ?_
  refine lwc (lwt2 (List.mem_of_getElem? (l := tables_1_2) (i := 24) rfl)) ?_
  refine lwc (lwt2 (List.mem_of_getElem? (l := tables_1_2) (i := 25) (by decide +kernel))) ?_
  refine lwc (lwt2 (List.mem_of_getElem? (l := tables_1_2) (i := 26) (by decide +kernel))) ?_
  refine lwc (lwt2 (List.mem_of_getElem? (l := tables_1_2) (i := 27) rfl)) ?_
  refine lwc (lwt2 (List.mem_of_getElem? (l := tables_1_2) (i := 28) (by decide +kernel))) ?_
  refine lwc (lwt2 (List.mem_of_getElem? (l := tables_1_2) (i := 30) (by decide +kernel))) ?_
  refine lwc (lws (List.mem_of_getElem? (i := 8) (by decide +kernel))) ?_
  refine lwc (lwt2 (List.mem_of_getElem? (l := tables_1_2) (i := 31) rfl)) ?_
  refine lwc (lwt2 (List.mem_of_getElem? (l := tables_1_2) (i := 32) (by decide +kernel))) ?_
  refine lwc (lwt2 (List.mem_of_getElem? (l := tables_1_2) (i := 33) (by decide +kernel))) ?_
  refine lwc (lwt2 (List.mem_of_getElem? (l := tables_1_2) (i := 34) (by decide +kernel))) ?_
  refine lwc (lwt2 (List.mem_of_getElem? (l := tables_1_2) (i := 35) rfl)) ?_
  refine lwc (lwt2 (List.mem_of_getElem? (l := tables_1_2) (i := 36) (by decide +kernel))) ?_
  refine lwc (lwt2 (List.mem_of_getElem? (l := tables_1_2) (i := 37) (by decide +kernel))) ?_
  refine lwc (lwt2 (List.mem_of_getElem? (l := tables_1_2) (i := 38) (by decide +kernel))) ?_
  exact lwn
theorem iwsL_law_r11 : ∀ w ∈ wsL_law_r11, w ∈ lw_tbl := by
  refine lwc (lwt2 (List.mem_of_getElem? (l := tables_1_2) (i := 39) rfl)) ?_
  refine lwc (lwt2 (List.mem_of_getElem? (l := tables_1_2) (i := 40) (by decide +kernel))) ?_
  refine lwc (lwt2 (List.mem_of_getElem? (l := tables_1_2) (i := 41) (by decide +kernel))) ?_
  refine lwc (lwt2 (List.mem_of_getElem? (l := tables_1_2) (i := 42) (by decide +kernel))) ?_
  refine lwc (lwt2 (List.mem_of_getElem? (l := tables_1_2) (i := 43) rfl)) ?_
  refine lwc (lwt2 (List.mem_of_getElem? (l := tables_1_2) (i := 44) (by decide +kernel))) ?_
  refine lwc (lwt3 (List.mem_of_getElem? (l := tables_1_3) (i := 153) (by decide +kernel))) ?_
  refine lwc (lwt3 (List.mem_of_getElem? (l := tables_1_3) (i := 154) (by decide +kernel))) ?_
  refine lwc (lwt3 (List.mem_of_getElem? (l := tables_1_3) (i := 155) (by decide +kernel))) ?_
  refine lwc (lwt3 (List.mem_of_getElem? (l := tables_1_3) (i := 156) rfl)) ?_
  refine lwc (lwt3 (List.mem_of_getElem? (l := tables_1_3) (i := 157) (by decide +kernel))) ?_
  refine lwc (lwt3 (List.mem_of_getElem? (l := tables_1_3) (i := 159) (by decide +kernel))) ?_
  refine lwc (lws (List.mem_of_getElem? (i := 22) (by decide +kernel))) ?_
  refine lwc (lwt3 (List.mem_of_getElem? (l := tables_1_3) (i := 160) rfl)) ?_
  refine lwc (lwt3 (List.mem_of_getElem? (l := tables_1_3) (i := 161) (by decide +kernel))) ?_
  refine lwc (lwt3 (List.mem_of_getElem? (l := tables_1_3) (i := 163) (by decide +kernel))) ?_
  refine lwc (lws (List.mem_of_getElem? (i := 23) (by decide +kernel))) ?_
  refine lwc (lwt3 (List.mem_of_getElem? (l := tables_1_3) (i := 164) rfl)) ?_
  refine lwc (lwt3 (List.mem_of_getElem? (l := tables_1_3) (i := 165) (by decide +kernel))) ?_
  refine lwc (lwt3 (List.mem_of_getElem? (l := tables_1_3) (i := 166) (by decide +kernel))) ?_
  refine lwc (lwt3 (List.mem_of_getElem? (l := tables_1_3) (i := 167) rfl)) ?_
  refine lwc (lwt3 (List.mem_of_getElem? (l := tables_1_3) (i := 168) (by decide +kernel))) ?_
  refine lwc (lwt3 (List.mem_of_getElem? (l := tables_1_3) (i := 170) (by decide +kernel))) ?_
  refine lwc (lws (List.mem_of_getElem? (i := 24) (by decide +kernel))) ?_
  exact lwn
theorem iwsL_law_r12 : ∀ w ∈ wsL_law_r12, w ∈ lw_tbl := by
  refine lwc (lwt3 (List.mem_of_getElem? (l := tables_1_3) (i := 171) rfl)) ?_
  refine lwc (lwt3 (List.mem_of_getElem? (l := tables_1_3) (i := 172) (by decide +kernel))) ?_
  refine lwc (lwt3 (List.mem_of_getElem? (l := tables_1_3) (i := 174) (by decide +kernel))) ?_
  refine lwc (lws (List.mem_of_getElem? (i := 25) (by decide +kernel))) ?_
  refine lwc (lwt3 (List.mem_of_getElem? (l := tables_1_3) (i := 175) rfl)) ?_
  refine lwc (lwt3 (List.mem_of_getElem? (l := tables_1_3) (i := 176) (by decide +kernel))) ?_
  refine lwc (lwt3 (List.mem_of_getElem? (l := tables_1_3) (i := 178) (by decide +kernel))) ?_
  refine lwc (lws (List.mem_of_getElem? (i := 26) (by decide +kernel))) ?_
  refine lwc (lwt3 (List.mem_of_getElem? (l := tables_1_3) (i := 179) rfl)) ?_
  refine lwc (lwt3 (List.mem_of_getElem? (l := tables_1_3) (i := 180) (by decide +kernel))) ?_
  refine lwc (lwt3 (List.mem_of_getElem? (l := tables_1_3) (i := 182) (by decide +kernel))) ?_
  refine lwc (lws (List.mem_of_getElem? (i := 27) (by decide +kernel))) ?_
  refine lwc (lwt3 (List.mem_of_getElem? (l := tables_1_3) (i := 183) rfl)) ?_
  refine lwc (lwt3 (List.mem_of_getElem? (l := tables_1_3) (i := 79) (by decide +kernel))) ?_
  refine lwc (lwt3 (List.mem_of_getElem? (l := tables_1_3) (i := 80) (by decide +kernel))) ?_
  refine lwc (lwt3 (List.mem_of_getElem? (l := tables_1_3) (i := 184) (by decide +kernel))) ?_
  refine lwc (lwt3 (List.mem_of_getElem? (l := tables_1_3) (i := 186) (by decide +kernel))) ?_
  refine lwc (lws (List.mem_of_getElem? (i := 28) (by decide +kernel))) ?_
  refine lwc (lwt3 (List.mem_of_getElem? (l := tables_1_3) (i := 187) rfl)) ?_
  refine lwc (lwt3 (List.mem_of_getElem? (l := tables_1_3) (i := 188) (by decide +kernel))) ?_
  refine lwc (lwt3 (List.mem_of_getElem? (l := tables_1_3) (i := 190) (by decide +kernel))) ?_
  refine lwc (lws (List.mem_of_getElem? (i := 29) (by decide +kernel))) ?_
  refine lwc (lwt3 (List.mem_of_getElem? (l := tables_1_3) (i := 191) rfl)) ?_
  refine lwc (lwt3 (List.mem_of_getElem? (l := tables_1_3) (i := 192) (by decide +kernel))) ?_
  exact lwn
theorem iwsL_law_r13 : ∀ w ∈ wsL_law_r13, w ∈ lw_tbl := by
  refine lwc (lwt3 (List.mem_of_getElem? (l := tables_1_3) (i := 194) (by decide +kernel))) ?_
  refine lwc (lws (List.mem_of_getElem? (i := 30) (by decide +kernel))) ?_
  refine lwc (lwt3 (List.mem_of_getElem? (l := tables_1_3) (i := 195) rfl)) ?_
  refine lwc (lwt3 (List.mem_of_getElem? (l := tables_1_3) (i := 196) (by decide +kernel))) ?_
  refine lwc (lwt3 (List.mem_of_getElem? (l := tables_1_3) (i := 198) (by decide +kernel))) ?_
  refine lwc (lws (List.mem_of_getElem? (i := 31) (by decide +kernel))) ?_
  refine lwc (lwt3 (List.mem_of_getElem? (l := tables_1_3) (i := 199) rfl)) ?_
  refine lwc (lwt3 (List.mem_of_getElem? (l := tables_1_3) (i := 200) (by decide +kernel))) ?_
  refine lwc (lwt3 (List.mem_of_getElem? (l := tables_1_3) (i := 202) (by decide +kernel))) ?_
  refine lwc (lws (List.mem_of_getElem? (i := 32) (by decide +kernel))) ?_
  refine lwc (lwt3 (List.mem_of_getElem? (l := tables_1_3) (i := 203) rfl)) ?_
  refine lwc (lwt3 (List.mem_of_getElem? (l := tables_1_3) (i := 204) (by decide +kernel))) ?_
  refine lwc (lwt3 (List.mem_of_getElem? (l := tables_1_3) (i := 206) (by decide +kernel))) ?_
  refine lwc (lws (List.mem_of_getElem? (i := 33) (by decide +kernel))) ?_
  refine lwc (lwt3 (List.mem_of_getElem? (l := tables_1_3) (i := 207) rfl)) ?_
  refine lwc (lwt3 (List.mem_of_getElem? (l := tables_1_3) (i := 208) (by decide +kernel))) ?_
  refine lwc (lwt3 (List.mem_of_getElem? (l := tables_1_3) (i := 210) (by decide +kernel))) ?_
  refine lwc (lws (List.mem_of_getElem? (i := 34) (by decide +kernel))) ?_
  refine lwc (lwt3 (List.mem_of_getElem? (l := tables_1_3) (i := 211) rfl)) ?_
  refine lwc (lwt3 (List.mem_of_getElem? (l := tables_1_3) (i := 212) (by decide +kernel))) ?_
  refine lwc (lwt3 (List.mem_of_getElem? (l := tables_1_3) (i := 214) (by decide +kernel))) ?_
  refine lwc (lws (List.mem_of_getElem? (i := 35) (by decide +kernel))) ?_
  refine lwc (lwt3 (List.mem_of_getElem? (l := tables_1_3) (i := 215) rfl)) ?_
  refine lwc (lwt3 (List.mem_of_getElem? (l := tables_1_3) (i := 216) (by decide +kernel))) ?_
  exact lwn
theorem iwsL_law_r14 : ∀ w ∈ wsL_law_r14, w ∈ lw_tbl := by
  refine lwc (lwt3 (List.mem_of_getElem? (l := tables_1_3) (i := 218) (by decide +kernel))) ?_
  refine lwc (lws (List.mem_of_getElem? (i := 36) (by decide +kernel))) ?_
  refine lwc (lwt3 (List.mem_of_getElem? (l := tables_1_3) (i := 219) rfl)) ?_
  refine lwc (lwt3 (List.mem_of_getElem? (l := tables_1_3) (i := 220) (by decide +kernel))) ?_
  refine lwc (lwt3 (List.mem_of_getElem? (l := tables_1_3) (i := 222) (by decide +kernel))) ?_
  refine lwc (lws (List.mem_of_getElem? (i := 37) (by decide +kernel))) ?_
  refine lwc (lwt3 (List.mem_of_getElem? (l := tables_1_3) (i := 223) rfl)) ?_
  refine lwc (lwt3 (List.mem_of_getElem? (l := tables_1_3) (i := 227) (by decide +kernel))) ?_
  refine lwc (lwt3 (List.mem_of_getElem? (l := tables_1_3) (i := 224) (by decide +kernel))) ?_
  refine lwc (lwt3 (List.mem_of_getElem? (l := tables_1_3) (i := 225) (by decide +kernel))) ?_
  refine lwc (lwt3 (List.mem_of_getElem? (l := tables_1_3) (i := 226) rfl)) ?_
  refine lwc (lwt3 (List.mem_of_getElem? (l := tables_1_3) (i := 228) (by decide +kernel))) ?_
  refine lwc (lwt3 (List.mem_of_getElem? (l := tables_1_3) (i := 230) (by decide +kernel))) ?_
  refine lwc (lws (List.mem_of_getElem? (i := 38) (by decide +kernel))) ?_
  refine lwc (lwt3 (List.mem_of_getElem? (l := tables_1_3) (i := 231) rfl)) ?_
  refine lwc (lwt3 (List.mem_of_getElem? (l := tables_1_3) (i := 232) (by decide +kernel))) ?_
  refine lwc (lwt3 (List.mem_of_getElem? (l := tables_1_3) (i := 234) (by decide +kernel))) ?_
  refine lwc (lws (List.mem_of_getElem? (i := 39) (by decide +kernel))) ?_
  refine lwc (lwt3 (List.mem_of_getElem? (l := tables_1_3) (i := 235) rfl)) ?_
  refine lwc (lwt3 (List.mem_of_getElem? (l := tables_1_3) (i := 236) (by decide +kernel))) ?_
  refine lwc (lwt3 (List.mem_of_getElem? (l := tables_1_3) (i := 237) (by decide +kernel))) ?_
  refine lwc (lwt3 (List.mem_of_getElem? (l := tables_1_3) (i := 238) rfl)) ?_
  refine lwc (lwt3 (List.mem_of_getElem? (l := tables_1_3) (i := 239) (by decide +kernel))) ?_
  refine lwc (lwt4 (List.mem_of_getElem? (l := tables_1_4) (i := 1) (by decide +kernel))) ?_
  exact lwn
theorem iwsL_law_r15 : ∀ w ∈ wsL_law_r15, w ∈ lw_tbl := by
  refine lwc (lws (List.mem_of_getElem? (i := 40) (by decide +kernel))) ?_
  refine lwc (lwt4 (List.mem_of_getElem? (l := tables_1_4) (i := 2) rfl)) ?_
  refine lwc (lwt4 (List.mem_of_getElem? (l := tables_1_4) (i := 3) (by decide +kernel))) ?_
  refine lwc (lwt4 (List.mem_of_getElem? (l := tables_1_4) (i := 5) (by decide +kernel))) ?_
  refine lwc (lws (List.mem_of_getElem? (i := 41) (by decide +kernel))) ?_
  refine lwc (lwt4 (List.mem_of_getElem? (l := tables_1_4) (i := 6) rfl)) ?_
  refine lwc (lwt4 (List.mem_of_getElem? (l := tables_1_4) (i := 7) (by decide +kernel))) ?_
  refine lwc (lwt4 (List.mem_of_getElem? (l := tables_1_4) (i := 9) (by decide +kernel))) ?_
  refine lwc (lws (List.mem_of_getElem? (i := 42) (by decide +kernel))) ?_
  refine lwc (lwt4 (List.mem_of_getElem? (l := tables_1_4) (i := 10) rfl)) ?_
  refine lwc (lwt4 (List.mem_of_getElem? (l := tables_1_4) (i := 11) (by decide +kernel))) ?_
  refine lwc (lwt4 (List.mem_of_getElem? (l := tables_1_4) (i := 13) (by decide +kernel))) ?_
  refine lwc (lws (List.mem_of_getElem? (i := 43) (by decide +kernel))) ?_
  refine lwc (lwt4 (List.mem_of_getElem? (l := tables_1_4) (i := 14) rfl)) ?_
  refine lwc (lwt2 (List.mem_of_getElem? (l := tables_1_2) (i := 45) (by decide +kernel))) ?_
  refine lwc (lwt2 (List.mem_of_getElem? (l := tables_1_2) (i := 46) (by decide +kernel))) ?_
  refine lwc (lwt2 (List.mem_of_getElem? (l := tables_1_2) (i := 47) (by decide +kernel))) ?_
  refine lwc (lwt2 (List.mem_of_getElem? (l := tables_1_2) (i := 48) rfl)) ?_
  refine lwc (lwt2 (List.mem_of_getElem? (l := tables_1_2) (i := 49) (by decide +kernel))) ?_
  refine lwc (lwt2 (List.mem_of_getElem? (l := tables_1_2) (i := 51) (by decide +kernel))) ?_
  refine lwc (lws (List.mem_of_getElem? (i := 9) (by decide +kernel))) ?_
  refine lwc (lwt2 (List.mem_of_getElem? (l := tables_1_2) (i := 52) rfl)) ?_
  refine lwc (lwt2 (List.mem_of_getElem? (l := tables_1_2) (i := 53) (by decide +kernel))) ?_
  refine lwc (lwt2 (List.mem_of_getElem? (l := tables_1_2) (i := 54) (by decide +kernel))) ?_
  exact lwn
theorem iwsL_law_r16 : ∀ w ∈ wsL_law_r16, w ∈ lw_tbl := by
  refine lwc (lwt2 (List.mem_of_getElem? (l := tables_1_2) (i := 55) rfl)) ?_
  refine lwc (lwt2 (List.mem_of_getElem? (l := tables_1_2) (i := 56) (by decide +kernel))) ?_
  refine lwc (lwt2 (List.mem_of_getElem? (l := tables_1_2) (i := 57) (by decide +kernel))) ?_
  refine lwc (lwt2 (List.mem_of_getElem? (l := tables_1_2) (i := 58) rfl)) ?_
  refine lwc (lwt2 (List.mem_of_getElem? (l := tables_1_2) (i := 59) (by decide +kernel))) ?_
  refine lwc (lwt2 (List.mem_of_getElem? (l := tables_1_2) (i := 60) (by decide +kernel))) ?_
  refine lwc (lwt2 (List.mem_of_getElem? (l := tables_1_2) (i := 61) rfl)) ?_
  refine lwc (lwt2 (List.mem_of_getElem? (l := tables_1_2) (i := 62) (by decide +kernel))) ?_
  refine lwc (lwt2 (List.mem_of_getElem? (l := tables_1_2) (i := 63) (by decide +kernel))) ?_
  refine lwc (lwt2 (List.mem_of_getElem? (l := tables_1_2) (i := 64) rfl)) ?_
  refine lwc (lwt4 (List.mem_of_getElem? (l := tables_1_4) (i := 15) (by decide +kernel))) ?_
  refine lwc (lwt4 (List.mem_of_getElem? (l := tables_1_4) (i := 16) (by decide +kernel))) ?_
  refine lwc (lwt4 (List.mem_of_getElem? (l := tables_1_4) (i := 17) (by decide +kernel))) ?_
  refine lwc (lwt4 (List.mem_of_getElem? (l := tables_1_4) (i := 18) rfl)) ?_
  refine lwc (lwt4 (List.mem_of_getElem? (l := tables_1_4) (i := 19) (by decide +kernel))) ?_
  refine lwc (lwt4 (List.mem_of_getElem? (l := tables_1_4) (i := 21) (by decide +kernel))) ?_
  refine lwc (lws (List.mem_of_getElem? (i := 44) (by decide +kernel))) ?_
  refine lwc (lwt4 (List.mem_of_getElem? (l := tables_1_4) (i := 22) rfl)) ?_
  refine lwc (lwt4 (List.mem_of_getElem? (l := tables_1_4) (i := 23) (by decide +kernel))) ?_
  refine lwc (lwt4 (List.mem_of_getElem? (l := tables_1_4) (i := 24) (by decide +kernel))) ?_
  refine lwc (lwt4 (List.mem_of_getElem? (l := tables_1_4) (i := 25) rfl)) ?_
  refine lwc (lwt4 (List.mem_of_getElem? (l := tables_1_4) (i := 26) (by decide +kernel))) ?_
  refine lwc (lwt4 (List.mem_of_getElem? (l := tables_1_4) (i := 28) (by decide +kernel))) ?_
  refine lwc (lws (List.mem_of_getElem? (i := 45) (by decide +kernel))) ?_
  exact lwn
theorem iwsL_law_r17 : ∀ w ∈ wsL_law_r17, w ∈ lw_tbl := by
  refine lwc (lwt4 (List.mem_of_getElem? (l := tables_1_4) (i := 29) rfl)) ?_
  refine lwc (lwt2 (List.mem_of_getElem? (l := tables_1_2) (i := 65) (by decide +kernel))) ?_
  refine lwc (lwt2 (List.mem_of_getElem? (l := tables_1_2) (i := 66) (by decide +kernel))) ?_
  refine lwc (lwt2 (List.mem_of_getElem? (l := tables_1_2) (i := 67) (by decide +kernel))) ?_
  refine lwc (lwt2 (List.mem_of_getElem? (l := tables_1_2) (i := 68) rfl)) ?_
  refine lwc (lwt4 (List.mem_of_getElem? (l := tables_1_4) (i := 30) (by decide +kernel))) ?_
  refine lwc (lwt4 (List.mem_of_getElem? (l := tables_1_4) (i := 31) (by decide +kernel))) ?_
  refine lwc (lwt4 (List.mem_of_getElem? (l := tables_1_4) (i := 32) (by decide +kernel))) ?_
  refine lwc (lwt4 (List.mem_of_getElem? (l := tables_1_4) (i := 33) rfl)) ?_
  refine lwc (lwt4 (List.mem_of_getElem? (l := tables_1_4) (i := 34) (by decide +kernel))) ?_
  refine lwc (lwt4 (List.mem_of_getElem? (l := tables_1_4) (i := 36) (by decide +kernel))) ?_
  refine lwc (lws (List.mem_of_getElem? (i := 46) (by decide +kernel))) ?_
  refine lwc (lwt4 (List.mem_of_getElem? (l := tables_1_4) (i := 37) rfl)) ?_
  refine lwc (lwt2 (List.mem_of_getElem? (l := tables_1_2) (i := 69) (by decide +kernel))) ?_
  refine lwc (lwt2 (List.mem_of_getElem? (l := tables_1_2) (i := 70) (by decide +kernel))) ?_
  refine lwc (lwt2 (List.mem_of_getElem? (l := tables_1_2) (i := 71) (by decide +kernel))) ?_
  refine lwc (lwt2 (List.mem_of_getElem? (l := tables_1_2) (i := 72) rfl)) ?_
  refine lwc (lwt2 (List.mem_of_getElem? (l := tables_1_2) (i := 73) (by decide +kernel))) ?_
  refine lwc (lwt2 (List.mem_of_getElem? (l := tables_1_2) (i := 74) (by decide +kernel))) ?_
  refine lwc (lwt2 (List.mem_of_getElem? (l := tables_1_2) (i := 75) (by decide +kernel))) ?_
  refine lwc (lwt2 (List.mem_of_getElem? (l := tables_1_2) (i := 76) rfl)) ?_
  refine lwc (lwt2 (List.mem_of_getElem? (l := tables_1_2) (i := 77) (by decide +kernel))) ?_
  refine lwc (lwt2 (List.mem_of_getElem? (l := tables_1_2) (i := 78) (by decide +kernel))) ?_
  refine lwc (lwt2 (List.mem_of_getElem? (l := tables_1_2) (i := 79) (by decide +kernel))) ?_
  exact lwn
theorem iwsL_law_r18 : ∀ w ∈ wsL_law_r18, w ∈ lw_tbl := by
  refine lwc (lwt2 (List.mem_of_getElem? (l := tables_1_2) (i := 80) rfl)) ?_
  refine lwc (lwt2 (List.mem_of_getElem? (l := tables_1_2) (i := 81) (by decide +kernel))) ?_
  refine lwc (lwt4 (List.mem_of_getElem? (l := tables_1_4) (i := 38) (by decide +kernel))) ?_
  refine lwc (lwt4 (List.mem_of_getElem? (l := tables_1_4) (i := 39) (by decide +kernel))) ?_
  refine lwc (lwt4 (List.mem_of_getElem? (l := tables_1_4) (i := 40) (by decide +kernel))) ?_
  refine lwc (lwt4 (List.mem_of_getElem? (l := tables_1_4) (i := 41) rfl)) ?_
  refine lwc (lwt4 (List.mem_of_getElem? (l := tables_1_4) (i := 42) (by decide +kernel))) ?_
  refine lwc (lwt4 (List.mem_of_getElem? (l := tables_1_4) (i := 44) (by decide +kernel))) ?_
  refine lwc (lws (List.mem_of_getElem? (i := 47) (by decide +kernel))) ?_
  refine lwc (lwt4 (List.mem_of_getElem? (l := tables_1_4) (i := 45) rfl)) ?_
  refine lwc (lwt2 (List.mem_of_getElem? (l := tables_1_2) (i := 82) (by decide +kernel))) ?_
  refine lwc (lwt2 (List.mem_of_getElem? (l := tables_1_2) (i := 83) (by decide +kernel))) ?_
  refine lwc (lwt2 (List.mem_of_getElem? (l := tables_1_2) (i := 84) (by decide +kernel))) ?_
  refine lwc (lwt2 (List.mem_of_getElem? (l := tables_1_2) (i := 85) rfl)) ?_
  refine lwc (lwt2 (List.mem_of_getElem? (l := tables_1_2) (i := 86) (by decide +kernel))) ?_
  refine lwc (lwt2 (List.mem_of_getElem? (l := tables_1_2) (i := 87) (by decide +kernel))) ?_
  refine lwc (lwt2 (List.mem_of_getElem? (l := tables_1_2) (i := 88) (by decide +kernel))) ?_
  refine lwc (lwt2 (List.mem_of_getElem? (l := tables_1_2) (i := 89) (by decide +kernel))) ?_
  refine lwc (lwt2 (List.mem_of_getElem? (l := tables_1_2) (i := 90) rfl)) ?_
  refine lwc (lwt2 (List.mem_of_getElem? (l := tables_1_2) (i := 91) (by decide +kernel))) ?_
  refine lwc (lwt2 (List.mem_of_getElem? (l := tables_1_2) (i := 92) (by decide +kernel))) ?_
  refine lwc (lwt2 (List.mem_of_getElem? (l := tables_1_2) (i := 93) (by decide +kernel))) ?_
  refine lwc (lwt2 (List.mem_of_getElem? (l := tables_1_2) (i := 94) (by decide +kernel))) ?_
  refine lwc (lwt2 (List.mem_of_getElem? (l := tables_1_2) (i := 95) rfl)) ?_
  exact lwn
