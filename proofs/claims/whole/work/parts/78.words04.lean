theorem iwsL_law_r28 : ∀ w ∈ wsL_law_r28, w ∈ lw_tbl := by
  refine lwc (lwt2 (List.mem_of_getElem? (l := tables_1_2) (i := 225) rfl)) ?_
  refine lwc (lwt2 (List.mem_of_getElem? (l := tables_1_2) (i := 226) (by decide +kernel))) ?_
  refine lwc (lwt2 (List.mem_of_getElem? (l := tables_1_2) (i := 227) (by decide +kernel))) ?_
  refine lwc (lwt2 (List.mem_of_getElem? (l := tables_1_2) (i := 228) (by decide +kernel))) ?_
  refine lwc (lwt2 (List.mem_of_getElem? (l := tables_1_2) (i := 229) rfl)) ?_
  refine lwc (lwt2 (List.mem_of_getElem? (l := tables_1_2) (i := 230) (by decide +kernel))) ?_
  refine lwc (lwt2 (List.mem_of_getElem? (l := tables_1_2) (i := 231) (by decide +kernel))) ?_
  refine lwc (lwt2 (List.mem_of_getElem? (l := tables_1_2) (i := 232) rfl)) ?_
  refine lwc (lwt2 (List.mem_of_getElem? (l := tables_1_2) (i := 233) (by decide +kernel))) ?_
  refine lwc (lwt2 (List.mem_of_getElem? (l := tables_1_2) (i := 234) (by decide +kernel))) ?_
  refine lwc (lwt2 (List.mem_of_getElem? (l := tables_1_2) (i := 235) rfl)) ?_
  refine lwc (lwt2 (List.mem_of_getElem? (l := tables_1_2) (i := 236) (by decide +kernel))) ?_
  refine lwc (lwt2 (List.mem_of_getElem? (l := tables_1_2) (i := 237) (by decide +kernel))) ?_
  refine lwc (lwt2 (List.mem_of_getElem? (l := tables_1_2) (i := 238) rfl)) ?_
  refine lwc (lwt2 (List.mem_of_getElem? (l := tables_1_2) (i := 239) (by decide +kernel))) ?_
  refine lwc (lwt3 (List.mem_of_getElem? (l := tables_1_3) (i := 0) (by decide +kernel))) ?_
  refine lwc (lwt3 (List.mem_of_getElem? (l := tables_1_3) (i := 1) rfl)) ?_
  refine lwc (lwt4 (List.mem_of_getElem? (l := tables_1_4) (i := 131) (by decide +kernel))) ?_
  refine lwc (lwt4 (List.mem_of_getElem? (l := tables_1_4) (i := 132) (by decide +kernel))) ?_
  refine lwc (lwt4 (List.mem_of_getElem? (l := tables_1_4) (i := 133) (by decide +kernel))) ?_
  refine lwc (lwt4 (List.mem_of_getElem? (l := tables_1_4) (i := 134) rfl)) ?_
  refine lwc (lwt4 (List.mem_of_getElem? (l := tables_1_4) (i := 135) (by decide +kernel))) ?_
  refine lwc (lwt4 (List.mem_of_getElem? (l := tables_1_4) (i := 137) (by decide +kernel))) ?_
  refine lwc (lws (List.mem_of_getElem? (i := 58) (by decide +kernel))) ?_
  exact lwn
theorem iwsL_law_r29 : ∀ w ∈ wsL_law_r29, w ∈ lw_tbl := by
  refine lwc (lwt4 (List.mem_of_getElem? (l := tables_1_4) (i := 138) rfl)) ?_
  refine lwc (lwt3 (List.mem_of_getElem? (l := tables_1_3) (i := 82) (by decide +kernel))) ?_
  refine lwc (lwt3 (List.mem_of_getElem? (l := tables_1_3) (i := 83) (by decide +kernel))) ?_
  refine lwc (lwt3 (List.mem_of_getElem? (l := tables_1_3) (i := 84) (by decide +kernel))) ?_
  refine lwc (lwt4 (List.mem_of_getElem? (l := tables_1_4) (i := 139) (by decide +kernel))) ?_
  refine lwc (lwt4 (List.mem_of_getElem? (l := tables_1_4) (i := 141) (by decide +kernel))) ?_
  refine lwc (lws (List.mem_of_getElem? (i := 59) (by decide +kernel))) ?_
  refine lwc (lwt4 (List.mem_of_getElem? (l := tables_1_4) (i := 142) rfl)) ?_
  refine lwc (lwt4 (List.mem_of_getElem? (l := tables_1_4) (i := 143) (by decide +kernel))) ?_
  refine lwc (lwt4 (List.mem_of_getElem? (l := tables_1_4) (i := 145) (by decide +kernel))) ?_
  refine lwc (lws (List.mem_of_getElem? (i := 60) (by decide +kernel))) ?_
  refine lwc (lwt4 (List.mem_of_getElem? (l := tables_1_4) (i := 146) rfl)) ?_
  refine lwc (lwt4 (List.mem_of_getElem? (l := tables_1_4) (i := 147) (by decide +kernel))) ?_
  refine lwc (lwt4 (List.mem_of_getElem? (l := tables_1_4) (i := 149) (by decide +kernel))) ?_
  refine lwc (lws (List.mem_of_getElem? (i := 61) (by decide +kernel))) ?_
  refine lwc (lwt4 (List.mem_of_getElem? (l := tables_1_4) (i := 150) rfl)) ?_
  refine lwc (lwt4 (List.mem_of_getElem? (l := tables_1_4) (i := 151) (by decide +kernel))) ?_
  refine lwc (lwt4 (List.mem_of_getElem? (l := tables_1_4) (i := 153) (by decide +kernel))) ?_
  refine lwc (lws (List.mem_of_getElem? (i := 62) (by decide +kernel))) ?_
  refine lwc (lwt4 (List.mem_of_getElem? (l := tables_1_4) (i := 154) rfl)) ?_
  refine lwc (lwt4 (List.mem_of_getElem? (l := tables_1_4) (i := 155) (by decide +kernel))) ?_
  refine lwc (lwt4 (List.mem_of_getElem? (l := tables_1_4) (i := 157) (by decide +kernel))) ?_
  refine lwc (lws (List.mem_of_getElem? (i := 63) (by decide +kernel))) ?_
  refine lwc (lwt4 (List.mem_of_getElem? (l := tables_1_4) (i := 158) rfl)) ?_
  exact lwn
theorem iwsL_law_r30 : ∀ w ∈ wsL_law_r30, w ∈ lw_tbl := by
  refine lwc (lwt4 (List.mem_of_getElem? (l := tables_1_4) (i := 159) (by decide +kernel))) ?_
  refine lwc (lwt4 (List.mem_of_getElem? (l := tables_1_4) (i := 161) (by decide +kernel))) ?_
  refine lwc (lws (List.mem_of_getElem? (i := 64) (by decide +kernel))) ?_
  refine lwc (lwt4 (List.mem_of_getElem? (l := tables_1_4) (i := 162) rfl)) ?_
  refine lwc (lwt4 (List.mem_of_getElem? (l := tables_1_4) (i := 163) (by decide +kernel))) ?_
  refine lwc (lwt4 (List.mem_of_getElem? (l := tables_1_4) (i := 165) (by decide +kernel))) ?_
  refine lwc (lws (List.mem_of_getElem? (i := 65) (by decide +kernel))) ?_
  refine lwc (lwt4 (List.mem_of_getElem? (l := tables_1_4) (i := 166) rfl)) ?_
  refine lwc (lwt3 (List.mem_of_getElem? (l := tables_1_3) (i := 2) (by decide +kernel))) ?_
  refine lwc (lwt3 (List.mem_of_getElem? (l := tables_1_3) (i := 3) (by decide +kernel))) ?_
  refine lwc (lwt3 (List.mem_of_getElem? (l := tables_1_3) (i := 4) (by decide +kernel))) ?_
  refine lwc (lwt3 (List.mem_of_getElem? (l := tables_1_3) (i := 5) rfl)) ?_
  refine lwc (lwt3 (List.mem_of_getElem? (l := tables_1_3) (i := 6) (by decide +kernel))) ?_
  refine lwc (lwt3 (List.mem_of_getElem? (l := tables_1_3) (i := 7) (by decide +kernel))) ?_
  refine lwc (lwt3 (List.mem_of_getElem? (l := tables_1_3) (i := 8) (by decide +kernel))) ?_
  refine lwc (lwt3 (List.mem_of_getElem? (l := tables_1_3) (i := 9) rfl)) ?_
  refine lwc (lwt3 (List.mem_of_getElem? (l := tables_1_3) (i := 10) (by decide +kernel))) ?_
  refine lwc (lwt3 (List.mem_of_getElem? (l := tables_1_3) (i := 12) (by decide +kernel))) ?_
  refine lwc (lws (List.mem_of_getElem? (i := 18) (by decide +kernel))) ?_
  refine lwc (lwt3 (List.mem_of_getElem? (l := tables_1_3) (i := 13) rfl)) ?_
  refine lwc (lwt3 (List.mem_of_getElem? (l := tables_1_3) (i := 14) (by decide +kernel))) ?_
  refine lwc (lwt3 (List.mem_of_getElem? (l := tables_1_3) (i := 15) (by decide +kernel))) ?_
  refine lwc (lwt3 (List.mem_of_getElem? (l := tables_1_3) (i := 16) (by decide +kernel))) ?_
  refine lwc (lwt3 (List.mem_of_getElem? (l := tables_1_3) (i := 17) (by decide +kernel))) ?_
  exact lwn
theorem iwsL_law_r31 : ∀ w ∈ wsL_law_r31, w ∈ lw_tbl := by
  refine lwc (lwt3 (List.mem_of_getElem? (l := tables_1_3) (i := 18) rfl)) ?_
  refine lwc (lwt3 (List.mem_of_getElem? (l := tables_1_3) (i := 19) (by decide +kernel))) ?_
  refine lwc (lwt3 (List.mem_of_getElem? (l := tables_1_3) (i := 20) (by decide +kernel))) ?_
  refine lwc (lwt3 (List.mem_of_getElem? (l := tables_1_3) (i := 21) (by decide +kernel))) ?_
  refine lwc (lwt3 (List.mem_of_getElem? (l := tables_1_3) (i := 22) rfl)) ?_
  refine lwc (lwt3 (List.mem_of_getElem? (l := tables_1_3) (i := 23) (by decide +kernel))) ?_
  refine lwc (lwt3 (List.mem_of_getElem? (l := tables_1_3) (i := 24) (by decide +kernel))) ?_
  refine lwc (lwt3 (List.mem_of_getElem? (l := tables_1_3) (i := 26) (by decide +kernel))) ?_
  refine lwc (lws (List.mem_of_getElem? (i := 19) (by decide +kernel))) ?_
  refine lwc (lwt3 (List.mem_of_getElem? (l := tables_1_3) (i := 27) rfl)) ?_
  refine lwc (lwt3 (List.mem_of_getElem? (l := tables_1_3) (i := 28) (by decide +kernel))) ?_
  refine lwc (lwt3 (List.mem_of_getElem? (l := tables_1_3) (i := 29) (by decide +kernel))) ?_
  refine lwc (lwt3 (List.mem_of_getElem? (l := tables_1_3) (i := 30) (by decide +kernel))) ?_
  refine lwc (lwt3 (List.mem_of_getElem? (l := tables_1_3) (i := 31) rfl)) ?_
  refine lwc (lwt3 (List.mem_of_getElem? (l := tables_1_3) (i := 33) (by decide +kernel))) ?_
  refine lwc (lwt3 (List.mem_of_getElem? (l := tables_1_3) (i := 34) (by decide +kernel))) ?_
  refine lwc (lwt3 (List.mem_of_getElem? (l := tables_1_3) (i := 35) (by decide +kernel))) ?_
  refine lwc (lwt3 (List.mem_of_getElem? (l := tables_1_3) (i := 36) rfl)) ?_
  refine lwc (lwt3 (List.mem_of_getElem? (l := tables_1_3) (i := 37) (by decide +kernel))) ?_
  refine lwc (lwt3 (List.mem_of_getElem? (l := tables_1_3) (i := 39) (by decide +kernel))) ?_
  refine lwc (lws (List.mem_of_getElem? (i := 20) (by decide +kernel))) ?_
  refine lwc (lwt3 (List.mem_of_getElem? (l := tables_1_3) (i := 40) rfl)) ?_
  refine lwc (lwt4 (List.mem_of_getElem? (l := tables_1_4) (i := 167) (by decide +kernel))) ?_
  refine lwc (lwt4 (List.mem_of_getElem? (l := tables_1_4) (i := 168) (by decide +kernel))) ?_
  exact lwn
theorem iwsL_law_r32 : ∀ w ∈ wsL_law_r32, w ∈ lw_tbl := by
  refine lwc (lwt4 (List.mem_of_getElem? (l := tables_1_4) (i := 169) (by decide +kernel))) ?_
  refine lwc (lwt4 (List.mem_of_getElem? (l := tables_1_4) (i := 170) rfl)) ?_
  refine lwc (lwt4 (List.mem_of_getElem? (l := tables_1_4) (i := 171) (by decide +kernel))) ?_
  refine lwc (lwt4 (List.mem_of_getElem? (l := tables_1_4) (i := 173) (by decide +kernel))) ?_
  refine lwc (lws (List.mem_of_getElem? (i := 66) (by decide +kernel))) ?_
  refine lwc (lwt4 (List.mem_of_getElem? (l := tables_1_4) (i := 174) rfl)) ?_
  refine lwc (lwt3 (List.mem_of_getElem? (l := tables_1_3) (i := 41) (by decide +kernel))) ?_
  refine lwc (lwt3 (List.mem_of_getElem? (l := tables_1_3) (i := 42) (by decide +kernel))) ?_
  refine lwc (lwt3 (List.mem_of_getElem? (l := tables_1_3) (i := 43) (by decide +kernel))) ?_
  refine lwc (lwt3 (List.mem_of_getElem? (l := tables_1_3) (i := 44) rfl)) ?_
  refine lwc (lwt3 (List.mem_of_getElem? (l := tables_1_3) (i := 45) (by decide +kernel))) ?_
  refine lwc (lwt3 (List.mem_of_getElem? (l := tables_1_3) (i := 46) (by decide +kernel))) ?_
  refine lwc (lwt3 (List.mem_of_getElem? (l := tables_1_3) (i := 47) (by decide +kernel))) ?_
  refine lwc (lwt3 (List.mem_of_getElem? (l := tables_1_3) (i := 48) rfl)) ?_
  refine lwc (lwt3 (List.mem_of_getElem? (l := tables_1_3) (i := 130) (by decide +kernel))) ?_
  refine lwc (lwt3 (List.mem_of_getElem? (l := tables_1_3) (i := 131) (by decide +kernel))) ?_
  refine lwc (lwt3 (List.mem_of_getElem? (l := tables_1_3) (i := 132) (by decide +kernel))) ?_
  refine lwc (lwt3 (List.mem_of_getElem? (l := tables_1_3) (i := 133) rfl)) ?_
  refine lwc (lwt3 (List.mem_of_getElem? (l := tables_1_3) (i := 49) (by decide +kernel))) ?_
  refine lwc (lwt3 (List.mem_of_getElem? (l := tables_1_3) (i := 50) (by decide +kernel))) ?_
  refine lwc (lwt3 (List.mem_of_getElem? (l := tables_1_3) (i := 51) (by decide +kernel))) ?_
  refine lwc (lwt3 (List.mem_of_getElem? (l := tables_1_3) (i := 52) rfl)) ?_
  refine lwc (lwt3 (List.mem_of_getElem? (l := tables_1_3) (i := 53) (by decide +kernel))) ?_
  refine lwc (lwt3 (List.mem_of_getElem? (l := tables_1_3) (i := 134) (by decide +kernel))) ?_
  exact lwn
theorem iwsL_law_r33 : ∀ w ∈ wsL_law_r33, w ∈ lw_tbl := by
  refine lwc (lwt3 (List.mem_of_getElem? (l := tables_1_3) (i := 135) (by decide +kernel))) ?_
  refine lwc (lwt3 (List.mem_of_getElem? (l := tables_1_3) (i := 136) (by decide +kernel))) ?_
  refine lwc (lwt3 (List.mem_of_getElem? (l := tables_1_3) (i := 137) rfl)) ?_
  refine lwc (lwt3 (List.mem_of_getElem? (l := tables_1_3) (i := 54) (by decide +kernel))) ?_
  refine lwc (lwt3 (List.mem_of_getElem? (l := tables_1_3) (i := 55) (by decide +kernel))) ?_
  refine lwc (lwt3 (List.mem_of_getElem? (l := tables_1_3) (i := 56) (by decide +kernel))) ?_
  refine lwc (lwt3 (List.mem_of_getElem? (l := tables_1_3) (i := 57) rfl)) ?_
  refine lwc (lwt3 (List.mem_of_getElem? (l := tables_1_3) (i := 141) (by decide +kernel))) ?_
  refine lwc (lwt3 (List.mem_of_getElem? (l := tables_1_3) (i := 142) (by decide +kernel))) ?_
  refine lwc (lwt3 (List.mem_of_getElem? (l := tables_1_3) (i := 143) (by decide +kernel))) ?_
  refine lwc (lwt3 (List.mem_of_getElem? (l := tables_1_3) (i := 144) rfl)) ?_
  exact lwn
