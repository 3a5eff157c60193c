theorem lwt1 {w : Cond} (h : w ∈ tables_1_1) : w ∈ lw_tbl := List.mem_append_right _ (List.mem_append_left _ h)
theorem lwt2 {w : Cond} (h : w ∈ tables_1_2) : w ∈ lw_tbl := List.mem_append_right _ (List.mem_append_right _ h)
theorem lws {w : Cond} (h : w ∈ k2_sels lw_privs) : w ∈ lw_tbl := List.mem_append_left _ h
theorem lwc {a : Cond} {l : List Cond} (h : a ∈ lw_tbl) (h2 : ∀ w ∈ l, w ∈ lw_tbl) : ∀ w ∈ a :: l, w ∈ lw_tbl := List.forall_mem_cons.mpr ⟨h, h2⟩
theorem lwn : ∀ w ∈ ([] : List Cond), w ∈ lw_tbl := fun _ h => absurd h List.not_mem_nil
theorem iwsL_law_r1 : ∀ w ∈ wsL_law_r1, w ∈ lw_tbl := by
  refine lwc (lwt1 (List.mem_of_getElem? (l := tables_1_1) (i := 11) (by decide +kernel))) ?_
  refine lwc (lwt1 (List.mem_of_getElem? (l := tables_1_1) (i := 12) (by decide +kernel))) ?_
  refine lwc (lwt1 (List.mem_of_getElem? (l := tables_1_1) (i := 1) (by decide +kernel))) ?_
  refine lwc (lwt1 (List.mem_of_getElem? (l := tables_1_1) (i := 50) (by decide +kernel))) ?_
  refine lwc (lwt1 (List.mem_of_getElem? (l := tables_1_1) (i := 13) (by decide +kernel))) ?_
  refine lwc (lwt1 (List.mem_of_getElem? (l := tables_1_1) (i := 14) (by decide +kernel))) ?_
  refine lwc (lwt1 (List.mem_of_getElem? (l := tables_1_1) (i := 15) rfl)) ?_
  refine lwc (lwt1 (List.mem_of_getElem? (l := tables_1_1) (i := 16) (by decide +kernel))) ?_
  refine lwc (lwt1 (List.mem_of_getElem? (l := tables_1_1) (i := 17) (by decide +kernel))) ?_
  refine lwc (lwt1 (List.mem_of_getElem? (l := tables_1_1) (i := 18) rfl)) ?_
  refine lwc (lwt1 (List.mem_of_getElem? (l := tables_1_1) (i := 19) (by decide +kernel))) ?_
  refine lwc (lwt1 (List.mem_of_getElem? (l := tables_1_1) (i := 20) (by decide +kernel))) ?_
  refine lwc (lwt1 (List.mem_of_getElem? (l := tables_1_1) (i := 2) (by decide +kernel))) ?_
  refine lwc (lwt1 (List.mem_of_getElem? (l := tables_1_1) (i := 120) (by decide +kernel))) ?_
  refine lwc (lwt1 (List.mem_of_getElem? (l := tables_1_1) (i := 51) (by decide +kernel))) ?_
  refine lwc (lwt1 (List.mem_of_getElem? (l := tables_1_1) (i := 52) (by decide +kernel))) ?_
  refine lwc (lwt1 (List.mem_of_getElem? (l := tables_1_1) (i := 3) (by decide +kernel))) ?_
  refine lwc (lwt1 (List.mem_of_getElem? (l := tables_1_1) (i := 121) (by decide +kernel))) ?_
  refine lwc (lwt1 (List.mem_of_getElem? (l := tables_1_1) (i := 122) (by decide +kernel))) ?_
  refine lwc (lwt1 (List.mem_of_getElem? (l := tables_1_1) (i := 89) (by decide +kernel))) ?_
  refine lwc (lwt1 (List.mem_of_getElem? (l := tables_1_1) (i := 90) (by decide +kernel))) ?_
  refine lwc (lwt1 (List.mem_of_getElem? (l := tables_1_1) (i := 5) (by decide +kernel))) ?_
  refine lwc (lwt1 (List.mem_of_getElem? (l := tables_1_1) (i := 123) (by decide +kernel))) ?_
  refine lwc (lwt1 (List.mem_of_getElem? (l := tables_1_1) (i := 124) (by decide +kernel))) ?_
  exact lwn
theorem iwsL_law_r2 : ∀ w ∈ wsL_law_r2, w ∈ lw_tbl := by
  refine lwc (lwt1 (List.mem_of_getElem? (l := tables_1_1) (i := 106) (by decide +kernel))) ?_
  refine lwc (lwt1 (List.mem_of_getElem? (l := tables_1_1) (i := 107) (by decide +kernel))) ?_
  refine lwc (lwt1 (List.mem_of_getElem? (l := tables_1_1) (i := 6) (by decide +kernel))) ?_
  refine lwc (lwt1 (List.mem_of_getElem? (l := tables_1_1) (i := 125) (by decide +kernel))) ?_
  refine lwc (lwt1 (List.mem_of_getElem? (l := tables_1_1) (i := 22) (by decide +kernel))) ?_
  refine lwc (lwt1 (List.mem_of_getElem? (l := tables_1_1) (i := 23) rfl)) ?_
  refine lwc (lwt1 (List.mem_of_getElem? (l := tables_1_1) (i := 24) (by decide +kernel))) ?_
  refine lwc (lwt1 (List.mem_of_getElem? (l := tables_1_1) (i := 25) (by decide +kernel))) ?_
  refine lwc (lwt1 (List.mem_of_getElem? (l := tables_1_1) (i := 30) (by decide +kernel))) ?_
  refine lwc (lwt1 (List.mem_of_getElem? (l := tables_1_1) (i := 33) (by decide +kernel))) ?_
  refine lwc (lwt1 (List.mem_of_getElem? (l := tables_1_1) (i := 36) (by decide +kernel))) ?_
  refine lwc (lwt1 (List.mem_of_getElem? (l := tables_1_1) (i := 54) (by decide +kernel))) ?_
  refine lwc (lwt1 (List.mem_of_getElem? (l := tables_1_1) (i := 55) rfl)) ?_
  refine lwc (lwt1 (List.mem_of_getElem? (l := tables_1_1) (i := 56) (by decide +kernel))) ?_
  refine lwc (lwt1 (List.mem_of_getElem? (l := tables_1_1) (i := 57) (by decide +kernel))) ?_
  refine lwc (lwt1 (List.mem_of_getElem? (l := tables_1_1) (i := 58) (by decide +kernel))) ?_
  refine lwc (lwt1 (List.mem_of_getElem? (l := tables_1_1) (i := 4) (by decide +kernel))) ?_
  refine lwc (lwt1 (List.mem_of_getElem? (l := tables_1_1) (i := 76) (by decide +kernel))) ?_
  refine lwc (lwt1 (List.mem_of_getElem? (l := tables_1_1) (i := 78) (by decide +kernel))) ?_
  refine lwc (lwt1 (List.mem_of_getElem? (l := tables_1_1) (i := 60) (by decide +kernel))) ?_
  refine lwc (lwt1 (List.mem_of_getElem? (l := tables_1_1) (i := 61) rfl)) ?_
  refine lwc (lwt1 (List.mem_of_getElem? (l := tables_1_1) (i := 62) (by decide +kernel))) ?_
  refine lwc (lwt1 (List.mem_of_getElem? (l := tables_1_1) (i := 63) (by decide +kernel))) ?_
  refine lwc (lwt1 (List.mem_of_getElem? (l := tables_1_1) (i := 64) (by decide +kernel))) ?_
  exact lwn
theorem iwsL_law_r3 : ∀ w ∈ wsL_law_r3, w ∈ lw_tbl := by
  refine lwc (lwt1 (List.mem_of_getElem? (l := tables_1_1) (i := 65) (by decide +kernel))) ?_
  refine lwc (lwt1 (List.mem_of_getElem? (l := tables_1_1) (i := 66) (by decide +kernel))) ?_
  refine lwc (lwt1 (List.mem_of_getElem? (l := tables_1_1) (i := 91) (by decide +kernel))) ?_
  refine lwc (lwt1 (List.mem_of_getElem? (l := tables_1_1) (i := 92) (by decide +kernel))) ?_
  refine lwc (lwt1 (List.mem_of_getElem? (l := tables_1_1) (i := 93) rfl)) ?_
  refine lwc (lwt1 (List.mem_of_getElem? (l := tables_1_1) (i := 94) (by decide +kernel))) ?_
  refine lwc (lwt1 (List.mem_of_getElem? (l := tables_1_1) (i := 95) (by decide +kernel))) ?_
  refine lwc (lwt1 (List.mem_of_getElem? (l := tables_1_1) (i := 98) (by decide +kernel))) ?_
  refine lwc (lwt1 (List.mem_of_getElem? (l := tables_1_1) (i := 109) (by decide +kernel))) ?_
  refine lwc (lwt1 (List.mem_of_getElem? (l := tables_1_1) (i := 110) rfl)) ?_
  refine lwc (lwt1 (List.mem_of_getElem? (l := tables_1_1) (i := 111) (by decide +kernel))) ?_
  refine lwc (lwt1 (List.mem_of_getElem? (l := tables_1_1) (i := 119) (by decide +kernel))) ?_
  refine lwc (lwt1 (List.mem_of_getElem? (l := tables_1_1) (i := 112) (by decide +kernel))) ?_
  refine lwc (lwt2 (List.mem_of_getElem? (l := tables_1_2) (i := 162) (by decide +kernel))) ?_
  refine lwc (lwt2 (List.mem_of_getElem? (l := tables_1_2) (i := 163) (by decide +kernel))) ?_
  refine lwc (lwt1 (List.mem_of_getElem? (l := tables_1_1) (i := 0) (by decide +kernel))) ?_
  refine lwc (lwt2 (List.mem_of_getElem? (l := tables_1_2) (i := 164) rfl)) ?_
  refine lwc (lwt2 (List.mem_of_getElem? (l := tables_1_2) (i := 165) (by decide +kernel))) ?_
  refine lwc (lwt2 (List.mem_of_getElem? (l := tables_1_2) (i := 166) (by decide +kernel))) ?_
  refine lwc (lwt2 (List.mem_of_getElem? (l := tables_1_2) (i := 167) (by decide +kernel))) ?_
  refine lwc (lwt2 (List.mem_of_getElem? (l := tables_1_2) (i := 168) (by decide +kernel))) ?_
  refine lwc (lwt2 (List.mem_of_getElem? (l := tables_1_2) (i := 169) rfl)) ?_
  refine lwc (lwt2 (List.mem_of_getElem? (l := tables_1_2) (i := 170) (by decide +kernel))) ?_
  refine lwc (lwt2 (List.mem_of_getElem? (l := tables_1_2) (i := 171) (by decide +kernel))) ?_
  exact lwn
theorem iwsL_law_r4 : ∀ w ∈ wsL_law_r4, w ∈ lw_tbl := by
  refine lwc (lwt2 (List.mem_of_getElem? (l := tables_1_2) (i := 172) (by decide +kernel))) ?_
  refine lwc (lwt2 (List.mem_of_getElem? (l := tables_1_2) (i := 173) rfl)) ?_
  refine lwc (lwt1 (List.mem_of_getElem? (l := tables_1_1) (i := 139) (by decide +kernel))) ?_
  refine lwc (lwt1 (List.mem_of_getElem? (l := tables_1_1) (i := 140) (by decide +kernel))) ?_
  refine lwc (lwt1 (List.mem_of_getElem? (l := tables_1_1) (i := 141) (by decide +kernel))) ?_
  refine lwc (lwt1 (List.mem_of_getElem? (l := tables_1_1) (i := 142) rfl)) ?_
  refine lwc (lwt1 (List.mem_of_getElem? (l := tables_1_1) (i := 143) (by decide +kernel))) ?_
  refine lwc (lwt1 (List.mem_of_getElem? (l := tables_1_1) (i := 144) (by decide +kernel))) ?_
  refine lwc (lwt1 (List.mem_of_getElem? (l := tables_1_1) (i := 145) (by decide +kernel))) ?_
  refine lwc (lwt1 (List.mem_of_getElem? (l := tables_1_1) (i := 146) rfl)) ?_
  refine lwc (lwt1 (List.mem_of_getElem? (l := tables_1_1) (i := 99) (by decide +kernel))) ?_
  refine lwc (lwt1 (List.mem_of_getElem? (l := tables_1_1) (i := 147) (by decide +kernel))) ?_
  refine lwc (lwt1 (List.mem_of_getElem? (l := tables_1_1) (i := 149) (by decide +kernel))) ?_
  refine lwc (lws (List.mem_of_getElem? (i := 0) (by decide +kernel))) ?_
  refine lwc (lwt1 (List.mem_of_getElem? (l := tables_1_1) (i := 150) rfl)) ?_
  refine lwc (lwt1 (List.mem_of_getElem? (l := tables_1_1) (i := 151) (by decide +kernel))) ?_
  refine lwc (lwt1 (List.mem_of_getElem? (l := tables_1_1) (i := 152) (by decide +kernel))) ?_
  refine lwc (lwt1 (List.mem_of_getElem? (l := tables_1_1) (i := 153) (by decide +kernel))) ?_
  refine lwc (lwt1 (List.mem_of_getElem? (l := tables_1_1) (i := 154) rfl)) ?_
  refine lwc (lwt1 (List.mem_of_getElem? (l := tables_1_1) (i := 27) (by decide +kernel))) ?_
  refine lwc (lwt1 (List.mem_of_getElem? (l := tables_1_1) (i := 155) (by decide +kernel))) ?_
  refine lwc (lwt1 (List.mem_of_getElem? (l := tables_1_1) (i := 157) (by decide +kernel))) ?_
  refine lwc (lwt1 (List.mem_of_getElem? (l := tables_1_1) (i := 156) (by decide +kernel))) ?_
  refine lwc (lwt1 (List.mem_of_getElem? (l := tables_1_1) (i := 7) (by decide +kernel))) ?_
  exact lwn
theorem iwsL_law_r5 : ∀ w ∈ wsL_law_r5, w ∈ lw_tbl := by
  refine lwc (lwt1 (List.mem_of_getElem? (l := tables_1_1) (i := 158) (by decide +kernel))) ?_
  refine lwc (lwt1 (List.mem_of_getElem? (l := tables_1_1) (i := 159) (by decide +kernel))) ?_
  refine lwc (lwt1 (List.mem_of_getElem? (l := tables_1_1) (i := 160) (by decide +kernel))) ?_
  refine lwc (lwt1 (List.mem_of_getElem? (l := tables_1_1) (i := 161) rfl)) ?_
  refine lwc (lwt1 (List.mem_of_getElem? (l := tables_1_1) (i := 162) (by decide +kernel))) ?_
  refine lwc (lwt1 (List.mem_of_getElem? (l := tables_1_1) (i := 163) (by decide +kernel))) ?_
  refine lwc (lwt1 (List.mem_of_getElem? (l := tables_1_1) (i := 164) (by decide +kernel))) ?_
  refine lwc (lwt1 (List.mem_of_getElem? (l := tables_1_1) (i := 165) rfl)) ?_
  refine lwc (lwt1 (List.mem_of_getElem? (l := tables_1_1) (i := 166) (by decide +kernel))) ?_
  refine lwc (lwt1 (List.mem_of_getElem? (l := tables_1_1) (i := 167) (by decide +kernel))) ?_
  refine lwc (lwt1 (List.mem_of_getElem? (l := tables_1_1) (i := 168) (by decide +kernel))) ?_
  refine lwc (lwt1 (List.mem_of_getElem? (l := tables_1_1) (i := 169) rfl)) ?_
  refine lwc (lwt1 (List.mem_of_getElem? (l := tables_1_1) (i := 170) (by decide +kernel))) ?_
  refine lwc (lwt1 (List.mem_of_getElem? (l := tables_1_1) (i := 171) (by decide +kernel))) ?_
  refine lwc (lwt1 (List.mem_of_getElem? (l := tables_1_1) (i := 8) (by decide +kernel))) ?_
  refine lwc (lwt1 (List.mem_of_getElem? (l := tables_1_1) (i := 172) rfl)) ?_
  refine lwc (lwt1 (List.mem_of_getElem? (l := tables_1_1) (i := 173) (by decide +kernel))) ?_
  refine lwc (lwt1 (List.mem_of_getElem? (l := tables_1_1) (i := 174) (by decide +kernel))) ?_
  refine lwc (lwt1 (List.mem_of_getElem? (l := tables_1_1) (i := 175) (by decide +kernel))) ?_
  refine lwc (lwt1 (List.mem_of_getElem? (l := tables_1_1) (i := 176) rfl)) ?_
  refine lwc (lwt1 (List.mem_of_getElem? (l := tables_1_1) (i := 80) (by decide +kernel))) ?_
  refine lwc (lwt1 (List.mem_of_getElem? (l := tables_1_1) (i := 177) (by decide +kernel))) ?_
  refine lwc (lwt1 (List.mem_of_getElem? (l := tables_1_1) (i := 179) (by decide +kernel))) ?_
  refine lwc (lws (List.mem_of_getElem? (i := 1) (by decide +kernel))) ?_
  exact lwn
theorem iwsL_law_r6 : ∀ w ∈ wsL_law_r6, w ∈ lw_tbl := by
  refine lwc (lwt1 (List.mem_of_getElem? (l := tables_1_1) (i := 180) rfl)) ?_
  refine lwc (lwt1 (List.mem_of_getElem? (l := tables_1_1) (i := 181) (by decide +kernel))) ?_
  refine lwc (lwt1 (List.mem_of_getElem? (l := tables_1_1) (i := 183) (by decide +kernel))) ?_
  refine lwc (lws (List.mem_of_getElem? (i := 2) (by decide +kernel))) ?_
  refine lwc (lwt1 (List.mem_of_getElem? (l := tables_1_1) (i := 184) rfl)) ?_
  refine lwc (lwt1 (List.mem_of_getElem? (l := tables_1_1) (i := 185) (by decide +kernel))) ?_
  refine lwc (lwt1 (List.mem_of_getElem? (l := tables_1_1) (i := 186) (by decide +kernel))) ?_
  refine lwc (lwt1 (List.mem_of_getElem? (l := tables_1_1) (i := 187) (by decide +kernel))) ?_
  refine lwc (lwt1 (List.mem_of_getElem? (l := tables_1_1) (i := 188) rfl)) ?_
  refine lwc (lwt1 (List.mem_of_getElem? (l := tables_1_1) (i := 190) (by decide +kernel))) ?_
  refine lwc (lwt1 (List.mem_of_getElem? (l := tables_1_1) (i := 191) rfl)) ?_
  refine lwc (lwt1 (List.mem_of_getElem? (l := tables_1_1) (i := 192) (by decide +kernel))) ?_
  refine lwc (lwt1 (List.mem_of_getElem? (l := tables_1_1) (i := 194) (by decide +kernel))) ?_
  refine lwc (lws (List.mem_of_getElem? (i := 3) (by decide +kernel))) ?_
  refine lwc (lwt1 (List.mem_of_getElem? (l := tables_1_1) (i := 195) rfl)) ?_
  refine lwc (lwt1 (List.mem_of_getElem? (l := tables_1_1) (i := 196) (by decide +kernel))) ?_
  refine lwc (lwt1 (List.mem_of_getElem? (l := tables_1_1) (i := 197) (by decide +kernel))) ?_
  refine lwc (lwt1 (List.mem_of_getElem? (l := tables_1_1) (i := 198) (by decide +kernel))) ?_
  refine lwc (lwt1 (List.mem_of_getElem? (l := tables_1_1) (i := 199) rfl)) ?_
  refine lwc (lwt1 (List.mem_of_getElem? (l := tables_1_1) (i := 200) (by decide +kernel))) ?_
  refine lwc (lwt1 (List.mem_of_getElem? (l := tables_1_1) (i := 201) (by decide +kernel))) ?_
  refine lwc (lwt1 (List.mem_of_getElem? (l := tables_1_1) (i := 202) (by decide +kernel))) ?_
  refine lwc (lwt1 (List.mem_of_getElem? (l := tables_1_1) (i := 203) rfl)) ?_
  refine lwc (lwt1 (List.mem_of_getElem? (l := tables_1_1) (i := 204) (by decide +kernel))) ?_
  exact lwn
theorem iwsL_law_r7 : ∀ w ∈ wsL_law_r7, w ∈ lw_tbl := by
  refine lwc (lwt1 (List.mem_of_getElem? (l := tables_1_1) (i := 206) (by decide +kernel))) ?_
  refine lwc (lws (List.mem_of_getElem? (i := 4) (by decide +kernel))) ?_
  refine lwc (lwt1 (List.mem_of_getElem? (l := tables_1_1) (i := 207) rfl)) ?_
  refine lwc (lwt1 (List.mem_of_getElem? (l := tables_1_1) (i := 208) (by decide +kernel))) ?_
  refine lwc (lwt1 (List.mem_of_getElem? (l := tables_1_1) (i := 209) (by decide +kernel))) ?_
  refine lwc (lwt1 (List.mem_of_getElem? (l := tables_1_1) (i := 211) (by decide +kernel))) ?_
  refine lwc (lws (List.mem_of_getElem? (i := 5) (by decide +kernel))) ?_
  refine lwc (lwt1 (List.mem_of_getElem? (l := tables_1_1) (i := 212) rfl)) ?_
  refine lwc (lwt1 (List.mem_of_getElem? (l := tables_1_1) (i := 213) (by decide +kernel))) ?_
  refine lwc (lwt1 (List.mem_of_getElem? (l := tables_1_1) (i := 214) (by decide +kernel))) ?_
  refine lwc (lwt1 (List.mem_of_getElem? (l := tables_1_1) (i := 215) (by decide +kernel))) ?_
  refine lwc (lwt1 (List.mem_of_getElem? (l := tables_1_1) (i := 216) rfl)) ?_
  refine lwc (lwt1 (List.mem_of_getElem? (l := tables_1_1) (i := 217) (by decide +kernel))) ?_
  refine lwc (lwt1 (List.mem_of_getElem? (l := tables_1_1) (i := 218) (by decide +kernel))) ?_
  refine lwc (lwt1 (List.mem_of_getElem? (l := tables_1_1) (i := 219) rfl)) ?_
  refine lwc (lwt1 (List.mem_of_getElem? (l := tables_1_1) (i := 220) (by decide +kernel))) ?_
  refine lwc (lwt1 (List.mem_of_getElem? (l := tables_1_1) (i := 221) (by decide +kernel))) ?_
  refine lwc (lwt1 (List.mem_of_getElem? (l := tables_1_1) (i := 9) (by decide +kernel))) ?_
  refine lwc (lwt1 (List.mem_of_getElem? (l := tables_1_1) (i := 222) rfl)) ?_
  refine lwc (lwt1 (List.mem_of_getElem? (l := tables_1_1) (i := 223) (by decide +kernel))) ?_
  refine lwc (lwt1 (List.mem_of_getElem? (l := tables_1_1) (i := 224) (by decide +kernel))) ?_
  refine lwc (lwt1 (List.mem_of_getElem? (l := tables_1_1) (i := 225) rfl)) ?_
  refine lwc (lwt1 (List.mem_of_getElem? (l := tables_1_1) (i := 226) (by decide +kernel))) ?_
  refine lwc (lwt1 (List.mem_of_getElem? (l := tables_1_1) (i := 228) (by decide +kernel))) ?_
  exact lwn
theorem iwsL_law_r8 : ∀ w ∈ wsL_law_r8, w ∈ lw_tbl := by
  refine lwc (lwt1 (List.mem_of_getElem? (l := tables_1_1) (i := 229) rfl)) ?_
  refine lwc (lwt1 (List.mem_of_getElem? (l := tables_1_1) (i := 230) (by decide +kernel))) ?_
  refine lwc (lwt1 (List.mem_of_getElem? (l := tables_1_1) (i := 231) (by decide +kernel))) ?_
  refine lwc (lwt1 (List.mem_of_getElem? (l := tables_1_1) (i := 232) (by decide +kernel))) ?_
  refine lwc (lwt1 (List.mem_of_getElem? (l := tables_1_1) (i := 233) rfl)) ?_
  refine lwc (lwt1 (List.mem_of_getElem? (l := tables_1_1) (i := 234) (by decide +kernel))) ?_
  refine lwc (lwt1 (List.mem_of_getElem? (l := tables_1_1) (i := 235) (by decide +kernel))) ?_
  refine lwc (lwt1 (List.mem_of_getElem? (l := tables_1_1) (i := 236) rfl)) ?_
  refine lwc (lwt1 (List.mem_of_getElem? (l := tables_1_1) (i := 237) (by decide +kernel))) ?_
  refine lwc (lwt1 (List.mem_of_getElem? (l := tables_1_1) (i := 238) (by decide +kernel))) ?_
  refine lwc (lwt1 (List.mem_of_getElem? (l := tables_1_1) (i := 10) (by decide +kernel))) ?_
  refine lwc (lwt1 (List.mem_of_getElem? (l := tables_1_1) (i := 239) rfl)) ?_
  refine lwc (lwt2 (List.mem_of_getElem? (l := tables_1_2) (i := 0) (by decide +kernel))) ?_
  refine lwc (lwt2 (List.mem_of_getElem? (l := tables_1_2) (i := 1) (by decide +kernel))) ?_
  refine lwc (lwt2 (List.mem_of_getElem? (l := tables_1_2) (i := 2) (by decide +kernel))) ?_
  refine lwc (lwt2 (List.mem_of_getElem? (l := tables_1_2) (i := 3) (by decide +kernel))) ?_
  refine lwc (lwt2 (List.mem_of_getElem? (l := tables_1_2) (i := 5) (by decide +kernel))) ?_
  refine lwc (lws (List.mem_of_getElem? (i := 6) (by decide +kernel))) ?_
  refine lwc (lwt2 (List.mem_of_getElem? (l := tables_1_2) (i := 6) rfl)) ?_
  refine lwc (lwt2 (List.mem_of_getElem? (l := tables_1_2) (i := 7) (by decide +kernel))) ?_
  refine lwc (lwt2 (List.mem_of_getElem? (l := tables_1_2) (i := 9) (by decide +kernel))) ?_
  refine lwc (lws (List.mem_of_getElem? (i := 7) (by decide +kernel))) ?_
  refine lwc (lwt2 (List.mem_of_getElem? (l := tables_1_2) (i := 10) rfl)) ?_
  refine lwc (lwt2 (List.mem_of_getElem? (l := tables_1_2) (i := 11) (by decide +kernel))) ?_
  exact lwn
theorem iwsL_law_r9 : ∀ w ∈ wsL_law_r9, w ∈ lw_tbl := by
  refine lwc (lwt2 (List.mem_of_getElem? (l := tables_1_2) (i := 12) (by decide +kernel))) ?_
  refine lwc (lwt2 (List.mem_of_getElem? (l := tables_1_2) (i := 13) (by decide +kernel))) ?_
  refine lwc (lwt2 (List.mem_of_getElem? (l := tables_1_2) (i := 14) rfl)) ?_
  refine lwc (lwt2 (List.mem_of_getElem? (l := tables_1_2) (i := 97) (by decide +kernel))) ?_
  refine lwc (lwt2 (List.mem_of_getElem? (l := tables_1_2) (i := 98) (by decide +kernel))) ?_
  refine lwc (lwt2 (List.mem_of_getElem? (l := tables_1_2) (i := 99) (by decide +kernel))) ?_
  refine lwc (lwt2 (List.mem_of_getElem? (l := tables_1_2) (i := 100) rfl)) ?_
  refine lwc (lwt2 (List.mem_of_getElem? (l := tables_1_2) (i := 101) (by decide +kernel))) ?_
  refine lwc (lwt2 (List.mem_of_getElem? (l := tables_1_2) (i := 39) (by decide +kernel))) ?_
  refine lwc (lwt2 (List.mem_of_getElem? (l := tables_1_2) (i := 40) (by decide +kernel))) ?_
  refine lwc (lwt2 (List.mem_of_getElem? (l := tables_1_2) (i := 41) rfl)) ?_
  refine lwc (lwt2 (List.mem_of_getElem? (l := tables_1_2) (i := 42) (by decide +kernel))) ?_
  refine lwc (lwt2 (List.mem_of_getElem? (l := tables_1_2) (i := 102) (by decide +kernel))) ?_
  refine lwc (lwt2 (List.mem_of_getElem? (l := tables_1_2) (i := 104) (by decide +kernel))) ?_
  refine lwc (lws (List.mem_of_getElem? (i := 9) (by decide +kernel))) ?_
  refine lwc (lwt2 (List.mem_of_getElem? (l := tables_1_2) (i := 105) rfl)) ?_
  refine lwc (lwt2 (List.mem_of_getElem? (l := tables_1_2) (i := 73) (by decide +kernel))) ?_
  refine lwc (lwt2 (List.mem_of_getElem? (l := tables_1_2) (i := 106) (by decide +kernel))) ?_
  refine lwc (lwt2 (List.mem_of_getElem? (l := tables_1_2) (i := 107) (by decide +kernel))) ?_
  refine lwc (lwt2 (List.mem_of_getElem? (l := tables_1_2) (i := 108) (by decide +kernel))) ?_
  refine lwc (lwt2 (List.mem_of_getElem? (l := tables_1_2) (i := 109) rfl)) ?_
  refine lwc (lwt2 (List.mem_of_getElem? (l := tables_1_2) (i := 95) (by decide +kernel))) ?_
  refine lwc (lwt2 (List.mem_of_getElem? (l := tables_1_2) (i := 110) (by decide +kernel))) ?_
  refine lwc (lwt2 (List.mem_of_getElem? (l := tables_1_2) (i := 111) (by decide +kernel))) ?_
  exact lwn
