theorem sm_in1 {w : Jvm.Cond} {i : Nat} (h : tables_1_1[i]? = some w) : w ∈ lw_tbl := List.mem_append_right (k2_sels lw_privs) (List.mem_append_left _ (List.mem_of_getElem? h))
theorem sm_in2 {w : Jvm.Cond} {i : Nat} (h : tables_1_2[i]? = some w) : w ∈ lw_tbl := List.mem_append_right (k2_sels lw_privs) (List.mem_append_right _ (List.mem_append_left _ (List.mem_of_getElem? h)))
theorem sm_in3 {w : Jvm.Cond} {i : Nat} (h : tables_1_3[i]? = some w) : w ∈ lw_tbl := List.mem_append_right (k2_sels lw_privs) (List.mem_append_right _ (List.mem_append_right _ (List.mem_append_left _ (List.mem_of_getElem? h))))
theorem sm_in4 {w : Jvm.Cond} {i : Nat} (h : tables_1_4[i]? = some w) : w ∈ lw_tbl := List.mem_append_right (k2_sels lw_privs) (List.mem_append_right _ (List.mem_append_right _ (List.mem_append_right _ (List.mem_append_left _ (List.mem_of_getElem? h)))))
theorem sm_in5 {w : Jvm.Cond} {i : Nat} (h : tables_1_5[i]? = some w) : w ∈ lw_tbl := List.mem_append_right (k2_sels lw_privs) (List.mem_append_right _ (List.mem_append_right _ (List.mem_append_right _ (List.mem_append_right _ (List.mem_append_left _ (List.mem_of_getElem? h))))))
theorem sm_in6 {w : Jvm.Cond} {i : Nat} (h : tables_1_6[i]? = some w) : w ∈ lw_tbl := List.mem_append_right (k2_sels lw_privs) (List.mem_append_right _ (List.mem_append_right _ (List.mem_append_right _ (List.mem_append_right _ (List.mem_append_right _ (List.mem_append_left _ (List.mem_of_getElem? h)))))))
theorem sm_in7 {w : Jvm.Cond} {i : Nat} (h : tables_1_7[i]? = some w) : w ∈ lw_tbl := List.mem_append_right (k2_sels lw_privs) (List.mem_append_right _ (List.mem_append_right _ (List.mem_append_right _ (List.mem_append_right _ (List.mem_append_right _ (List.mem_append_right _ (List.mem_of_getElem? h)))))))
theorem sm_inp {w : Jvm.Cond} {i : Nat} (h : (k2_sels lw_privs)[i]? = some w) : w ∈ lw_tbl := List.mem_append_left _ (List.mem_of_getElem? h)
noncomputable def sm_o (o : Nat) : String := sm_on.getD o ""
noncomputable def sm_PF (q : Nat × Nat × Nat × Nat) : Prop := ∃ r : vw_C, sm_cl[q.2.2.1]? = some r ∧ q.2.2.2 < r.2.2 ∧ Jvm.Cond.fieldLink (sm_o q.1) q.2.1 (r.2.1 q.2.2.2).1 (r.2.1 q.2.2.2).2.1 (r.2.1 q.2.2.2).2.2.1 ∈ lw_tbl
theorem ww373 : Jvm.Cond.fieldLink "TeaCabinet$AgendaReader" 9 "TeaCabinet$AgendaReader" "text" "LTeaCabinet$Text;" ∈ lw_tbl := sm_in2 (i := 35) rfl
theorem ww374 : Jvm.Cond.fieldLink "TeaCabinet$AgendaReader" 15 "TeaCabinet$AgendaReader" "votes" "LTeaCabinet$Votes;" ∈ lw_tbl := sm_in2 (i := 36) rfl
theorem ww141 : Jvm.Cond.fieldLink "TeaCabinet$AgendaReader" 23 "TeaCabinet$Text" "fault" "I" ∈ lw_tbl := sm_in1 (i := 43) rfl
theorem ww137 : Jvm.Cond.fieldLink "TeaCabinet$AgendaReader" 41 "TeaCabinet$Text" "at" "I" ∈ lw_tbl := sm_in1 (i := 39) rfl
theorem ww311 : Jvm.Cond.fieldLink "TeaCabinet$Law" 9 "TeaCabinet$Law" "letter" "[I" ∈ lw_tbl := sm_in1 (i := 213) rfl
theorem ww313 : Jvm.Cond.fieldLink "TeaCabinet$Law" 15 "TeaCabinet$Law" "amountFrom" "[I" ∈ lw_tbl := sm_in1 (i := 215) rfl
theorem ww315 : Jvm.Cond.fieldLink "TeaCabinet$Law" 18 "TeaCabinet$Law" "testFrom" "[I" ∈ lw_tbl := sm_in1 (i := 217) rfl
theorem ww317 : Jvm.Cond.fieldLink "TeaCabinet$Law" 21 "TeaCabinet$Law" "testTo" "[I" ∈ lw_tbl := sm_in1 (i := 219) rfl
theorem ww319 : Jvm.Cond.fieldLink "TeaCabinet$Law" 24 "TeaCabinet$Law" "signs" "[I" ∈ lw_tbl := sm_in1 (i := 221) rfl
theorem ww320 : Jvm.Cond.fieldLink "TeaCabinet$Law" 27 "TeaCabinet$Law" "operands" "[I" ∈ lw_tbl := sm_in1 (i := 222) rfl
theorem ww322 : Jvm.Cond.fieldLink "TeaCabinet$Law" 30 "TeaCabinet$Law" "facts" "[I" ∈ lw_tbl := sm_in1 (i := 224) rfl
theorem ww323 : Jvm.Cond.fieldLink "TeaCabinet$Law" 33 "TeaCabinet$Law" "stack" "[I" ∈ lw_tbl := sm_in1 (i := 225) rfl
theorem ww306 : Jvm.Cond.fieldLink "TeaCabinet$Law" 36 "TeaCabinet$Law" "rules" "I" ∈ lw_tbl := sm_in1 (i := 208) rfl
theorem ww309 : Jvm.Cond.fieldLink "TeaCabinet$Law" 40 "TeaCabinet$Law" "length" "I" ∈ lw_tbl := sm_in1 (i := 211) rfl
theorem ww173 : Jvm.Cond.fieldLink "TeaCabinet$Law" 49 "TeaCabinet$Table" "mother" "I" ∈ lw_tbl := sm_in1 (i := 75) rfl
theorem ww216 : Jvm.Cond.fieldLink "TeaCabinet$Law" 62 "TeaCabinet$Table" "over" "[J" ∈ lw_tbl := sm_in1 (i := 118) rfl
theorem ww198 : Jvm.Cond.fieldLink "TeaCabinet$Law" 72 "TeaCabinet$Table" "biscuits" "[I" ∈ lw_tbl := sm_in1 (i := 100) rfl
theorem ww205 : Jvm.Cond.fieldLink "TeaCabinet$Law" 75 "TeaCabinet$Table" "manners" "[I" ∈ lw_tbl := sm_in1 (i := 107) rfl
theorem ww212 : Jvm.Cond.fieldLink "TeaCabinet$Law" 78 "TeaCabinet$Table" "poured" "[I" ∈ lw_tbl := sm_in1 (i := 114) rfl
theorem ww181 : Jvm.Cond.fieldLink "TeaCabinet$Law" 81 "TeaCabinet$Table" "tea" "I" ∈ lw_tbl := sm_in1 (i := 83) rfl
theorem ww324 : Jvm.Cond.fieldLink "TeaCabinet$Law" 110 "TeaCabinet$Law" "refused" "Z" ∈ lw_tbl := sm_in1 (i := 226) rfl
theorem ww357 : Jvm.Cond.fieldLink "TeaCabinet$LawReader" 12 "TeaCabinet$LawReader" "draft" "LTeaCabinet$Law;" ∈ lw_tbl := sm_in2 (i := 19) rfl
theorem ww356 : Jvm.Cond.fieldLink "TeaCabinet$LawReader" 18 "TeaCabinet$LawReader" "text" "LTeaCabinet$Text;" ∈ lw_tbl := sm_in2 (i := 18) rfl
theorem ww307 : Jvm.Cond.fieldLink "TeaCabinet$LawReader" 22 "TeaCabinet$Law" "rules" "I" ∈ lw_tbl := sm_in1 (i := 209) rfl
theorem ww310 : Jvm.Cond.fieldLink "TeaCabinet$LawReader" 26 "TeaCabinet$Law" "length" "I" ∈ lw_tbl := sm_in1 (i := 212) rfl
theorem ww359 : Jvm.Cond.fieldLink "TeaCabinet$LawReader" 29 "TeaCabinet$LawReader" "open" "I" ∈ lw_tbl := sm_in2 (i := 21) rfl
theorem ww142 : Jvm.Cond.fieldLink "TeaCabinet$LawReader" 41 "TeaCabinet$Text" "fault" "I" ∈ lw_tbl := sm_in1 (i := 44) rfl
theorem ww138 : Jvm.Cond.fieldLink "TeaCabinet$LawReader" 52 "TeaCabinet$Text" "at" "I" ∈ lw_tbl := sm_in1 (i := 40) rfl
theorem ww312 : Jvm.Cond.fieldLink "TeaCabinet$LawReader" 55 "TeaCabinet$Law" "letter" "[I" ∈ lw_tbl := sm_in1 (i := 214) rfl
theorem ww314 : Jvm.Cond.fieldLink "TeaCabinet$LawReader" 59 "TeaCabinet$Law" "amountFrom" "[I" ∈ lw_tbl := sm_in1 (i := 216) rfl
theorem ww316 : Jvm.Cond.fieldLink "TeaCabinet$LawReader" 65 "TeaCabinet$Law" "testFrom" "[I" ∈ lw_tbl := sm_in1 (i := 218) rfl
theorem ww318 : Jvm.Cond.fieldLink "TeaCabinet$LawReader" 71 "TeaCabinet$Law" "testTo" "[I" ∈ lw_tbl := sm_in1 (i := 220) rfl
theorem ww321 : Jvm.Cond.fieldLink "TeaCabinet$LawReader" 98 "TeaCabinet$Law" "operands" "[I" ∈ lw_tbl := sm_in1 (i := 223) rfl
theorem ww387 : Jvm.Cond.fieldLink "TeaCabinet$Service" 9 "TeaCabinet$Service" "asked" "[I" ∈ lw_tbl := sm_in2 (i := 49) rfl
theorem ww388 : Jvm.Cond.fieldLink "TeaCabinet$Service" 15 "TeaCabinet$Service" "heat" "I" ∈ lw_tbl := sm_in2 (i := 50) rfl
theorem ww390 : Jvm.Cond.fieldLink "TeaCabinet$Service" 19 "TeaCabinet$Service" "cups" "I" ∈ lw_tbl := sm_in2 (i := 52) rfl
theorem ww386 : Jvm.Cond.fieldLink "TeaCabinet$Service" 22 "TeaCabinet$Service" "law" "LTeaCabinet$Law;" ∈ lw_tbl := sm_in2 (i := 48) rfl
theorem ww191 : Jvm.Cond.fieldLink "TeaCabinet$Service" 45 "TeaCabinet$Table" "guestAt" "[I" ∈ lw_tbl := sm_in1 (i := 93) rfl
theorem ww193 : Jvm.Cond.fieldLink "TeaCabinet$Service" 50 "TeaCabinet$Table" "seat" "[I" ∈ lw_tbl := sm_in1 (i := 95) rfl
theorem ww174 : Jvm.Cond.fieldLink "TeaCabinet$Service" 53 "TeaCabinet$Table" "mother" "I" ∈ lw_tbl := sm_in1 (i := 76) rfl
theorem ww202 : Jvm.Cond.fieldLink "TeaCabinet$Service" 65 "TeaCabinet$Table" "hands" "[I" ∈ lw_tbl := sm_in1 (i := 104) rfl
theorem ww180 : Jvm.Cond.fieldLink "TeaCabinet$Service" 68 "TeaCabinet$Table" "tea" "I" ∈ lw_tbl := sm_in1 (i := 82) rfl
theorem ww187 : Jvm.Cond.fieldLink "TeaCabinet$Service" 75 "TeaCabinet$Table" "x" "I" ∈ lw_tbl := sm_in1 (i := 89) rfl
theorem ww184 : Jvm.Cond.fieldLink "TeaCabinet$Service" 79 "TeaCabinet$Table" "spilt" "I" ∈ lw_tbl := sm_in1 (i := 86) rfl
theorem ww211 : Jvm.Cond.fieldLink "TeaCabinet$Service" 93 "TeaCabinet$Table" "poured" "[I" ∈ lw_tbl := sm_in1 (i := 113) rfl
theorem ww208 : Jvm.Cond.fieldLink "TeaCabinet$Service" 96 "TeaCabinet$Table" "burnt" "[I" ∈ lw_tbl := sm_in1 (i := 110) rfl
theorem ww206 : Jvm.Cond.fieldLink "TeaCabinet$Service" 99 "TeaCabinet$Table" "manners" "[I" ∈ lw_tbl := sm_in1 (i := 108) rfl
theorem ww178 : Jvm.Cond.fieldLink "TeaCabinet$Service" 106 "TeaCabinet$Table" "inForce" "I" ∈ lw_tbl := sm_in1 (i := 80) rfl
theorem ww199 : Jvm.Cond.fieldLink "TeaCabinet$Service" 121 "TeaCabinet$Table" "biscuits" "[I" ∈ lw_tbl := sm_in1 (i := 101) rfl
theorem ww166 : Jvm.Cond.fieldLink "TeaCabinet$Table" 9 "TeaCabinet$Table" "measureCount" "I" ∈ lw_tbl := sm_in1 (i := 68) rfl
theorem ww172 : Jvm.Cond.fieldLink "TeaCabinet$Table" 15 "TeaCabinet$Table" "mother" "I" ∈ lw_tbl := sm_in1 (i := 74) rfl
theorem ww186 : Jvm.Cond.fieldLink "TeaCabinet$Table" 18 "TeaCabinet$Table" "x" "I" ∈ lw_tbl := sm_in1 (i := 88) rfl
theorem ww189 : Jvm.Cond.fieldLink "TeaCabinet$Table" 21 "TeaCabinet$Table" "guestAt" "[I" ∈ lw_tbl := sm_in1 (i := 91) rfl
theorem ww192 : Jvm.Cond.fieldLink "TeaCabinet$Table" 25 "TeaCabinet$Table" "seat" "[I" ∈ lw_tbl := sm_in1 (i := 94) rfl
theorem ww195 : Jvm.Cond.fieldLink "TeaCabinet$Table" 28 "TeaCabinet$Table" "biscuits" "[I" ∈ lw_tbl := sm_in1 (i := 97) rfl
theorem ww200 : Jvm.Cond.fieldLink "TeaCabinet$Table" 31 "TeaCabinet$Table" "hands" "[I" ∈ lw_tbl := sm_in1 (i := 102) rfl
theorem ww203 : Jvm.Cond.fieldLink "TeaCabinet$Table" 34 "TeaCabinet$Table" "manners" "[I" ∈ lw_tbl := sm_in1 (i := 105) rfl
theorem ww207 : Jvm.Cond.fieldLink "TeaCabinet$Table" 37 "TeaCabinet$Table" "burnt" "[I" ∈ lw_tbl := sm_in1 (i := 109) rfl
theorem ww210 : Jvm.Cond.fieldLink "TeaCabinet$Table" 40 "TeaCabinet$Table" "poured" "[I" ∈ lw_tbl := sm_in1 (i := 112) rfl
theorem ww214 : Jvm.Cond.fieldLink "TeaCabinet$Table" 43 "TeaCabinet$Table" "over" "[J" ∈ lw_tbl := sm_in1 (i := 116) rfl
theorem ww169 : Jvm.Cond.fieldLink "TeaCabinet$Table" 53 "TeaCabinet$Table" "told" "I" ∈ lw_tbl := sm_in1 (i := 71) rfl
theorem ww177 : Jvm.Cond.fieldLink "TeaCabinet$Table" 56 "TeaCabinet$Table" "inForce" "I" ∈ lw_tbl := sm_in1 (i := 79) rfl
theorem ww179 : Jvm.Cond.fieldLink "TeaCabinet$Table" 59 "TeaCabinet$Table" "tea" "I" ∈ lw_tbl := sm_in1 (i := 81) rfl
theorem ww183 : Jvm.Cond.fieldLink "TeaCabinet$Table" 62 "TeaCabinet$Table" "spilt" "I" ∈ lw_tbl := sm_in1 (i := 85) rfl
theorem ww132 : Jvm.Cond.fieldLink "TeaCabinet$Text" 9 "TeaCabinet$Text" "bytes" "[I" ∈ lw_tbl := sm_in1 (i := 34) rfl
theorem ww134 : Jvm.Cond.fieldLink "TeaCabinet$Text" 15 "TeaCabinet$Text" "length" "I" ∈ lw_tbl := sm_in1 (i := 36) rfl
theorem ww136 : Jvm.Cond.fieldLink "TeaCabinet$Text" 23 "TeaCabinet$Text" "stop" "I" ∈ lw_tbl := sm_in1 (i := 38) rfl
theorem ww139 : Jvm.Cond.fieldLink "TeaCabinet$Text" 26 "TeaCabinet$Text" "at" "I" ∈ lw_tbl := sm_in1 (i := 41) rfl
theorem ww143 : Jvm.Cond.fieldLink "TeaCabinet$Text" 29 "TeaCabinet$Text" "fault" "I" ∈ lw_tbl := sm_in1 (i := 45) rfl
theorem ww256 : Jvm.Cond.fieldLink "TeaCabinet$Votes" 9 "TeaCabinet$Votes" "counts" "[I" ∈ lw_tbl := sm_in1 (i := 158) rfl
theorem ww258 : Jvm.Cond.fieldLink "TeaCabinet$Votes" 15 "TeaCabinet$Votes" "pairs" "[I" ∈ lw_tbl := sm_in1 (i := 160) rfl
theorem ww259 : Jvm.Cond.fieldLink "TeaCabinet$Votes" 18 "TeaCabinet$Votes" "beaten" "[I" ∈ lw_tbl := sm_in1 (i := 161) rfl
theorem ww261 : Jvm.Cond.fieldLink "TeaCabinet$Votes" 21 "TeaCabinet$Votes" "widths" "[I" ∈ lw_tbl := sm_in1 (i := 163) rfl
theorem ww263 : Jvm.Cond.fieldLink "TeaCabinet$Votes" 24 "TeaCabinet$Votes" "tally" "[I" ∈ lw_tbl := sm_in1 (i := 165) rfl
theorem ww264 : Jvm.Cond.fieldLink "TeaCabinet$Votes" 27 "TeaCabinet$Votes" "out" "[I" ∈ lw_tbl := sm_in1 (i := 166) rfl
theorem ww266 : Jvm.Cond.fieldLink "TeaCabinet$Votes" 30 "TeaCabinet$Votes" "ways" "[I" ∈ lw_tbl := sm_in1 (i := 168) rfl
theorem ww267 : Jvm.Cond.fieldLink "TeaCabinet$Votes" 33 "TeaCabinet$Votes" "row" "[I" ∈ lw_tbl := sm_in1 (i := 169) rfl
theorem ww268 : Jvm.Cond.fieldLink "TeaCabinet$Votes" 36 "TeaCabinet$Votes" "least" "[I" ∈ lw_tbl := sm_in1 (i := 170) rfl
theorem ww270 : Jvm.Cond.fieldLink "TeaCabinet$Votes" 39 "TeaCabinet$Votes" "sets" "[I" ∈ lw_tbl := sm_in1 (i := 172) rfl
theorem ww271 : Jvm.Cond.fieldLink "TeaCabinet$Votes" 42 "TeaCabinet$Votes" "firstOne" "[I" ∈ lw_tbl := sm_in1 (i := 173) rfl
theorem ww272 : Jvm.Cond.fieldLink "TeaCabinet$Votes" 45 "TeaCabinet$Votes" "moved" "[I" ∈ lw_tbl := sm_in1 (i := 174) rfl
theorem ww255 : Jvm.Cond.fieldLink "TeaCabinet$Votes" 48 "TeaCabinet$Votes" "table" "LTeaCabinet$Table;" ∈ lw_tbl := sm_in1 (i := 157) rfl
theorem ww197 : Jvm.Cond.fieldLink "TeaCabinet$Votes" 76 "TeaCabinet$Table" "biscuits" "[I" ∈ lw_tbl := sm_in1 (i := 99) rfl
theorem ww168 : Jvm.Cond.fieldLink "TeaCabinet$Votes" 85 "TeaCabinet$Table" "measureCount" "I" ∈ lw_tbl := sm_in1 (i := 70) rfl
theorem ww170 : Jvm.Cond.fieldLink "TeaCabinet$Votes" 145 "TeaCabinet$Table" "told" "I" ∈ lw_tbl := sm_in1 (i := 72) rfl
theorem ww401 : Jvm.Cond.fieldLink "TeaCabinet" 10 "TeaCabinet" "tape" "LTeaCabinet$Text;" ∈ lw_tbl := sm_in2 (i := 63) rfl
theorem ww402 : Jvm.Cond.fieldLink "TeaCabinet" 19 "TeaCabinet" "table" "LTeaCabinet$Table;" ∈ lw_tbl := sm_in2 (i := 64) rfl
theorem ww403 : Jvm.Cond.fieldLink "TeaCabinet" 23 "TeaCabinet" "kept" "LTeaCabinet$Table;" ∈ lw_tbl := sm_in2 (i := 65) rfl
theorem ww404 : Jvm.Cond.fieldLink "TeaCabinet" 26 "TeaCabinet" "trial" "LTeaCabinet$Table;" ∈ lw_tbl := sm_in2 (i := 66) rfl
theorem ww405 : Jvm.Cond.fieldLink "TeaCabinet" 34 "TeaCabinet" "votes" "LTeaCabinet$Votes;" ∈ lw_tbl := sm_in2 (i := 67) rfl
theorem ww406 : Jvm.Cond.fieldLink "TeaCabinet" 41 "TeaCabinet" "law" "LTeaCabinet$Law;" ∈ lw_tbl := sm_in2 (i := 68) rfl
theorem ww407 : Jvm.Cond.fieldLink "TeaCabinet" 50 "TeaCabinet" "lawReader" "LTeaCabinet$LawReader;" ∈ lw_tbl := sm_in2 (i := 69) rfl
theorem ww408 : Jvm.Cond.fieldLink "TeaCabinet" 59 "TeaCabinet" "agendaReader" "LTeaCabinet$AgendaReader;" ∈ lw_tbl := sm_in2 (i := 70) rfl
theorem ww409 : Jvm.Cond.fieldLink "TeaCabinet" 68 "TeaCabinet" "service" "LTeaCabinet$Service;" ∈ lw_tbl := sm_in2 (i := 71) rfl
theorem ww410 : Jvm.Cond.fieldLink "TeaCabinet" 72 "TeaCabinet" "begun" "[I" ∈ lw_tbl := sm_in2 (i := 72) rfl
theorem ww411 : Jvm.Cond.fieldLink "TeaCabinet" 76 "TeaCabinet" "decided" "[I" ∈ lw_tbl := sm_in2 (i := 73) rfl
theorem ww167 : Jvm.Cond.fieldLink "TeaCabinet" 83 "TeaCabinet$Table" "measureCount" "I" ∈ lw_tbl := sm_in1 (i := 69) rfl
theorem ww176 : Jvm.Cond.fieldLink "TeaCabinet" 87 "TeaCabinet$Table" "inForce" "I" ∈ lw_tbl := sm_in1 (i := 78) rfl
theorem ww215 : Jvm.Cond.fieldLink "TeaCabinet" 90 "TeaCabinet$Table" "over" "[J" ∈ lw_tbl := sm_in1 (i := 117) rfl
theorem ww412 : Jvm.Cond.fieldLink "TeaCabinet" 100 "TeaCabinet" "hasKept" "Z" ∈ lw_tbl := sm_in2 (i := 74) rfl
theorem ww190 : Jvm.Cond.fieldLink "TeaCabinet" 104 "TeaCabinet$Table" "guestAt" "[I" ∈ lw_tbl := sm_in1 (i := 92) rfl
theorem ww196 : Jvm.Cond.fieldLink "TeaCabinet" 111 "TeaCabinet$Table" "biscuits" "[I" ∈ lw_tbl := sm_in1 (i := 98) rfl
theorem ww201 : Jvm.Cond.fieldLink "TeaCabinet" 114 "TeaCabinet$Table" "hands" "[I" ∈ lw_tbl := sm_in1 (i := 103) rfl
theorem ww204 : Jvm.Cond.fieldLink "TeaCabinet" 117 "TeaCabinet$Table" "manners" "[I" ∈ lw_tbl := sm_in1 (i := 106) rfl
theorem ww389 : Jvm.Cond.fieldLink "TeaCabinet" 120 "TeaCabinet$Service" "heat" "I" ∈ lw_tbl := sm_in2 (i := 51) rfl
theorem ww391 : Jvm.Cond.fieldLink "TeaCabinet" 123 "TeaCabinet$Service" "cups" "I" ∈ lw_tbl := sm_in2 (i := 53) rfl
theorem ww175 : Jvm.Cond.fieldLink "TeaCabinet" 130 "TeaCabinet$Table" "mother" "I" ∈ lw_tbl := sm_in1 (i := 77) rfl
theorem ww135 : Jvm.Cond.fieldLink "TeaCabinet" 133 "TeaCabinet$Text" "length" "I" ∈ lw_tbl := sm_in1 (i := 37) rfl
theorem ww358 : Jvm.Cond.fieldLink "TeaCabinet" 150 "TeaCabinet$LawReader" "draft" "LTeaCabinet$Law;" ∈ lw_tbl := sm_in2 (i := 20) rfl
theorem ww144 : Jvm.Cond.fieldLink "TeaCabinet" 160 "TeaCabinet$Text" "fault" "I" ∈ lw_tbl := sm_in1 (i := 46) rfl
theorem ww185 : Jvm.Cond.fieldLink "TeaCabinet" 173 "TeaCabinet$Table" "spilt" "I" ∈ lw_tbl := sm_in1 (i := 87) rfl
theorem ww194 : Jvm.Cond.fieldLink "TeaCabinet" 179 "TeaCabinet$Table" "seat" "[I" ∈ lw_tbl := sm_in1 (i := 96) rfl
theorem ww209 : Jvm.Cond.fieldLink "TeaCabinet" 182 "TeaCabinet$Table" "burnt" "[I" ∈ lw_tbl := sm_in1 (i := 111) rfl
theorem ww213 : Jvm.Cond.fieldLink "TeaCabinet" 185 "TeaCabinet$Table" "poured" "[I" ∈ lw_tbl := sm_in1 (i := 115) rfl
theorem ww257 : Jvm.Cond.fieldLink "TeaCabinet" 214 "TeaCabinet$Votes" "counts" "[I" ∈ lw_tbl := sm_in1 (i := 159) rfl
theorem ww265 : Jvm.Cond.fieldLink "TeaCabinet" 227 "TeaCabinet$Votes" "out" "[I" ∈ lw_tbl := sm_in1 (i := 167) rfl
theorem ww260 : Jvm.Cond.fieldLink "TeaCabinet" 236 "TeaCabinet$Votes" "beaten" "[I" ∈ lw_tbl := sm_in1 (i := 162) rfl
theorem ww262 : Jvm.Cond.fieldLink "TeaCabinet" 245 "TeaCabinet$Votes" "widths" "[I" ∈ lw_tbl := sm_in1 (i := 164) rfl
theorem ww269 : Jvm.Cond.fieldLink "TeaCabinet" 260 "TeaCabinet$Votes" "least" "[I" ∈ lw_tbl := sm_in1 (i := 171) rfl
theorem ww171 : Jvm.Cond.fieldLink "TeaCabinet" 278 "TeaCabinet$Table" "told" "I" ∈ lw_tbl := sm_in1 (i := 73) rfl
theorem ww188 : Jvm.Cond.fieldLink "TeaCabinet" 316 "TeaCabinet$Table" "x" "I" ∈ lw_tbl := sm_in1 (i := 90) rfl
theorem ww182 : Jvm.Cond.fieldLink "TeaCabinet" 319 "TeaCabinet$Table" "tea" "I" ∈ lw_tbl := sm_in1 (i := 84) rfl
theorem ww133 : Jvm.Cond.fieldLink "TeaCabinet" 322 "TeaCabinet$Text" "bytes" "[I" ∈ lw_tbl := sm_in1 (i := 35) rfl
theorem ww308 : Jvm.Cond.fieldLink "TeaCabinet" 325 "TeaCabinet$Law" "rules" "I" ∈ lw_tbl := sm_in1 (i := 210) rfl
theorem ww140 : Jvm.Cond.fieldLink "TeaCabinet" 337 "TeaCabinet$Text" "at" "I" ∈ lw_tbl := sm_in1 (i := 42) rfl
theorem ww1095 : Jvm.Cond.fieldLink "TeaCabinetModel" 7 "TeaCabinetModel" "now" "[I" ∈ lw_tbl := sm_in5 (i := 37) rfl
theorem ww1096 : Jvm.Cond.fieldLink "TeaCabinetModel" 13 "TeaCabinetModel" "aside" "[I" ∈ lw_tbl := sm_in5 (i := 38) rfl
theorem ww1097 : Jvm.Cond.fieldLink "TeaCabinetModel" 16 "TeaCabinetModel" "kept" "[I" ∈ lw_tbl := sm_in5 (i := 39) rfl
theorem ww1098 : Jvm.Cond.fieldLink "TeaCabinetModel" 19 "TeaCabinetModel" "many" "I" ∈ lw_tbl := sm_in5 (i := 40) rfl
theorem ww1099 : Jvm.Cond.fieldLink "TeaCabinetModel" 23 "TeaCabinetModel" "heat" "I" ∈ lw_tbl := sm_in5 (i := 41) rfl
theorem ww1100 : Jvm.Cond.fieldLink "TeaCabinetModel" 26 "TeaCabinetModel" "cups" "I" ∈ lw_tbl := sm_in5 (i := 42) rfl
theorem ww1102 : Jvm.Cond.fieldLink "TeaCabinetModel" 29 "TeaCabinetModel" "tape" "[B" ∈ lw_tbl := sm_in5 (i := 44) rfl
theorem ww1113 : Jvm.Cond.fieldLink "TeaCabinetModel" 33 "TeaCabinetModel" "said" "[I" ∈ lw_tbl := sm_in5 (i := 55) rfl
theorem ww1114 : Jvm.Cond.fieldLink "TeaCabinetModel" 36 "TeaCabinetModel" "waitsAt" "[I" ∈ lw_tbl := sm_in5 (i := 56) rfl
theorem ww1115 : Jvm.Cond.fieldLink "TeaCabinetModel" 39 "TeaCabinetModel" "saidLetter" "[I" ∈ lw_tbl := sm_in5 (i := 57) rfl
theorem ww1116 : Jvm.Cond.fieldLink "TeaCabinetModel" 42 "TeaCabinetModel" "saidFrom" "[I" ∈ lw_tbl := sm_in5 (i := 58) rfl
theorem ww1117 : Jvm.Cond.fieldLink "TeaCabinetModel" 45 "TeaCabinetModel" "saidHalf" "[I" ∈ lw_tbl := sm_in5 (i := 59) rfl
theorem ww1118 : Jvm.Cond.fieldLink "TeaCabinetModel" 48 "TeaCabinetModel" "saidTo" "[I" ∈ lw_tbl := sm_in5 (i := 60) rfl
theorem ww1119 : Jvm.Cond.fieldLink "TeaCabinetModel" 51 "TeaCabinetModel" "codes" "[I" ∈ lw_tbl := sm_in5 (i := 61) rfl
theorem ww1120 : Jvm.Cond.fieldLink "TeaCabinetModel" 54 "TeaCabinetModel" "clauseOf" "[I" ∈ lw_tbl := sm_in5 (i := 62) rfl
theorem ww1121 : Jvm.Cond.fieldLink "TeaCabinetModel" 57 "TeaCabinetModel" "codeFrom" "[I" ∈ lw_tbl := sm_in5 (i := 63) rfl
theorem ww1122 : Jvm.Cond.fieldLink "TeaCabinetModel" 60 "TeaCabinetModel" "codeHalf" "[I" ∈ lw_tbl := sm_in5 (i := 64) rfl
theorem ww1123 : Jvm.Cond.fieldLink "TeaCabinetModel" 63 "TeaCabinetModel" "codeTo" "[I" ∈ lw_tbl := sm_in5 (i := 65) rfl
theorem ww1124 : Jvm.Cond.fieldLink "TeaCabinetModel" 66 "TeaCabinetModel" "stack" "[I" ∈ lw_tbl := sm_in5 (i := 66) rfl
theorem ww1125 : Jvm.Cond.fieldLink "TeaCabinetModel" 69 "TeaCabinetModel" "facts" "[I" ∈ lw_tbl := sm_in5 (i := 67) rfl
theorem ww1126 : Jvm.Cond.fieldLink "TeaCabinetModel" 72 "TeaCabinetModel" "newPlace" "[I" ∈ lw_tbl := sm_in5 (i := 68) rfl
theorem ww1129 : Jvm.Cond.fieldLink "TeaCabinetModel" 75 "TeaCabinetModel" "askedBy" "[I" ∈ lw_tbl := sm_in5 (i := 71) rfl
theorem ww1130 : Jvm.Cond.fieldLink "TeaCabinetModel" 78 "TeaCabinetModel" "votesOf" "[I" ∈ lw_tbl := sm_in5 (i := 72) rfl
theorem ww1131 : Jvm.Cond.fieldLink "TeaCabinetModel" 81 "TeaCabinetModel" "pointsOf" "[I" ∈ lw_tbl := sm_in5 (i := 73) rfl
theorem ww1132 : Jvm.Cond.fieldLink "TeaCabinetModel" 84 "TeaCabinetModel" "outAt" "[I" ∈ lw_tbl := sm_in5 (i := 74) rfl
theorem ww1133 : Jvm.Cond.fieldLink "TeaCabinetModel" 87 "TeaCabinetModel" "wideTo" "[I" ∈ lw_tbl := sm_in5 (i := 75) rfl
theorem ww1134 : Jvm.Cond.fieldLink "TeaCabinetModel" 90 "TeaCabinetModel" "leftWon" "[I" ∈ lw_tbl := sm_in5 (i := 76) rfl
theorem ww1135 : Jvm.Cond.fieldLink "TeaCabinetModel" 93 "TeaCabinetModel" "rowNow" "[I" ∈ lw_tbl := sm_in5 (i := 77) rfl
theorem ww1136 : Jvm.Cond.fieldLink "TeaCabinetModel" 96 "TeaCabinetModel" "rowBest" "[I" ∈ lw_tbl := sm_in5 (i := 78) rfl
theorem ww1137 : Jvm.Cond.fieldLink "TeaCabinetModel" 99 "TeaCabinetModel" "ownPlace" "[I" ∈ lw_tbl := sm_in5 (i := 79) rfl
theorem ww1138 : Jvm.Cond.fieldLink "TeaCabinetModel" 102 "TeaCabinetModel" "whoOf" "[I" ∈ lw_tbl := sm_in5 (i := 80) rfl
theorem ww1139 : Jvm.Cond.fieldLink "TeaCabinetModel" 105 "TeaCabinetModel" "votesWith" "[I" ∈ lw_tbl := sm_in5 (i := 81) rfl
theorem ww1140 : Jvm.Cond.fieldLink "TeaCabinetModel" 108 "TeaCabinetModel" "oftenOf" "[I" ∈ lw_tbl := sm_in5 (i := 82) rfl
theorem ww1141 : Jvm.Cond.fieldLink "TeaCabinetModel" 111 "TeaCabinetModel" "decidedOf" "[I" ∈ lw_tbl := sm_in5 (i := 83) rfl
theorem ww1101 : Jvm.Cond.fieldLink "TeaCabinetModel" 130 "TeaCabinetModel" "isKept" "Z" ∈ lw_tbl := sm_in5 (i := 43) rfl
theorem ww1103 : Jvm.Cond.fieldLink "TeaCabinetModel" 138 "TeaCabinetModel" "taped" "I" ∈ lw_tbl := sm_in5 (i := 45) rfl
theorem ww1104 : Jvm.Cond.fieldLink "TeaCabinetModel" 144 "TeaCabinetModel" "place0" "I" ∈ lw_tbl := sm_in5 (i := 46) rfl
theorem ww1105 : Jvm.Cond.fieldLink "TeaCabinetModel" 147 "TeaCabinetModel" "length0" "I" ∈ lw_tbl := sm_in5 (i := 47) rfl
theorem ww1106 : Jvm.Cond.fieldLink "TeaCabinetModel" 154 "TeaCabinetModel" "fault" "I" ∈ lw_tbl := sm_in5 (i := 48) rfl
theorem ww1107 : Jvm.Cond.fieldLink "TeaCabinetModel" 160 "TeaCabinetModel" "number0" "I" ∈ lw_tbl := sm_in5 (i := 49) rfl
theorem ww1109 : Jvm.Cond.fieldLink "TeaCabinetModel" 167 "TeaCabinetModel" "codeMany" "I" ∈ lw_tbl := sm_in5 (i := 51) rfl
theorem ww1108 : Jvm.Cond.fieldLink "TeaCabinetModel" 171 "TeaCabinetModel" "open" "I" ∈ lw_tbl := sm_in5 (i := 50) rfl
theorem ww1110 : Jvm.Cond.fieldLink "TeaCabinetModel" 174 "TeaCabinetModel" "waiting" "I" ∈ lw_tbl := sm_in5 (i := 52) rfl
theorem ww1111 : Jvm.Cond.fieldLink "TeaCabinetModel" 221 "TeaCabinetModel" "saidMany" "I" ∈ lw_tbl := sm_in5 (i := 53) rfl
theorem ww1112 : Jvm.Cond.fieldLink "TeaCabinetModel" 233 "TeaCabinetModel" "clauses" "I" ∈ lw_tbl := sm_in5 (i := 54) rfl
theorem ww1127 : Jvm.Cond.fieldLink "TeaCabinetModel" 286 "TeaCabinetModel" "burntNow" "I" ∈ lw_tbl := sm_in5 (i := 69) rfl
theorem ww1128 : Jvm.Cond.fieldLink "TeaCabinetModel" 299 "TeaCabinetModel" "spiltNow" "I" ∈ lw_tbl := sm_in5 (i := 70) rfl
theorem sm_FLo_0 : ∀ q ∈ [(0, 9, 0, 0), (0, 15, 0, 1), (0, 23, 5, 4), (0, 41, 5, 3), (1, 9, 1, 2), (1, 15, 1, 3), (1, 18, 1, 4), (1, 21, 1, 5), (1, 24, 1, 6), (1, 27, 1, 7), (1, 30, 1, 8), (1, 33, 1, 9), (1, 36, 1, 0), (1, 40, 1, 1), (1, 49, 4, 2), (1, 62, 4, 14), (1, 72, 4, 9), (1, 75, 4, 11), (1, 78, 4, 13), (1, 81, 4, 4)], sm_PF q := List.forall_mem_cons.mpr ⟨⟨("TeaCabinet$AgendaReader", fT0, 2), rfl, Nat.le_of_ble_eq_true rfl, ww373⟩, List.forall_mem_cons.mpr ⟨⟨("TeaCabinet$AgendaReader", fT0, 2), rfl, Nat.le_of_ble_eq_true rfl, ww374⟩, List.forall_mem_cons.mpr ⟨⟨("TeaCabinet$Text", fT5, 5), rfl, Nat.le_of_ble_eq_true rfl, ww141⟩, List.forall_mem_cons.mpr ⟨⟨("TeaCabinet$Text", fT5, 5), rfl, Nat.le_of_ble_eq_true rfl, ww137⟩, List.forall_mem_cons.mpr ⟨⟨("TeaCabinet$Law", fT1, 11), rfl, Nat.le_of_ble_eq_true rfl, ww311⟩, List.forall_mem_cons.mpr ⟨⟨("TeaCabinet$Law", fT1, 11), rfl, Nat.le_of_ble_eq_true rfl, ww313⟩, List.forall_mem_cons.mpr ⟨⟨("TeaCabinet$Law", fT1, 11), rfl, Nat.le_of_ble_eq_true rfl, ww315⟩, List.forall_mem_cons.mpr ⟨⟨("TeaCabinet$Law", fT1, 11), rfl, Nat.le_of_ble_eq_true rfl, ww317⟩, List.forall_mem_cons.mpr ⟨⟨("TeaCabinet$Law", fT1, 11), rfl, Nat.le_of_ble_eq_true rfl, ww319⟩, List.forall_mem_cons.mpr ⟨⟨("TeaCabinet$Law", fT1, 11), rfl, Nat.le_of_ble_eq_true rfl, ww320⟩, List.forall_mem_cons.mpr ⟨⟨("TeaCabinet$Law", fT1, 11), rfl, Nat.le_of_ble_eq_true rfl, ww322⟩, List.forall_mem_cons.mpr ⟨⟨("TeaCabinet$Law", fT1, 11), rfl, Nat.le_of_ble_eq_true rfl, ww323⟩, List.forall_mem_cons.mpr ⟨⟨("TeaCabinet$Law", fT1, 11), rfl, Nat.le_of_ble_eq_true rfl, ww306⟩, List.forall_mem_cons.mpr ⟨⟨("TeaCabinet$Law", fT1, 11), rfl, Nat.le_of_ble_eq_true rfl, ww309⟩, List.forall_mem_cons.mpr ⟨⟨("TeaCabinet$Table", fT4, 15), rfl, Nat.le_of_ble_eq_true rfl, ww173⟩, List.forall_mem_cons.mpr ⟨⟨("TeaCabinet$Table", fT4, 15), rfl, Nat.le_of_ble_eq_true rfl, ww216⟩, List.forall_mem_cons.mpr ⟨⟨("TeaCabinet$Table", fT4, 15), rfl, Nat.le_of_ble_eq_true rfl, ww198⟩, List.forall_mem_cons.mpr ⟨⟨("TeaCabinet$Table", fT4, 15), rfl, Nat.le_of_ble_eq_true rfl, ww205⟩, List.forall_mem_cons.mpr ⟨⟨("TeaCabinet$Table", fT4, 15), rfl, Nat.le_of_ble_eq_true rfl, ww212⟩, List.forall_mem_cons.mpr ⟨⟨("TeaCabinet$Table", fT4, 15), rfl, Nat.le_of_ble_eq_true rfl, ww181⟩, fun _ h => absurd h List.not_mem_nil⟩⟩⟩⟩⟩⟩⟩⟩⟩⟩⟩⟩⟩⟩⟩⟩⟩⟩⟩⟩
theorem sm_FLo_1 : ∀ q ∈ [(1, 110, 1, 10), (2, 12, 2, 1), (2, 18, 2, 0), (2, 22, 1, 0), (2, 26, 1, 1), (2, 29, 2, 2), (2, 41, 5, 4), (2, 52, 5, 3), (2, 55, 1, 2), (2, 59, 1, 3), (2, 65, 1, 4), (2, 71, 1, 5), (2, 98, 1, 7), (3, 9, 3, 1), (3, 15, 3, 2), (3, 19, 3, 3), (3, 22, 3, 0), (3, 45, 4, 7), (3, 50, 4, 8), (3, 53, 4, 2)], sm_PF q := List.forall_mem_cons.mpr ⟨⟨("TeaCabinet$Law", fT1, 11), rfl, Nat.le_of_ble_eq_true rfl, ww324⟩, List.forall_mem_cons.mpr ⟨⟨("TeaCabinet$LawReader", fT2, 3), rfl, Nat.le_of_ble_eq_true rfl, ww357⟩, List.forall_mem_cons.mpr ⟨⟨("TeaCabinet$LawReader", fT2, 3), rfl, Nat.le_of_ble_eq_true rfl, ww356⟩, List.forall_mem_cons.mpr ⟨⟨("TeaCabinet$Law", fT1, 11), rfl, Nat.le_of_ble_eq_true rfl, ww307⟩, List.forall_mem_cons.mpr ⟨⟨("TeaCabinet$Law", fT1, 11), rfl, Nat.le_of_ble_eq_true rfl, ww310⟩, List.forall_mem_cons.mpr ⟨⟨("TeaCabinet$LawReader", fT2, 3), rfl, Nat.le_of_ble_eq_true rfl, ww359⟩, List.forall_mem_cons.mpr ⟨⟨("TeaCabinet$Text", fT5, 5), rfl, Nat.le_of_ble_eq_true rfl, ww142⟩, List.forall_mem_cons.mpr ⟨⟨("TeaCabinet$Text", fT5, 5), rfl, Nat.le_of_ble_eq_true rfl, ww138⟩, List.forall_mem_cons.mpr ⟨⟨("TeaCabinet$Law", fT1, 11), rfl, Nat.le_of_ble_eq_true rfl, ww312⟩, List.forall_mem_cons.mpr ⟨⟨("TeaCabinet$Law", fT1, 11), rfl, Nat.le_of_ble_eq_true rfl, ww314⟩, List.forall_mem_cons.mpr ⟨⟨("TeaCabinet$Law", fT1, 11), rfl, Nat.le_of_ble_eq_true rfl, ww316⟩, List.forall_mem_cons.mpr ⟨⟨("TeaCabinet$Law", fT1, 11), rfl, Nat.le_of_ble_eq_true rfl, ww318⟩, List.forall_mem_cons.mpr ⟨⟨("TeaCabinet$Law", fT1, 11), rfl, Nat.le_of_ble_eq_true rfl, ww321⟩, List.forall_mem_cons.mpr ⟨⟨("TeaCabinet$Service", fT3, 4), rfl, Nat.le_of_ble_eq_true rfl, ww387⟩, List.forall_mem_cons.mpr ⟨⟨("TeaCabinet$Service", fT3, 4), rfl, Nat.le_of_ble_eq_true rfl, ww388⟩, List.forall_mem_cons.mpr ⟨⟨("TeaCabinet$Service", fT3, 4), rfl, Nat.le_of_ble_eq_true rfl, ww390⟩, List.forall_mem_cons.mpr ⟨⟨("TeaCabinet$Service", fT3, 4), rfl, Nat.le_of_ble_eq_true rfl, ww386⟩, List.forall_mem_cons.mpr ⟨⟨("TeaCabinet$Table", fT4, 15), rfl, Nat.le_of_ble_eq_true rfl, ww191⟩, List.forall_mem_cons.mpr ⟨⟨("TeaCabinet$Table", fT4, 15), rfl, Nat.le_of_ble_eq_true rfl, ww193⟩, List.forall_mem_cons.mpr ⟨⟨("TeaCabinet$Table", fT4, 15), rfl, Nat.le_of_ble_eq_true rfl, ww174⟩, fun _ h => absurd h List.not_mem_nil⟩⟩⟩⟩⟩⟩⟩⟩⟩⟩⟩⟩⟩⟩⟩⟩⟩⟩⟩⟩
theorem sm_FLo_2 : ∀ q ∈ [(3, 65, 4, 10), (3, 68, 4, 4), (3, 75, 4, 6), (3, 79, 4, 5), (3, 93, 4, 13), (3, 96, 4, 12), (3, 99, 4, 11), (3, 106, 4, 3), (3, 121, 4, 9), (4, 9, 4, 0), (4, 15, 4, 2), (4, 18, 4, 6), (4, 21, 4, 7), (4, 25, 4, 8), (4, 28, 4, 9), (4, 31, 4, 10), (4, 34, 4, 11), (4, 37, 4, 12), (4, 40, 4, 13), (4, 43, 4, 14)], sm_PF q := List.forall_mem_cons.mpr ⟨⟨("TeaCabinet$Table", fT4, 15), rfl, Nat.le_of_ble_eq_true rfl, ww202⟩, List.forall_mem_cons.mpr ⟨⟨("TeaCabinet$Table", fT4, 15), rfl, Nat.le_of_ble_eq_true rfl, ww180⟩, List.forall_mem_cons.mpr ⟨⟨("TeaCabinet$Table", fT4, 15), rfl, Nat.le_of_ble_eq_true rfl, ww187⟩, List.forall_mem_cons.mpr ⟨⟨("TeaCabinet$Table", fT4, 15), rfl, Nat.le_of_ble_eq_true rfl, ww184⟩, List.forall_mem_cons.mpr ⟨⟨("TeaCabinet$Table", fT4, 15), rfl, Nat.le_of_ble_eq_true rfl, ww211⟩, List.forall_mem_cons.mpr ⟨⟨("TeaCabinet$Table", fT4, 15), rfl, Nat.le_of_ble_eq_true rfl, ww208⟩, List.forall_mem_cons.mpr ⟨⟨("TeaCabinet$Table", fT4, 15), rfl, Nat.le_of_ble_eq_true rfl, ww206⟩, List.forall_mem_cons.mpr ⟨⟨("TeaCabinet$Table", fT4, 15), rfl, Nat.le_of_ble_eq_true rfl, ww178⟩, List.forall_mem_cons.mpr ⟨⟨("TeaCabinet$Table", fT4, 15), rfl, Nat.le_of_ble_eq_true rfl, ww199⟩, List.forall_mem_cons.mpr ⟨⟨("TeaCabinet$Table", fT4, 15), rfl, Nat.le_of_ble_eq_true rfl, ww166⟩, List.forall_mem_cons.mpr ⟨⟨("TeaCabinet$Table", fT4, 15), rfl, Nat.le_of_ble_eq_true rfl, ww172⟩, List.forall_mem_cons.mpr ⟨⟨("TeaCabinet$Table", fT4, 15), rfl, Nat.le_of_ble_eq_true rfl, ww186⟩, List.forall_mem_cons.mpr ⟨⟨("TeaCabinet$Table", fT4, 15), rfl, Nat.le_of_ble_eq_true rfl, ww189⟩, List.forall_mem_cons.mpr ⟨⟨("TeaCabinet$Table", fT4, 15), rfl, Nat.le_of_ble_eq_true rfl, ww192⟩, List.forall_mem_cons.mpr ⟨⟨("TeaCabinet$Table", fT4, 15), rfl, Nat.le_of_ble_eq_true rfl, ww195⟩, List.forall_mem_cons.mpr ⟨⟨("TeaCabinet$Table", fT4, 15), rfl, Nat.le_of_ble_eq_true rfl, ww200⟩, List.forall_mem_cons.mpr ⟨⟨("TeaCabinet$Table", fT4, 15), rfl, Nat.le_of_ble_eq_true rfl, ww203⟩, List.forall_mem_cons.mpr ⟨⟨("TeaCabinet$Table", fT4, 15), rfl, Nat.le_of_ble_eq_true rfl, ww207⟩, List.forall_mem_cons.mpr ⟨⟨("TeaCabinet$Table", fT4, 15), rfl, Nat.le_of_ble_eq_true rfl, ww210⟩, List.forall_mem_cons.mpr ⟨⟨("TeaCabinet$Table", fT4, 15), rfl, Nat.le_of_ble_eq_true rfl, ww214⟩, fun _ h => absurd h List.not_mem_nil⟩⟩⟩⟩⟩⟩⟩⟩⟩⟩⟩⟩⟩⟩⟩⟩⟩⟩⟩⟩
theorem sm_FLo_3 : ∀ q ∈ [(4, 53, 4, 1), (4, 56, 4, 3), (4, 59, 4, 4), (4, 62, 4, 5), (5, 9, 5, 0), (5, 15, 5, 1), (5, 23, 5, 2), (5, 26, 5, 3), (5, 29, 5, 4), (6, 9, 6, 1), (6, 15, 6, 2), (6, 18, 6, 3), (6, 21, 6, 4), (6, 24, 6, 5), (6, 27, 6, 6), (6, 30, 6, 7), (6, 33, 6, 8), (6, 36, 6, 9), (6, 39, 6, 10), (6, 42, 6, 11)], sm_PF q := List.forall_mem_cons.mpr ⟨⟨("TeaCabinet$Table", fT4, 15), rfl, Nat.le_of_ble_eq_true rfl, ww169⟩, List.forall_mem_cons.mpr ⟨⟨("TeaCabinet$Table", fT4, 15), rfl, Nat.le_of_ble_eq_true rfl, ww177⟩, List.forall_mem_cons.mpr ⟨⟨("TeaCabinet$Table", fT4, 15), rfl, Nat.le_of_ble_eq_true rfl, ww179⟩, List.forall_mem_cons.mpr ⟨⟨("TeaCabinet$Table", fT4, 15), rfl, Nat.le_of_ble_eq_true rfl, ww183⟩, List.forall_mem_cons.mpr ⟨⟨("TeaCabinet$Text", fT5, 5), rfl, Nat.le_of_ble_eq_true rfl, ww132⟩, List.forall_mem_cons.mpr ⟨⟨("TeaCabinet$Text", fT5, 5), rfl, Nat.le_of_ble_eq_true rfl, ww134⟩, List.forall_mem_cons.mpr ⟨⟨("TeaCabinet$Text", fT5, 5), rfl, Nat.le_of_ble_eq_true rfl, ww136⟩, List.forall_mem_cons.mpr ⟨⟨("TeaCabinet$Text", fT5, 5), rfl, Nat.le_of_ble_eq_true rfl, ww139⟩, List.forall_mem_cons.mpr ⟨⟨("TeaCabinet$Text", fT5, 5), rfl, Nat.le_of_ble_eq_true rfl, ww143⟩, List.forall_mem_cons.mpr ⟨⟨("TeaCabinet$Votes", fT6, 13), rfl, Nat.le_of_ble_eq_true rfl, ww256⟩, List.forall_mem_cons.mpr ⟨⟨("TeaCabinet$Votes", fT6, 13), rfl, Nat.le_of_ble_eq_true rfl, ww258⟩, List.forall_mem_cons.mpr ⟨⟨("TeaCabinet$Votes", fT6, 13), rfl, Nat.le_of_ble_eq_true rfl, ww259⟩, List.forall_mem_cons.mpr ⟨⟨("TeaCabinet$Votes", fT6, 13), rfl, Nat.le_of_ble_eq_true rfl, ww261⟩, List.forall_mem_cons.mpr ⟨⟨("TeaCabinet$Votes", fT6, 13), rfl, Nat.le_of_ble_eq_true rfl, ww263⟩, List.forall_mem_cons.mpr ⟨⟨("TeaCabinet$Votes", fT6, 13), rfl, Nat.le_of_ble_eq_true rfl, ww264⟩, List.forall_mem_cons.mpr ⟨⟨("TeaCabinet$Votes", fT6, 13), rfl, Nat.le_of_ble_eq_true rfl, ww266⟩, List.forall_mem_cons.mpr ⟨⟨("TeaCabinet$Votes", fT6, 13), rfl, Nat.le_of_ble_eq_true rfl, ww267⟩, List.forall_mem_cons.mpr ⟨⟨("TeaCabinet$Votes", fT6, 13), rfl, Nat.le_of_ble_eq_true rfl, ww268⟩, List.forall_mem_cons.mpr ⟨⟨("TeaCabinet$Votes", fT6, 13), rfl, Nat.le_of_ble_eq_true rfl, ww270⟩, List.forall_mem_cons.mpr ⟨⟨("TeaCabinet$Votes", fT6, 13), rfl, Nat.le_of_ble_eq_true rfl, ww271⟩, fun _ h => absurd h List.not_mem_nil⟩⟩⟩⟩⟩⟩⟩⟩⟩⟩⟩⟩⟩⟩⟩⟩⟩⟩⟩⟩
theorem sm_FLo_4 : ∀ q ∈ [(6, 45, 6, 12), (6, 48, 6, 0), (6, 76, 4, 9), (6, 85, 4, 0), (6, 145, 4, 1), (7, 10, 7, 0), (7, 19, 7, 1), (7, 23, 7, 2), (7, 26, 7, 3), (7, 34, 7, 4), (7, 41, 7, 5), (7, 50, 7, 6), (7, 59, 7, 7), (7, 68, 7, 8), (7, 72, 7, 9), (7, 76, 7, 10), (7, 83, 4, 0), (7, 87, 4, 3), (7, 90, 4, 14), (7, 100, 7, 11)], sm_PF q := List.forall_mem_cons.mpr ⟨⟨("TeaCabinet$Votes", fT6, 13), rfl, Nat.le_of_ble_eq_true rfl, ww272⟩, List.forall_mem_cons.mpr ⟨⟨("TeaCabinet$Votes", fT6, 13), rfl, Nat.le_of_ble_eq_true rfl, ww255⟩, List.forall_mem_cons.mpr ⟨⟨("TeaCabinet$Table", fT4, 15), rfl, Nat.le_of_ble_eq_true rfl, ww197⟩, List.forall_mem_cons.mpr ⟨⟨("TeaCabinet$Table", fT4, 15), rfl, Nat.le_of_ble_eq_true rfl, ww168⟩, List.forall_mem_cons.mpr ⟨⟨("TeaCabinet$Table", fT4, 15), rfl, Nat.le_of_ble_eq_true rfl, ww170⟩, List.forall_mem_cons.mpr ⟨⟨("TeaCabinet", fT7, 12), rfl, Nat.le_of_ble_eq_true rfl, ww401⟩, List.forall_mem_cons.mpr ⟨⟨("TeaCabinet", fT7, 12), rfl, Nat.le_of_ble_eq_true rfl, ww402⟩, List.forall_mem_cons.mpr ⟨⟨("TeaCabinet", fT7, 12), rfl, Nat.le_of_ble_eq_true rfl, ww403⟩, List.forall_mem_cons.mpr ⟨⟨("TeaCabinet", fT7, 12), rfl, Nat.le_of_ble_eq_true rfl, ww404⟩, List.forall_mem_cons.mpr ⟨⟨("TeaCabinet", fT7, 12), rfl, Nat.le_of_ble_eq_true rfl, ww405⟩, List.forall_mem_cons.mpr ⟨⟨("TeaCabinet", fT7, 12), rfl, Nat.le_of_ble_eq_true rfl, ww406⟩, List.forall_mem_cons.mpr ⟨⟨("TeaCabinet", fT7, 12), rfl, Nat.le_of_ble_eq_true rfl, ww407⟩, List.forall_mem_cons.mpr ⟨⟨("TeaCabinet", fT7, 12), rfl, Nat.le_of_ble_eq_true rfl, ww408⟩, List.forall_mem_cons.mpr ⟨⟨("TeaCabinet", fT7, 12), rfl, Nat.le_of_ble_eq_true rfl, ww409⟩, List.forall_mem_cons.mpr ⟨⟨("TeaCabinet", fT7, 12), rfl, Nat.le_of_ble_eq_true rfl, ww410⟩, List.forall_mem_cons.mpr ⟨⟨("TeaCabinet", fT7, 12), rfl, Nat.le_of_ble_eq_true rfl, ww411⟩, List.forall_mem_cons.mpr ⟨⟨("TeaCabinet$Table", fT4, 15), rfl, Nat.le_of_ble_eq_true rfl, ww167⟩, List.forall_mem_cons.mpr ⟨⟨("TeaCabinet$Table", fT4, 15), rfl, Nat.le_of_ble_eq_true rfl, ww176⟩, List.forall_mem_cons.mpr ⟨⟨("TeaCabinet$Table", fT4, 15), rfl, Nat.le_of_ble_eq_true rfl, ww215⟩, List.forall_mem_cons.mpr ⟨⟨("TeaCabinet", fT7, 12), rfl, Nat.le_of_ble_eq_true rfl, ww412⟩, fun _ h => absurd h List.not_mem_nil⟩⟩⟩⟩⟩⟩⟩⟩⟩⟩⟩⟩⟩⟩⟩⟩⟩⟩⟩⟩
theorem sm_FLo_5 : ∀ q ∈ [(7, 104, 4, 7), (7, 111, 4, 9), (7, 114, 4, 10), (7, 117, 4, 11), (7, 120, 3, 2), (7, 123, 3, 3), (7, 130, 4, 2), (7, 133, 5, 1), (7, 150, 2, 1), (7, 160, 5, 4), (7, 173, 4, 5), (7, 179, 4, 8), (7, 182, 4, 12), (7, 185, 4, 13), (7, 214, 6, 1), (7, 227, 6, 6), (7, 236, 6, 3), (7, 245, 6, 4), (7, 260, 6, 9), (7, 278, 4, 1)], sm_PF q := List.forall_mem_cons.mpr ⟨⟨("TeaCabinet$Table", fT4, 15), rfl, Nat.le_of_ble_eq_true rfl, ww190⟩, List.forall_mem_cons.mpr ⟨⟨("TeaCabinet$Table", fT4, 15), rfl, Nat.le_of_ble_eq_true rfl, ww196⟩, List.forall_mem_cons.mpr ⟨⟨("TeaCabinet$Table", fT4, 15), rfl, Nat.le_of_ble_eq_true rfl, ww201⟩, List.forall_mem_cons.mpr ⟨⟨("TeaCabinet$Table", fT4, 15), rfl, Nat.le_of_ble_eq_true rfl, ww204⟩, List.forall_mem_cons.mpr ⟨⟨("TeaCabinet$Service", fT3, 4), rfl, Nat.le_of_ble_eq_true rfl, ww389⟩, List.forall_mem_cons.mpr ⟨⟨("TeaCabinet$Service", fT3, 4), rfl, Nat.le_of_ble_eq_true rfl, ww391⟩, List.forall_mem_cons.mpr ⟨⟨("TeaCabinet$Table", fT4, 15), rfl, Nat.le_of_ble_eq_true rfl, ww175⟩, List.forall_mem_cons.mpr ⟨⟨("TeaCabinet$Text", fT5, 5), rfl, Nat.le_of_ble_eq_true rfl, ww135⟩, List.forall_mem_cons.mpr ⟨⟨("TeaCabinet$LawReader", fT2, 3), rfl, Nat.le_of_ble_eq_true rfl, ww358⟩, List.forall_mem_cons.mpr ⟨⟨("TeaCabinet$Text", fT5, 5), rfl, Nat.le_of_ble_eq_true rfl, ww144⟩, List.forall_mem_cons.mpr ⟨⟨("TeaCabinet$Table", fT4, 15), rfl, Nat.le_of_ble_eq_true rfl, ww185⟩, List.forall_mem_cons.mpr ⟨⟨("TeaCabinet$Table", fT4, 15), rfl, Nat.le_of_ble_eq_true rfl, ww194⟩, List.forall_mem_cons.mpr ⟨⟨("TeaCabinet$Table", fT4, 15), rfl, Nat.le_of_ble_eq_true rfl, ww209⟩, List.forall_mem_cons.mpr ⟨⟨("TeaCabinet$Table", fT4, 15), rfl, Nat.le_of_ble_eq_true rfl, ww213⟩, List.forall_mem_cons.mpr ⟨⟨("TeaCabinet$Votes", fT6, 13), rfl, Nat.le_of_ble_eq_true rfl, ww257⟩, List.forall_mem_cons.mpr ⟨⟨("TeaCabinet$Votes", fT6, 13), rfl, Nat.le_of_ble_eq_true rfl, ww265⟩, List.forall_mem_cons.mpr ⟨⟨("TeaCabinet$Votes", fT6, 13), rfl, Nat.le_of_ble_eq_true rfl, ww260⟩, List.forall_mem_cons.mpr ⟨⟨("TeaCabinet$Votes", fT6, 13), rfl, Nat.le_of_ble_eq_true rfl, ww262⟩, List.forall_mem_cons.mpr ⟨⟨("TeaCabinet$Votes", fT6, 13), rfl, Nat.le_of_ble_eq_true rfl, ww269⟩, List.forall_mem_cons.mpr ⟨⟨("TeaCabinet$Table", fT4, 15), rfl, Nat.le_of_ble_eq_true rfl, ww171⟩, fun _ h => absurd h List.not_mem_nil⟩⟩⟩⟩⟩⟩⟩⟩⟩⟩⟩⟩⟩⟩⟩⟩⟩⟩⟩⟩
theorem sm_FLo_6 : ∀ q ∈ [(7, 316, 4, 6), (7, 319, 4, 4), (7, 322, 5, 0), (7, 325, 1, 0), (7, 337, 5, 3), (8, 7, 8, 0), (8, 13, 8, 1), (8, 16, 8, 2), (8, 19, 8, 3), (8, 23, 8, 4), (8, 26, 8, 5), (8, 29, 8, 7), (8, 33, 8, 18), (8, 36, 8, 19), (8, 39, 8, 20), (8, 42, 8, 21), (8, 45, 8, 22), (8, 48, 8, 23), (8, 51, 8, 24), (8, 54, 8, 25)], sm_PF q := List.forall_mem_cons.mpr ⟨⟨("TeaCabinet$Table", fT4, 15), rfl, Nat.le_of_ble_eq_true rfl, ww188⟩, List.forall_mem_cons.mpr ⟨⟨("TeaCabinet$Table", fT4, 15), rfl, Nat.le_of_ble_eq_true rfl, ww182⟩, List.forall_mem_cons.mpr ⟨⟨("TeaCabinet$Text", fT5, 5), rfl, Nat.le_of_ble_eq_true rfl, ww133⟩, List.forall_mem_cons.mpr ⟨⟨("TeaCabinet$Law", fT1, 11), rfl, Nat.le_of_ble_eq_true rfl, ww308⟩, List.forall_mem_cons.mpr ⟨⟨("TeaCabinet$Text", fT5, 5), rfl, Nat.le_of_ble_eq_true rfl, ww140⟩, List.forall_mem_cons.mpr ⟨⟨("TeaCabinetModel", fT8, 47), rfl, Nat.le_of_ble_eq_true rfl, ww1095⟩, List.forall_mem_cons.mpr ⟨⟨("TeaCabinetModel", fT8, 47), rfl, Nat.le_of_ble_eq_true rfl, ww1096⟩, List.forall_mem_cons.mpr ⟨⟨("TeaCabinetModel", fT8, 47), rfl, Nat.le_of_ble_eq_true rfl, ww1097⟩, List.forall_mem_cons.mpr ⟨⟨("TeaCabinetModel", fT8, 47), rfl, Nat.le_of_ble_eq_true rfl, ww1098⟩, List.forall_mem_cons.mpr ⟨⟨("TeaCabinetModel", fT8, 47), rfl, Nat.le_of_ble_eq_true rfl, ww1099⟩, List.forall_mem_cons.mpr ⟨⟨("TeaCabinetModel", fT8, 47), rfl, Nat.le_of_ble_eq_true rfl, ww1100⟩, List.forall_mem_cons.mpr ⟨⟨("TeaCabinetModel", fT8, 47), rfl, Nat.le_of_ble_eq_true rfl, ww1102⟩, List.forall_mem_cons.mpr ⟨⟨("TeaCabinetModel", fT8, 47), rfl, Nat.le_of_ble_eq_true rfl, ww1113⟩, List.forall_mem_cons.mpr ⟨⟨("TeaCabinetModel", fT8, 47), rfl, Nat.le_of_ble_eq_true rfl, ww1114⟩, List.forall_mem_cons.mpr ⟨⟨("TeaCabinetModel", fT8, 47), rfl, Nat.le_of_ble_eq_true rfl, ww1115⟩, List.forall_mem_cons.mpr ⟨⟨("TeaCabinetModel", fT8, 47), rfl, Nat.le_of_ble_eq_true rfl, ww1116⟩, List.forall_mem_cons.mpr ⟨⟨("TeaCabinetModel", fT8, 47), rfl, Nat.le_of_ble_eq_true rfl, ww1117⟩, List.forall_mem_cons.mpr ⟨⟨("TeaCabinetModel", fT8, 47), rfl, Nat.le_of_ble_eq_true rfl, ww1118⟩, List.forall_mem_cons.mpr ⟨⟨("TeaCabinetModel", fT8, 47), rfl, Nat.le_of_ble_eq_true rfl, ww1119⟩, List.forall_mem_cons.mpr ⟨⟨("TeaCabinetModel", fT8, 47), rfl, Nat.le_of_ble_eq_true rfl, ww1120⟩, fun _ h => absurd h List.not_mem_nil⟩⟩⟩⟩⟩⟩⟩⟩⟩⟩⟩⟩⟩⟩⟩⟩⟩⟩⟩⟩
theorem sm_FLo_7 : ∀ q ∈ [(8, 57, 8, 26), (8, 60, 8, 27), (8, 63, 8, 28), (8, 66, 8, 29), (8, 69, 8, 30), (8, 72, 8, 31), (8, 75, 8, 34), (8, 78, 8, 35), (8, 81, 8, 36), (8, 84, 8, 37), (8, 87, 8, 38), (8, 90, 8, 39), (8, 93, 8, 40), (8, 96, 8, 41), (8, 99, 8, 42), (8, 102, 8, 43), (8, 105, 8, 44), (8, 108, 8, 45), (8, 111, 8, 46), (8, 130, 8, 6)], sm_PF q := List.forall_mem_cons.mpr ⟨⟨("TeaCabinetModel", fT8, 47), rfl, Nat.le_of_ble_eq_true rfl, ww1121⟩, List.forall_mem_cons.mpr ⟨⟨("TeaCabinetModel", fT8, 47), rfl, Nat.le_of_ble_eq_true rfl, ww1122⟩, List.forall_mem_cons.mpr ⟨⟨("TeaCabinetModel", fT8, 47), rfl, Nat.le_of_ble_eq_true rfl, ww1123⟩, List.forall_mem_cons.mpr ⟨⟨("TeaCabinetModel", fT8, 47), rfl, Nat.le_of_ble_eq_true rfl, ww1124⟩, List.forall_mem_cons.mpr ⟨⟨("TeaCabinetModel", fT8, 47), rfl, Nat.le_of_ble_eq_true rfl, ww1125⟩, List.forall_mem_cons.mpr ⟨⟨("TeaCabinetModel", fT8, 47), rfl, Nat.le_of_ble_eq_true rfl, ww1126⟩, List.forall_mem_cons.mpr ⟨⟨("TeaCabinetModel", fT8, 47), rfl, Nat.le_of_ble_eq_true rfl, ww1129⟩, List.forall_mem_cons.mpr ⟨⟨("TeaCabinetModel", fT8, 47), rfl, Nat.le_of_ble_eq_true rfl, ww1130⟩, List.forall_mem_cons.mpr ⟨⟨("TeaCabinetModel", fT8, 47), rfl, Nat.le_of_ble_eq_true rfl, ww1131⟩, List.forall_mem_cons.mpr ⟨⟨("TeaCabinetModel", fT8, 47), rfl, Nat.le_of_ble_eq_true rfl, ww1132⟩, List.forall_mem_cons.mpr ⟨⟨("TeaCabinetModel", fT8, 47), rfl, Nat.le_of_ble_eq_true rfl, ww1133⟩, List.forall_mem_cons.mpr ⟨⟨("TeaCabinetModel", fT8, 47), rfl, Nat.le_of_ble_eq_true rfl, ww1134⟩, List.forall_mem_cons.mpr ⟨⟨("TeaCabinetModel", fT8, 47), rfl, Nat.le_of_ble_eq_true rfl, ww1135⟩, List.forall_mem_cons.mpr ⟨⟨("TeaCabinetModel", fT8, 47), rfl, Nat.le_of_ble_eq_true rfl, ww1136⟩, List.forall_mem_cons.mpr ⟨⟨("TeaCabinetModel", fT8, 47), rfl, Nat.le_of_ble_eq_true rfl, ww1137⟩, List.forall_mem_cons.mpr ⟨⟨("TeaCabinetModel", fT8, 47), rfl, Nat.le_of_ble_eq_true rfl, ww1138⟩, List.forall_mem_cons.mpr ⟨⟨("TeaCabinetModel", fT8, 47), rfl, Nat.le_of_ble_eq_true rfl, ww1139⟩, List.forall_mem_cons.mpr ⟨⟨("TeaCabinetModel", fT8, 47), rfl, Nat.le_of_ble_eq_true rfl, ww1140⟩, List.forall_mem_cons.mpr ⟨⟨("TeaCabinetModel", fT8, 47), rfl, Nat.le_of_ble_eq_true rfl, ww1141⟩, List.forall_mem_cons.mpr ⟨⟨("TeaCabinetModel", fT8, 47), rfl, Nat.le_of_ble_eq_true rfl, ww1101⟩, fun _ h => absurd h List.not_mem_nil⟩⟩⟩⟩⟩⟩⟩⟩⟩⟩⟩⟩⟩⟩⟩⟩⟩⟩⟩⟩
theorem sm_FLo_8 : ∀ q ∈ [(8, 138, 8, 8), (8, 144, 8, 9), (8, 147, 8, 10), (8, 154, 8, 11), (8, 160, 8, 12), (8, 167, 8, 14), (8, 171, 8, 13), (8, 174, 8, 15), (8, 221, 8, 16), (8, 233, 8, 17), (8, 286, 8, 32), (8, 299, 8, 33)], sm_PF q := List.forall_mem_cons.mpr ⟨⟨("TeaCabinetModel", fT8, 47), rfl, Nat.le_of_ble_eq_true rfl, ww1103⟩, List.forall_mem_cons.mpr ⟨⟨("TeaCabinetModel", fT8, 47), rfl, Nat.le_of_ble_eq_true rfl, ww1104⟩, List.forall_mem_cons.mpr ⟨⟨("TeaCabinetModel", fT8, 47), rfl, Nat.le_of_ble_eq_true rfl, ww1105⟩, List.forall_mem_cons.mpr ⟨⟨("TeaCabinetModel", fT8, 47), rfl, Nat.le_of_ble_eq_true rfl, ww1106⟩, List.forall_mem_cons.mpr ⟨⟨("TeaCabinetModel", fT8, 47), rfl, Nat.le_of_ble_eq_true rfl, ww1107⟩, List.forall_mem_cons.mpr ⟨⟨("TeaCabinetModel", fT8, 47), rfl, Nat.le_of_ble_eq_true rfl, ww1109⟩, List.forall_mem_cons.mpr ⟨⟨("TeaCabinetModel", fT8, 47), rfl, Nat.le_of_ble_eq_true rfl, ww1108⟩, List.forall_mem_cons.mpr ⟨⟨("TeaCabinetModel", fT8, 47), rfl, Nat.le_of_ble_eq_true rfl, ww1110⟩, List.forall_mem_cons.mpr ⟨⟨("TeaCabinetModel", fT8, 47), rfl, Nat.le_of_ble_eq_true rfl, ww1111⟩, List.forall_mem_cons.mpr ⟨⟨("TeaCabinetModel", fT8, 47), rfl, Nat.le_of_ble_eq_true rfl, ww1112⟩, List.forall_mem_cons.mpr ⟨⟨("TeaCabinetModel", fT8, 47), rfl, Nat.le_of_ble_eq_true rfl, ww1127⟩, List.forall_mem_cons.mpr ⟨⟨("TeaCabinetModel", fT8, 47), rfl, Nat.le_of_ble_eq_true rfl, ww1128⟩, fun _ h => absurd h List.not_mem_nil⟩⟩⟩⟩⟩⟩⟩⟩⟩⟩⟩⟩
set_option maxRecDepth 20000 in
theorem sm_FL_ok : ∀ q ∈ sm_FL, sm_PF q := List.forall_mem_append.mpr ⟨sm_FLo_0, List.forall_mem_append.mpr ⟨sm_FLo_1, List.forall_mem_append.mpr ⟨sm_FLo_2, List.forall_mem_append.mpr ⟨sm_FLo_3, List.forall_mem_append.mpr ⟨sm_FLo_4, List.forall_mem_append.mpr ⟨sm_FLo_5, List.forall_mem_append.mpr ⟨sm_FLo_6, List.forall_mem_append.mpr ⟨sm_FLo_7, sm_FLo_8⟩⟩⟩⟩⟩⟩⟩⟩
noncomputable def sm_PM (q : Nat × Nat × Nat) : Prop := ∃ E : sm_M, sm_mt q.2.2 = some E ∧ Jvm.Cond.methodLink (sm_o q.1) q.2.1 E.1 ∈ lw_tbl
theorem ww902 : Jvm.Cond.methodLink "TeaCabinet$AgendaReader" 19 ⟨"TeaCabinet$AgendaReader", "winnerOf", "(II)I"⟩ ∈ lw_tbl := sm_in4 (i := 84) rfl
theorem ww906 : Jvm.Cond.methodLink "TeaCabinet$AgendaReader" 29 ⟨"TeaCabinet$Text", "sign", "()I"⟩ ∈ lw_tbl := sm_in4 (i := 88) rfl
theorem ww908 : Jvm.Cond.methodLink "TeaCabinet$AgendaReader" 33 ⟨"TeaCabinet$Text", "fail", "(I)I"⟩ ∈ lw_tbl := sm_in4 (i := 90) rfl
theorem ww909 : Jvm.Cond.methodLink "TeaCabinet$AgendaReader" 44 ⟨"TeaCabinet$Text", "pass", "(I)V"⟩ ∈ lw_tbl := sm_in4 (i := 91) rfl
theorem ww910 : Jvm.Cond.methodLink "TeaCabinet$AgendaReader" 48 ⟨"TeaCabinet$Votes", "winnerOf", "(II)I"⟩ ∈ lw_tbl := sm_in4 (i := 92) rfl
theorem ww694 : Jvm.Cond.methodLink "TeaCabinet$Law" 54 ⟨"TeaCabinet$Law", "tell", "(LTeaCabinet$Table;I)V"⟩ ∈ lw_tbl := sm_in3 (i := 116) rfl
theorem ww756 : Jvm.Cond.methodLink "TeaCabinet$Law" 58 ⟨"TeaCabinet$Table", "seatsLeft", "(II)I"⟩ ∈ lw_tbl := sm_in3 (i := 178) rfl
theorem ww763 : Jvm.Cond.methodLink "TeaCabinet$Law" 66 ⟨"java/lang/Long", "bitCount", "(J)I"⟩ ∈ lw_tbl := sm_in3 (i := 185) rfl
theorem ww747 : Jvm.Cond.methodLink "TeaCabinet$Law" 84 ⟨"TeaCabinet$Table", "isTold", "(I)Z"⟩ ∈ lw_tbl := sm_in3 (i := 169) rfl
theorem ww748 : Jvm.Cond.methodLink "TeaCabinet$Law" 88 ⟨"TeaCabinet$Law", "liking", "(LTeaCabinet$Table;III)I"⟩ ∈ lw_tbl := sm_in3 (i := 170) rfl
theorem ww752 : Jvm.Cond.methodLink "TeaCabinet$Law" 92 ⟨"TeaCabinet$Law", "tellPair", "(LTeaCabinet$Table;II)V"⟩ ∈ lw_tbl := sm_in3 (i := 174) rfl
theorem ww769 : Jvm.Cond.methodLink "TeaCabinet$Law" 96 ⟨"TeaCabinet$Law", "amount", "(II)I"⟩ ∈ lw_tbl := sm_in3 (i := 191) rfl
theorem ww702 : Jvm.Cond.methodLink "TeaCabinet$Law" 99 ⟨"TeaCabinet$Law", "reckon", "(II)I"⟩ ∈ lw_tbl := sm_in3 (i := 124) rfl
theorem ww711 : Jvm.Cond.methodLink "TeaCabinet$Law" 102 ⟨"java/lang/Math", "min", "(II)I"⟩ ∈ lw_tbl := sm_in3 (i := 133) rfl
theorem ww706 : Jvm.Cond.methodLink "TeaCabinet$Law" 107 ⟨"java/lang/Math", "max", "(II)I"⟩ ∈ lw_tbl := sm_in3 (i := 128) rfl
theorem ww707 : Jvm.Cond.methodLink "TeaCabinet$Law" 114 ⟨"TeaCabinet$Law", "combine", "(III)I"⟩ ∈ lw_tbl := sm_in3 (i := 129) rfl
theorem ww494 : Jvm.Cond.methodLink "TeaCabinet$LawReader" 32 ⟨"TeaCabinet$Text", "pass", "(I)V"⟩ ∈ lw_tbl := sm_in2 (i := 156) rfl
theorem ww506 : Jvm.Cond.methodLink "TeaCabinet$LawReader" 38 ⟨"TeaCabinet$LawReader", "readRule", "(I)V"⟩ ∈ lw_tbl := sm_in2 (i := 168) rfl
theorem ww510 : Jvm.Cond.methodLink "TeaCabinet$LawReader" 44 ⟨"TeaCabinet$Text", "sign", "()I"⟩ ∈ lw_tbl := sm_in2 (i := 172) rfl
theorem ww511 : Jvm.Cond.methodLink "TeaCabinet$LawReader" 48 ⟨"TeaCabinet$Text", "fail", "(I)I"⟩ ∈ lw_tbl := sm_in2 (i := 173) rfl
theorem ww512 : Jvm.Cond.methodLink "TeaCabinet$LawReader" 62 ⟨"TeaCabinet$LawReader", "readSum", "()V"⟩ ∈ lw_tbl := sm_in2 (i := 174) rfl
theorem ww628 : Jvm.Cond.methodLink "TeaCabinet$LawReader" 68 ⟨"TeaCabinet$LawReader", "readBracketed", "()V"⟩ ∈ lw_tbl := sm_in3 (i := 50) rfl
theorem ww524 : Jvm.Cond.methodLink "TeaCabinet$LawReader" 74 ⟨"TeaCabinet$LawReader", "opens", "(I)Z"⟩ ∈ lw_tbl := sm_in2 (i := 186) rfl
theorem ww632 : Jvm.Cond.methodLink "TeaCabinet$LawReader" 78 ⟨"TeaCabinet$LawReader", "readChoice", "()V"⟩ ∈ lw_tbl := sm_in3 (i := 54) rfl
theorem ww636 : Jvm.Cond.methodLink "TeaCabinet$LawReader" 81 ⟨"TeaCabinet$LawReader", "readPart", "()V"⟩ ∈ lw_tbl := sm_in3 (i := 58) rfl
theorem ww624 : Jvm.Cond.methodLink "TeaCabinet$LawReader" 84 ⟨"TeaCabinet$Text", "stands", "(II)Z"⟩ ∈ lw_tbl := sm_in3 (i := 46) rfl
theorem ww533 : Jvm.Cond.methodLink "TeaCabinet$LawReader" 88 ⟨"TeaCabinet$Law", "add", "(II)I"⟩ ∈ lw_tbl := sm_in2 (i := 195) rfl
theorem ww644 : Jvm.Cond.methodLink "TeaCabinet$LawReader" 92 ⟨"TeaCabinet$LawReader", "goOnHere", "(I)V"⟩ ∈ lw_tbl := sm_in3 (i := 66) rfl
theorem ww640 : Jvm.Cond.methodLink "TeaCabinet$LawReader" 95 ⟨"TeaCabinet$LawReader", "readTest", "()V"⟩ ∈ lw_tbl := sm_in3 (i := 62) rfl
theorem ww516 : Jvm.Cond.methodLink "TeaCabinet$LawReader" 101 ⟨"TeaCabinet$LawReader", "readProduct", "()V"⟩ ∈ lw_tbl := sm_in2 (i := 178) rfl
theorem ww520 : Jvm.Cond.methodLink "TeaCabinet$LawReader" 104 ⟨"TeaCabinet$LawReader", "readFactor", "()V"⟩ ∈ lw_tbl := sm_in2 (i := 182) rfl
theorem ww529 : Jvm.Cond.methodLink "TeaCabinet$LawReader" 111 ⟨"TeaCabinet$LawReader", "readNumber", "()V"⟩ ∈ lw_tbl := sm_in2 (i := 191) rfl
theorem ww690 : Jvm.Cond.methodLink "TeaCabinet$Service" 26 ⟨"TeaCabinet$Law", "tellMother", "(LTeaCabinet$Table;)V"⟩ ∈ lw_tbl := sm_in3 (i := 112) rfl
theorem ww698 : Jvm.Cond.methodLink "TeaCabinet$Service" 32 ⟨"TeaCabinet$Law", "amount", "(II)I"⟩ ∈ lw_tbl := sm_in3 (i := 120) rfl
theorem ww720 : Jvm.Cond.methodLink "TeaCabinet$Service" 36 ⟨"java/lang/Math", "max", "(II)I"⟩ ∈ lw_tbl := sm_in3 (i := 142) rfl
theorem ww686 : Jvm.Cond.methodLink "TeaCabinet$Service" 41 ⟨"TeaCabinet$Service", "cooling", "(LTeaCabinet$Table;)I"⟩ ∈ lw_tbl := sm_in3 (i := 108) rfl
theorem ww1030 : Jvm.Cond.methodLink "TeaCabinet$Service" 56 ⟨"java/lang/Math", "floorMod", "(II)I"⟩ ∈ lw_tbl := sm_in4 (i := 212) rfl
theorem ww1031 : Jvm.Cond.methodLink "TeaCabinet$Service" 59 ⟨"TeaCabinet$Table", "toldBetween", "(II)I"⟩ ∈ lw_tbl := sm_in4 (i := 213) rfl
theorem ww716 : Jvm.Cond.methodLink "TeaCabinet$Service" 62 ⟨"TeaCabinet$Service", "heatOf", "(II)I"⟩ ∈ lw_tbl := sm_in3 (i := 138) rfl
theorem ww712 : Jvm.Cond.methodLink "TeaCabinet$Service" 71 ⟨"TeaCabinet$Service", "pourCups", "(LTeaCabinet$Table;I)I"⟩ ∈ lw_tbl := sm_in3 (i := 134) rfl
theorem ww722 : Jvm.Cond.methodLink "TeaCabinet$Service" 82 ⟨"TeaCabinet$Table", "nextLeft", "(I)I"⟩ ∈ lw_tbl := sm_in3 (i := 144) rfl
theorem ww726 : Jvm.Cond.methodLink "TeaCabinet$Service" 86 ⟨"TeaCabinet$Service", "decide", "(LTeaCabinet$Table;)V"⟩ ∈ lw_tbl := sm_in3 (i := 148) rfl
theorem ww738 : Jvm.Cond.methodLink "TeaCabinet$Service" 89 ⟨"TeaCabinet$Service", "passPot", "(LTeaCabinet$Table;I)V"⟩ ∈ lw_tbl := sm_in3 (i := 160) rfl
theorem ww730 : Jvm.Cond.methodLink "TeaCabinet$Service" 102 ⟨"TeaCabinet$Table", "allMeasures", "()I"⟩ ∈ lw_tbl := sm_in3 (i := 152) rfl
theorem ww734 : Jvm.Cond.methodLink "TeaCabinet$Service" 109 ⟨"TeaCabinet$Table", "favourite", "(II)I"⟩ ∈ lw_tbl := sm_in3 (i := 156) rfl
theorem ww742 : Jvm.Cond.methodLink "TeaCabinet$Service" 112 ⟨"java/util/Arrays", "fill", "([II)V"⟩ ∈ lw_tbl := sm_in3 (i := 164) rfl
theorem ww743 : Jvm.Cond.methodLink "TeaCabinet$Service" 118 ⟨"TeaCabinet$Law", "askedBy", "(LTeaCabinet$Table;I)I"⟩ ∈ lw_tbl := sm_in3 (i := 165) rfl
theorem ww163 : Jvm.Cond.methodLink "TeaCabinet$Table" 47 ⟨"java/util/Arrays", "fill", "([II)V"⟩ ∈ lw_tbl := sm_in1 (i := 65) rfl
theorem ww456 : Jvm.Cond.methodLink "TeaCabinet$Table" 71 ⟨"TeaCabinet$Table", "isTold", "(I)Z"⟩ ∈ lw_tbl := sm_in2 (i := 118) rfl
theorem ww760 : Jvm.Cond.methodLink "TeaCabinet$Table" 75 ⟨"java/lang/Math", "floorMod", "(II)I"⟩ ∈ lw_tbl := sm_in3 (i := 182) rfl
theorem ww674 : Jvm.Cond.methodLink "TeaCabinet$Table" 81 ⟨"TeaCabinet$Table", "aheadOf", "(II)I"⟩ ∈ lw_tbl := sm_in3 (i := 96) rfl
theorem ww1050 : Jvm.Cond.methodLink "TeaCabinet$Table" 84 ⟨"TeaCabinet$Table", "allBiscuits", "()I"⟩ ∈ lw_tbl := sm_in4 (i := 232) rfl
theorem ww1051 : Jvm.Cond.methodLink "TeaCabinet$Table" 88 ⟨"java/lang/Math", "abs", "(I)I"⟩ ∈ lw_tbl := sm_in4 (i := 233) rfl
theorem ww1062 : Jvm.Cond.methodLink "TeaCabinet$Table" 92 ⟨"TeaCabinet$Table", "partyOf", "(I)I"⟩ ∈ lw_tbl := sm_in5 (i := 4) rfl
theorem ww498 : Jvm.Cond.methodLink "TeaCabinet$Text" 32 ⟨"TeaCabinet$Text", "sign", "()I"⟩ ∈ lw_tbl := sm_in2 (i := 160) rfl
theorem ww502 : Jvm.Cond.methodLink "TeaCabinet$Text" 36 ⟨"TeaCabinet$Text", "fail", "(I)I"⟩ ∈ lw_tbl := sm_in2 (i := 164) rfl
theorem ww818 : Jvm.Cond.methodLink "TeaCabinet$Votes" 52 ⟨"TeaCabinet$Table", "allMeasures", "()I"⟩ ∈ lw_tbl := sm_in4 (i := 0) rfl
theorem ww819 : Jvm.Cond.methodLink "TeaCabinet$Votes" 58 ⟨"TeaCabinet$Votes", "tallyFirsts", "(II)V"⟩ ∈ lw_tbl := sm_in4 (i := 1) rfl
theorem ww808 : Jvm.Cond.methodLink "TeaCabinet$Votes" 68 ⟨"TeaCabinet$Table", "isTold", "(I)Z"⟩ ∈ lw_tbl := sm_in3 (i := 230) rfl
theorem ww823 : Jvm.Cond.methodLink "TeaCabinet$Votes" 72 ⟨"TeaCabinet$Table", "favourite", "(II)I"⟩ ∈ lw_tbl := sm_in4 (i := 5) rfl
theorem ww836 : Jvm.Cond.methodLink "TeaCabinet$Votes" 79 ⟨"java/util/Arrays", "fill", "([II)V"⟩ ∈ lw_tbl := sm_in4 (i := 18) rfl
theorem ww809 : Jvm.Cond.methodLink "TeaCabinet$Votes" 89 ⟨"TeaCabinet$Table", "aheadOf", "(II)I"⟩ ∈ lw_tbl := sm_in3 (i := 231) rfl
theorem ww845 : Jvm.Cond.methodLink "TeaCabinet$Votes" 92 ⟨"TeaCabinet$Votes", "goesOut", "(III)I"⟩ ∈ lw_tbl := sm_in4 (i := 27) rfl
theorem ww857 : Jvm.Cond.methodLink "TeaCabinet$Votes" 96 ⟨"TeaCabinet$Votes", "biscuitsFor", "(II)I"⟩ ∈ lw_tbl := sm_in4 (i := 39) rfl
theorem ww914 : Jvm.Cond.methodLink "TeaCabinet$Votes" 99 ⟨"TeaCabinet$Table", "isMeasure", "(I)Z"⟩ ∈ lw_tbl := sm_in4 (i := 96) rfl
theorem ww867 : Jvm.Cond.methodLink "TeaCabinet$Votes" 102 ⟨"java/lang/Integer", "bitCount", "(I)I"⟩ ∈ lw_tbl := sm_in4 (i := 49) rfl
theorem ww868 : Jvm.Cond.methodLink "TeaCabinet$Votes" 108 ⟨"TeaCabinet$Votes", "beatsTheRest", "(I)Z"⟩ ∈ lw_tbl := sm_in4 (i := 50) rfl
theorem ww880 : Jvm.Cond.methodLink "TeaCabinet$Votes" 111 ⟨"TeaCabinet$Votes", "widen", "(III)V"⟩ ∈ lw_tbl := sm_in4 (i := 62) rfl
theorem ww884 : Jvm.Cond.methodLink "TeaCabinet$Votes" 115 ⟨"java/lang/Math", "min", "(II)I"⟩ ∈ lw_tbl := sm_in4 (i := 66) rfl
theorem ww885 : Jvm.Cond.methodLink "TeaCabinet$Votes" 120 ⟨"java/lang/Math", "max", "(II)I"⟩ ∈ lw_tbl := sm_in4 (i := 67) rfl
theorem ww923 : Jvm.Cond.methodLink "TeaCabinet$Votes" 123 ⟨"TeaCabinet$Votes", "waysOn", "(II)I"⟩ ∈ lw_tbl := sm_in4 (i := 105) rfl
theorem ww927 : Jvm.Cond.methodLink "TeaCabinet$Votes" 126 ⟨"TeaCabinet$Votes", "winnerOf", "(II)I"⟩ ∈ lw_tbl := sm_in4 (i := 109) rfl
theorem ww948 : Jvm.Cond.methodLink "TeaCabinet$Votes" 129 ⟨"TeaCabinet$Table", "allBiscuits", "()I"⟩ ∈ lw_tbl := sm_in4 (i := 130) rfl
theorem ww940 : Jvm.Cond.methodLink "TeaCabinet$Votes" 132 ⟨"TeaCabinet$Votes", "beginSets", "()V"⟩ ∈ lw_tbl := sm_in4 (i := 122) rfl
theorem ww944 : Jvm.Cond.methodLink "TeaCabinet$Votes" 135 ⟨"TeaCabinet$Votes", "joinSets", "(I)V"⟩ ∈ lw_tbl := sm_in4 (i := 126) rfl
theorem ww956 : Jvm.Cond.methodLink "TeaCabinet$Votes" 139 ⟨"TeaCabinet$Votes", "setsTurnedBy", "(I)I"⟩ ∈ lw_tbl := sm_in4 (i := 138) rfl
theorem ww972 : Jvm.Cond.methodLink "TeaCabinet$Votes" 142 ⟨"TeaCabinet$Votes", "countFirsts", "()V"⟩ ∈ lw_tbl := sm_in4 (i := 154) rfl
theorem ww973 : Jvm.Cond.methodLink "TeaCabinet$Votes" 148 ⟨"TeaCabinet$Votes", "winsWith", "(II)Z"⟩ ∈ lw_tbl := sm_in4 (i := 155) rfl
theorem ww985 : Jvm.Cond.methodLink "TeaCabinet$Votes" 152 ⟨"TeaCabinet$Votes", "countRunOff", "()V"⟩ ∈ lw_tbl := sm_in4 (i := 167) rfl
theorem ww986 : Jvm.Cond.methodLink "TeaCabinet$Votes" 155 ⟨"TeaCabinet$Votes", "lastLeft", "(I)I"⟩ ∈ lw_tbl := sm_in4 (i := 168) rfl
theorem ww994 : Jvm.Cond.methodLink "TeaCabinet$Votes" 158 ⟨"TeaCabinet$Votes", "nextRow", "()Z"⟩ ∈ lw_tbl := sm_in4 (i := 176) rfl
theorem ww990 : Jvm.Cond.methodLink "TeaCabinet$Votes" 162 ⟨"TeaCabinet$Votes", "firstInRow", "(I)I"⟩ ∈ lw_tbl := sm_in4 (i := 172) rfl
theorem ww998 : Jvm.Cond.methodLink "TeaCabinet$Votes" 165 ⟨"TeaCabinet$Votes", "swapInRow", "(II)V"⟩ ∈ lw_tbl := sm_in4 (i := 180) rfl
theorem ww159 : Jvm.Cond.methodLink "TeaCabinet" 18 ⟨"TeaCabinet$Table", "<init>", "()V"⟩ ∈ lw_tbl := sm_in1 (i := 61) rfl
theorem ww251 : Jvm.Cond.methodLink "TeaCabinet" 31 ⟨"TeaCabinet$Votes", "<init>", "(LTeaCabinet$Table;)V"⟩ ∈ lw_tbl := sm_in1 (i := 153) rfl
theorem ww350 : Jvm.Cond.methodLink "TeaCabinet" 47 ⟨"TeaCabinet$LawReader", "<init>", "(LTeaCabinet$Text;)V"⟩ ∈ lw_tbl := sm_in2 (i := 12) rfl
theorem ww369 : Jvm.Cond.methodLink "TeaCabinet" 56 ⟨"TeaCabinet$AgendaReader", "<init>", "(LTeaCabinet$Text;LTeaCabinet$Votes;)V"⟩ ∈ lw_tbl := sm_in2 (i := 31) rfl
theorem ww382 : Jvm.Cond.methodLink "TeaCabinet" 65 ⟨"TeaCabinet$Service", "<init>", "(LTeaCabinet$Law;)V"⟩ ∈ lw_tbl := sm_in2 (i := 44) rfl
theorem ww442 : Jvm.Cond.methodLink "TeaCabinet" 79 ⟨"TeaCabinet", "within", "(III)Z"⟩ ∈ lw_tbl := sm_in2 (i := 104) rfl
theorem ww445 : Jvm.Cond.methodLink "TeaCabinet" 94 ⟨"java/util/Arrays", "fill", "([JJ)V"⟩ ∈ lw_tbl := sm_in2 (i := 107) rfl
theorem ww452 : Jvm.Cond.methodLink "TeaCabinet" 107 ⟨"TeaCabinet$Table", "place", "(II)V"⟩ ∈ lw_tbl := sm_in2 (i := 114) rfl
theorem ww468 : Jvm.Cond.methodLink "TeaCabinet" 126 ⟨"TeaCabinet$Table", "isTold", "(I)Z"⟩ ∈ lw_tbl := sm_in2 (i := 130) rfl
theorem ww473 : Jvm.Cond.methodLink "TeaCabinet" 136 ⟨"TeaCabinet$Text", "add", "(I)V"⟩ ∈ lw_tbl := sm_in2 (i := 135) rfl
theorem ww481 : Jvm.Cond.methodLink "TeaCabinet" 140 ⟨"TeaCabinet$Text", "has", "(III)Z"⟩ ∈ lw_tbl := sm_in2 (i := 143) rfl
theorem ww486 : Jvm.Cond.methodLink "TeaCabinet" 143 ⟨"TeaCabinet$Text", "open", "(I)V"⟩ ∈ lw_tbl := sm_in2 (i := 148) rfl
theorem ww490 : Jvm.Cond.methodLink "TeaCabinet" 146 ⟨"TeaCabinet$LawReader", "readLaw", "()I"⟩ ∈ lw_tbl := sm_in2 (i := 152) rfl
theorem ww648 : Jvm.Cond.methodLink "TeaCabinet" 153 ⟨"TeaCabinet$Law", "copyFrom", "(LTeaCabinet$Law;)V"⟩ ∈ lw_tbl := sm_in3 (i := 70) rfl
theorem ww660 : Jvm.Cond.methodLink "TeaCabinet" 156 ⟨"TeaCabinet", "readRanking", "()J"⟩ ∈ lw_tbl := sm_in3 (i := 82) rfl
theorem ww670 : Jvm.Cond.methodLink "TeaCabinet" 163 ⟨"TeaCabinet$Table", "steps", "(I)I"⟩ ∈ lw_tbl := sm_in3 (i := 92) rfl
theorem ww682 : Jvm.Cond.methodLink "TeaCabinet" 167 ⟨"TeaCabinet$Service", "serve", "(LTeaCabinet$Table;)Z"⟩ ∈ lw_tbl := sm_in3 (i := 104) rfl
theorem ww774 : Jvm.Cond.methodLink "TeaCabinet" 171 ⟨"TeaCabinet$Table", "copyFrom", "(LTeaCabinet$Table;)V"⟩ ∈ lw_tbl := sm_in3 (i := 196) rfl
theorem ww779 : Jvm.Cond.methodLink "TeaCabinet" 176 ⟨"TeaCabinet$Table", "burns", "()I"⟩ ∈ lw_tbl := sm_in3 (i := 201) rfl
theorem ww787 : Jvm.Cond.methodLink "TeaCabinet" 188 ⟨"TeaCabinet$Law", "askedBy", "(LTeaCabinet$Table;I)I"⟩ ∈ lw_tbl := sm_in3 (i := 209) rfl
theorem ww666 : Jvm.Cond.methodLink "TeaCabinet" 192 ⟨"TeaCabinet$Table", "isMeasure", "(I)Z"⟩ ∈ lw_tbl := sm_in3 (i := 88) rfl
theorem ww788 : Jvm.Cond.methodLink "TeaCabinet" 195 ⟨"TeaCabinet$Table", "aheadOf", "(II)I"⟩ ∈ lw_tbl := sm_in3 (i := 210) rfl
theorem ww789 : Jvm.Cond.methodLink "TeaCabinet" 199 ⟨"java/lang/Integer", "bitCount", "(I)I"⟩ ∈ lw_tbl := sm_in3 (i := 211) rfl
theorem ww799 : Jvm.Cond.methodLink "TeaCabinet" 204 ⟨"TeaCabinet$Law", "liking", "(LTeaCabinet$Table;III)I"⟩ ∈ lw_tbl := sm_in3 (i := 221) rfl
theorem ww804 : Jvm.Cond.methodLink "TeaCabinet" 208 ⟨"TeaCabinet$Votes", "biscuitsFor", "(II)I"⟩ ∈ lw_tbl := sm_in3 (i := 226) rfl
theorem ww814 : Jvm.Cond.methodLink "TeaCabinet" 211 ⟨"TeaCabinet$Votes", "countFirsts", "()V"⟩ ∈ lw_tbl := sm_in3 (i := 236) rfl
theorem ww825 : Jvm.Cond.methodLink "TeaCabinet" 217 ⟨"TeaCabinet", "most", "([I)I"⟩ ∈ lw_tbl := sm_in4 (i := 7) rfl
theorem ww832 : Jvm.Cond.methodLink "TeaCabinet" 221 ⟨"TeaCabinet$Votes", "countPoints", "()V"⟩ ∈ lw_tbl := sm_in4 (i := 14) rfl
theorem ww841 : Jvm.Cond.methodLink "TeaCabinet" 224 ⟨"TeaCabinet$Votes", "countRunOff", "()V"⟩ ∈ lw_tbl := sm_in4 (i := 23) rfl
theorem ww853 : Jvm.Cond.methodLink "TeaCabinet" 230 ⟨"TeaCabinet$Votes", "weighPairs", "()V"⟩ ∈ lw_tbl := sm_in4 (i := 35) rfl
theorem ww858 : Jvm.Cond.methodLink "TeaCabinet" 233 ⟨"TeaCabinet$Table", "allMeasures", "()I"⟩ ∈ lw_tbl := sm_in4 (i := 40) rfl
theorem ww863 : Jvm.Cond.methodLink "TeaCabinet" 239 ⟨"TeaCabinet$Votes", "leastBeatingSet", "()I"⟩ ∈ lw_tbl := sm_in4 (i := 45) rfl
theorem ww876 : Jvm.Cond.methodLink "TeaCabinet" 242 ⟨"TeaCabinet$Votes", "widenPaths", "()V"⟩ ∈ lw_tbl := sm_in4 (i := 58) rfl
theorem ww890 : Jvm.Cond.methodLink "TeaCabinet" 248 ⟨"TeaCabinet$Votes", "winsPaths", "(I)Z"⟩ ∈ lw_tbl := sm_in4 (i := 72) rfl
theorem ww898 : Jvm.Cond.methodLink "TeaCabinet" 251 ⟨"TeaCabinet$AgendaReader", "readAgenda", "(I)I"⟩ ∈ lw_tbl := sm_in4 (i := 80) rfl
theorem ww919 : Jvm.Cond.methodLink "TeaCabinet" 254 ⟨"TeaCabinet$Votes", "countOrders", "(I)I"⟩ ∈ lw_tbl := sm_in4 (i := 101) rfl
theorem ww928 : Jvm.Cond.methodLink "TeaCabinet" 257 ⟨"TeaCabinet$Votes", "findLeastOrder", "()V"⟩ ∈ lw_tbl := sm_in4 (i := 110) rfl
theorem ww936 : Jvm.Cond.methodLink "TeaCabinet" 263 ⟨"TeaCabinet$Votes", "winningSets", "()I"⟩ ∈ lw_tbl := sm_in4 (i := 118) rfl
theorem ww952 : Jvm.Cond.methodLink "TeaCabinet" 266 ⟨"TeaCabinet$Votes", "leastWinningSets", "()I"⟩ ∈ lw_tbl := sm_in4 (i := 134) rfl
theorem ww960 : Jvm.Cond.methodLink "TeaCabinet" 269 ⟨"TeaCabinet$Votes", "setsSwungBy", "(I)I"⟩ ∈ lw_tbl := sm_in4 (i := 142) rfl
theorem ww968 : Jvm.Cond.methodLink "TeaCabinet" 272 ⟨"TeaCabinet$Votes", "fewestToWin", "(I)I"⟩ ∈ lw_tbl := sm_in4 (i := 150) rfl
theorem ww981 : Jvm.Cond.methodLink "TeaCabinet" 275 ⟨"TeaCabinet$Votes", "countLies", "(I)I"⟩ ∈ lw_tbl := sm_in4 (i := 163) rfl
theorem ww1006 : Jvm.Cond.methodLink "TeaCabinet" 281 ⟨"TeaCabinet$Votes", "possibleWinners", "(I)I"⟩ ∈ lw_tbl := sm_in4 (i := 188) rfl
theorem ww1015 : Jvm.Cond.methodLink "TeaCabinet" 284 ⟨"TeaCabinet$Table", "seatsLeft", "(II)I"⟩ ∈ lw_tbl := sm_in4 (i := 197) rfl
theorem ww1016 : Jvm.Cond.methodLink "TeaCabinet" 287 ⟨"TeaCabinet$Table", "toldBetween", "(II)I"⟩ ∈ lw_tbl := sm_in4 (i := 198) rfl
theorem ww1020 : Jvm.Cond.methodLink "TeaCabinet" 290 ⟨"TeaCabinet$Service", "cooling", "(LTeaCabinet$Table;)I"⟩ ∈ lw_tbl := sm_in4 (i := 202) rfl
theorem ww1021 : Jvm.Cond.methodLink "TeaCabinet" 294 ⟨"TeaCabinet$Service", "heatOf", "(II)I"⟩ ∈ lw_tbl := sm_in4 (i := 203) rfl
theorem ww1026 : Jvm.Cond.methodLink "TeaCabinet" 297 ⟨"TeaCabinet$Service", "bestSeat", "(LTeaCabinet$Table;I)I"⟩ ∈ lw_tbl := sm_in4 (i := 208) rfl
theorem ww1036 : Jvm.Cond.methodLink "TeaCabinet" 300 ⟨"java/util/Arrays", "fill", "([II)V"⟩ ∈ lw_tbl := sm_in4 (i := 218) rfl
theorem ww1041 : Jvm.Cond.methodLink "TeaCabinet" 303 ⟨"TeaCabinet$Table", "nextLeft", "(I)I"⟩ ∈ lw_tbl := sm_in4 (i := 223) rfl
theorem ww1046 : Jvm.Cond.methodLink "TeaCabinet" 306 ⟨"TeaCabinet$Table", "amountBetweenHalves", "(I)I"⟩ ∈ lw_tbl := sm_in4 (i := 228) rfl
theorem ww1058 : Jvm.Cond.methodLink "TeaCabinet" 309 ⟨"TeaCabinet$Table", "parties", "()I"⟩ ∈ lw_tbl := sm_in5 (i := 0) rfl
theorem ww1066 : Jvm.Cond.methodLink "TeaCabinet" 312 ⟨"TeaCabinet$Table", "partyOf", "(I)I"⟩ ∈ lw_tbl := sm_in5 (i := 8) rfl
theorem ww1088 : Jvm.Cond.methodLink "TeaCabinet" 328 ⟨"TeaCabinet$Table", "allBiscuits", "()I"⟩ ∈ lw_tbl := sm_in5 (i := 30) rfl
theorem ww664 : Jvm.Cond.methodLink "TeaCabinet" 331 ⟨"TeaCabinet$Text", "sign", "()I"⟩ ∈ lw_tbl := sm_in3 (i := 86) rfl
theorem ww665 : Jvm.Cond.methodLink "TeaCabinet" 334 ⟨"TeaCabinet$Text", "fail", "(I)I"⟩ ∈ lw_tbl := sm_in3 (i := 87) rfl
theorem ww1241 : Jvm.Cond.methodLink "TeaCabinetModel" 114 ⟨"TeaCabinetModel", "in", "(III)Z"⟩ ∈ lw_tbl := sm_in5 (i := 183) rfl
theorem ww1260 : Jvm.Cond.methodLink "TeaCabinetModel" 118 ⟨"TeaCabinetModel", "has", "(II)Z"⟩ ∈ lw_tbl := sm_in5 (i := 202) rfl
theorem ww1256 : Jvm.Cond.methodLink "TeaCabinetModel" 122 ⟨"TeaCabinetModel", "isGuest", "(I)Z"⟩ ∈ lw_tbl := sm_in5 (i := 198) rfl
theorem ww1244 : Jvm.Cond.methodLink "TeaCabinetModel" 126 ⟨"TeaCabinetModel", "ranksNone", "(I)V"⟩ ∈ lw_tbl := sm_in5 (i := 186) rfl
theorem ww1252 : Jvm.Cond.methodLink "TeaCabinetModel" 134 ⟨"TeaCabinetModel", "atSeat", "(I)I"⟩ ∈ lw_tbl := sm_in5 (i := 194) rfl
theorem ww1275 : Jvm.Cond.methodLink "TeaCabinetModel" 141 ⟨"TeaCabinetModel", "types", "(I)V"⟩ ∈ lw_tbl := sm_in5 (i := 217) rfl
theorem ww1287 : Jvm.Cond.methodLink "TeaCabinetModel" 150 ⟨"TeaCabinetModel", "here", "()I"⟩ ∈ lw_tbl := sm_in5 (i := 229) rfl
theorem ww1291 : Jvm.Cond.methodLink "TeaCabinetModel" 157 ⟨"TeaCabinetModel", "wrongAt", "(II)Z"⟩ ∈ lw_tbl := sm_in5 (i := 233) rfl
theorem ww1308 : Jvm.Cond.methodLink "TeaCabinetModel" 163 ⟨"TeaCabinetModel", "isDigit", "()Z"⟩ ∈ lw_tbl := sm_in6 (i := 10) rfl
theorem ww1330 : Jvm.Cond.methodLink "TeaCabinetModel" 177 ⟨"TeaCabinetModel", "waitTop", "()I"⟩ ∈ lw_tbl := sm_in6 (i := 32) rfl
theorem ww1316 : Jvm.Cond.methodLink "TeaCabinetModel" 180 ⟨"TeaCabinetModel", "notes", "(II)V"⟩ ∈ lw_tbl := sm_in6 (i := 18) rfl
theorem ww1303 : Jvm.Cond.methodLink "TeaCabinetModel" 184 ⟨"TeaCabinetModel", "opens", "(I)Z"⟩ ∈ lw_tbl := sm_in6 (i := 5) rfl
theorem ww1312 : Jvm.Cond.methodLink "TeaCabinetModel" 187 ⟨"TeaCabinetModel", "readsNumber", "()Z"⟩ ∈ lw_tbl := sm_in6 (i := 14) rfl
theorem ww1320 : Jvm.Cond.methodLink "TeaCabinetModel" 190 ⟨"TeaCabinetModel", "factOf", "(I)I"⟩ ∈ lw_tbl := sm_in6 (i := 22) rfl
theorem ww1299 : Jvm.Cond.methodLink "TeaCabinetModel" 193 ⟨"TeaCabinetModel", "readsFactor", "()Z"⟩ ∈ lw_tbl := sm_in6 (i := 1) rfl
theorem ww1323 : Jvm.Cond.methodLink "TeaCabinetModel" 196 ⟨"TeaCabinetModel", "sumSign", "(I)I"⟩ ∈ lw_tbl := sm_in6 (i := 25) rfl
theorem ww1326 : Jvm.Cond.methodLink "TeaCabinetModel" 199 ⟨"TeaCabinetModel", "closesSums", "(Z)V"⟩ ∈ lw_tbl := sm_in6 (i := 28) rfl
theorem ww1334 : Jvm.Cond.methodLink "TeaCabinetModel" 203 ⟨"TeaCabinetModel", "hasOpenSum", "(I)Z"⟩ ∈ lw_tbl := sm_in6 (i := 36) rfl
theorem ww1295 : Jvm.Cond.methodLink "TeaCabinetModel" 206 ⟨"TeaCabinetModel", "readsSum", "()Z"⟩ ∈ lw_tbl := sm_in5 (i := 237) rfl
theorem ww1346 : Jvm.Cond.methodLink "TeaCabinetModel" 209 ⟨"TeaCabinetModel", "endsPiece", "()V"⟩ ∈ lw_tbl := sm_in6 (i := 48) rfl
theorem ww1342 : Jvm.Cond.methodLink "TeaCabinetModel" 212 ⟨"TeaCabinetModel", "readsCompared", "()Z"⟩ ∈ lw_tbl := sm_in6 (i := 44) rfl
theorem ww1350 : Jvm.Cond.methodLink "TeaCabinetModel" 215 ⟨"TeaCabinetModel", "lands", "(Z)V"⟩ ∈ lw_tbl := sm_in6 (i := 52) rfl
theorem ww1354 : Jvm.Cond.methodLink "TeaCabinetModel" 218 ⟨"TeaCabinetModel", "jumps", "(I)V"⟩ ∈ lw_tbl := sm_in6 (i := 56) rfl
theorem ww1338 : Jvm.Cond.methodLink "TeaCabinetModel" 224 ⟨"TeaCabinetModel", "readsCondition", "()Z"⟩ ∈ lw_tbl := sm_in6 (i := 40) rfl
theorem ww1283 : Jvm.Cond.methodLink "TeaCabinetModel" 227 ⟨"TeaCabinetModel", "readsRule", "()Z"⟩ ∈ lw_tbl := sm_in5 (i := 225) rfl
theorem ww1358 : Jvm.Cond.methodLink "TeaCabinetModel" 230 ⟨"TeaCabinetModel", "takes", "(I)Z"⟩ ∈ lw_tbl := sm_in6 (i := 60) rfl
theorem ww1402 : Jvm.Cond.methodLink "TeaCabinetModel" 236 ⟨"TeaCabinetModel", "reckon", "(III)I"⟩ ∈ lw_tbl := sm_in6 (i := 104) rfl
theorem ww1398 : Jvm.Cond.methodLink "TeaCabinetModel" 240 ⟨"TeaCabinetModel", "comesTo", "(II)I"⟩ ∈ lw_tbl := sm_in6 (i := 100) rfl
theorem ww1441 : Jvm.Cond.methodLink "TeaCabinetModel" 244 ⟨"TeaCabinetModel", "placeOf", "(II)I"⟩ ∈ lw_tbl := sm_in6 (i := 143) rfl
theorem ww1390 : Jvm.Cond.methodLink "TeaCabinetModel" 247 ⟨"TeaCabinetModel", "feelsOne", "(I)V"⟩ ∈ lw_tbl := sm_in6 (i := 92) rfl
theorem ww1417 : Jvm.Cond.methodLink "TeaCabinetModel" 250 ⟨"TeaCabinetModel", "leftOf", "(II)I"⟩ ∈ lw_tbl := sm_in6 (i := 119) rfl
theorem ww1457 : Jvm.Cond.methodLink "TeaCabinetModel" 253 ⟨"TeaCabinetModel", "mindOf", "(II)I"⟩ ∈ lw_tbl := sm_in6 (i := 159) rfl
theorem ww1461 : Jvm.Cond.methodLink "TeaCabinetModel" 256 ⟨"TeaCabinetModel", "holdsAny", "(I)Z"⟩ ∈ lw_tbl := sm_in6 (i := 163) rfl
theorem ww1394 : Jvm.Cond.methodLink "TeaCabinetModel" 259 ⟨"TeaCabinetModel", "byLaw", "(II)I"⟩ ∈ lw_tbl := sm_in6 (i := 96) rfl
theorem ww1429 : Jvm.Cond.methodLink "TeaCabinetModel" 262 ⟨"TeaCabinetModel", "areTwo", "(II)Z"⟩ ∈ lw_tbl := sm_in6 (i := 131) rfl
theorem ww1453 : Jvm.Cond.methodLink "TeaCabinetModel" 265 ⟨"TeaCabinetModel", "likesBy", "(II)I"⟩ ∈ lw_tbl := sm_in6 (i := 155) rfl
theorem ww1366 : Jvm.Cond.methodLink "TeaCabinetModel" 268 ⟨"TeaCabinetModel", "wrongOf", "(I)I"⟩ ∈ lw_tbl := sm_in6 (i := 68) rfl
theorem ww1370 : Jvm.Cond.methodLink "TeaCabinetModel" 271 ⟨"TeaCabinetModel", "isMeasure", "(I)Z"⟩ ∈ lw_tbl := sm_in6 (i := 72) rfl
theorem ww1437 : Jvm.Cond.methodLink "TeaCabinetModel" 274 ⟨"TeaCabinetModel", "highestOf", "(II)I"⟩ ∈ lw_tbl := sm_in6 (i := 139) rfl
theorem ww1449 : Jvm.Cond.methodLink "TeaCabinetModel" 277 ⟨"TeaCabinetModel", "asks", "(I)I"⟩ ∈ lw_tbl := sm_in6 (i := 151) rfl
theorem ww1413 : Jvm.Cond.methodLink "TeaCabinetModel" 280 ⟨"TeaCabinetModel", "cupOf", "(I)I"⟩ ∈ lw_tbl := sm_in6 (i := 115) rfl
theorem ww1421 : Jvm.Cond.methodLink "TeaCabinetModel" 283 ⟨"TeaCabinetModel", "max", "(II)I"⟩ ∈ lw_tbl := sm_in6 (i := 123) rfl
theorem ww1386 : Jvm.Cond.methodLink "TeaCabinetModel" 289 ⟨"TeaCabinetModel", "spillsBy", "()I"⟩ ∈ lw_tbl := sm_in6 (i := 88) rfl
theorem ww1405 : Jvm.Cond.methodLink "TeaCabinetModel" 292 ⟨"TeaCabinetModel", "coolsBy", "()I"⟩ ∈ lw_tbl := sm_in6 (i := 107) rfl
theorem ww1409 : Jvm.Cond.methodLink "TeaCabinetModel" 295 ⟨"TeaCabinetModel", "pours", "(I)I"⟩ ∈ lw_tbl := sm_in6 (i := 111) rfl
theorem ww1425 : Jvm.Cond.methodLink "TeaCabinetModel" 302 ⟨"TeaCabinetModel", "nextLeft", "(I)I"⟩ ∈ lw_tbl := sm_in6 (i := 127) rfl
theorem ww1433 : Jvm.Cond.methodLink "TeaCabinetModel" 305 ⟨"TeaCabinetModel", "decides", "()V"⟩ ∈ lw_tbl := sm_in6 (i := 135) rfl
theorem ww1445 : Jvm.Cond.methodLink "TeaCabinetModel" 308 ⟨"TeaCabinetModel", "changesMother", "(I)V"⟩ ∈ lw_tbl := sm_in6 (i := 147) rfl
theorem ww1382 : Jvm.Cond.methodLink "TeaCabinetModel" 311 ⟨"TeaCabinetModel", "teaGoes", "()Z"⟩ ∈ lw_tbl := sm_in6 (i := 84) rfl
theorem ww1378 : Jvm.Cond.methodLink "TeaCabinetModel" 314 ⟨"TeaCabinetModel", "teasGo", "(I)I"⟩ ∈ lw_tbl := sm_in6 (i := 80) rfl
theorem ww1469 : Jvm.Cond.methodLink "TeaCabinetModel" 317 ⟨"TeaCabinetModel", "copies", "([I[I)V"⟩ ∈ lw_tbl := sm_in6 (i := 171) rfl
theorem ww1484 : Jvm.Cond.methodLink "TeaCabinetModel" 321 ⟨"TeaCabinetModel", "pairOf", "(II)I"⟩ ∈ lw_tbl := sm_in6 (i := 186) rfl
theorem ww1492 : Jvm.Cond.methodLink "TeaCabinetModel" 324 ⟨"TeaCabinetModel", "allMeasures", "()I"⟩ ∈ lw_tbl := sm_in6 (i := 194) rfl
theorem ww1496 : Jvm.Cond.methodLink "TeaCabinetModel" 327 ⟨"TeaCabinetModel", "laysFirsts", "(II)V"⟩ ∈ lw_tbl := sm_in6 (i := 198) rfl
theorem ww1500 : Jvm.Cond.methodLink "TeaCabinetModel" 330 ⟨"TeaCabinetModel", "mostVotes", "([I)I"⟩ ∈ lw_tbl := sm_in6 (i := 202) rfl
theorem ww1512 : Jvm.Cond.methodLink "TeaCabinetModel" 334 ⟨"TeaCabinetModel", "runsOff", "()I"⟩ ∈ lw_tbl := sm_in6 (i := 214) rfl
theorem ww1524 : Jvm.Cond.methodLink "TeaCabinetModel" 337 ⟨"TeaCabinetModel", "beats", "(II)Z"⟩ ∈ lw_tbl := sm_in6 (i := 226) rfl
theorem ww1520 : Jvm.Cond.methodLink "TeaCabinetModel" 340 ⟨"TeaCabinetModel", "beatsAll", "(II)Z"⟩ ∈ lw_tbl := sm_in6 (i := 222) rfl
theorem ww1532 : Jvm.Cond.methodLink "TeaCabinetModel" 343 ⟨"TeaCabinetModel", "bits", "(I)I"⟩ ∈ lw_tbl := sm_in6 (i := 234) rfl
theorem ww1535 : Jvm.Cond.methodLink "TeaCabinetModel" 346 ⟨"TeaCabinetModel", "isSet", "(I)Z"⟩ ∈ lw_tbl := sm_in6 (i := 237) rfl
theorem ww1547 : Jvm.Cond.methodLink "TeaCabinetModel" 349 ⟨"TeaCabinetModel", "min", "(II)I"⟩ ∈ lw_tbl := sm_in7 (i := 9) rfl
theorem ww1543 : Jvm.Cond.methodLink "TeaCabinetModel" 352 ⟨"TeaCabinetModel", "laysWide", "()V"⟩ ∈ lw_tbl := sm_in7 (i := 5) rfl
theorem ww1558 : Jvm.Cond.methodLink "TeaCabinetModel" 355 ⟨"TeaCabinetModel", "winsOf", "(II)I"⟩ ∈ lw_tbl := sm_in7 (i := 20) rfl
theorem ww1578 : Jvm.Cond.methodLink "TeaCabinetModel" 358 ⟨"TeaCabinetModel", "changes", "(II)V"⟩ ∈ lw_tbl := sm_in7 (i := 40) rfl
theorem ww1566 : Jvm.Cond.methodLink "TeaCabinetModel" 361 ⟨"TeaCabinetModel", "beginsRows", "()V"⟩ ∈ lw_tbl := sm_in7 (i := 28) rfl
theorem ww1570 : Jvm.Cond.methodLink "TeaCabinetModel" 364 ⟨"TeaCabinetModel", "keepsRow", "()V"⟩ ∈ lw_tbl := sm_in7 (i := 32) rfl
theorem ww1574 : Jvm.Cond.methodLink "TeaCabinetModel" 367 ⟨"TeaCabinetModel", "goesNext", "(I)Z"⟩ ∈ lw_tbl := sm_in7 (i := 36) rfl
theorem ww1590 : Jvm.Cond.methodLink "TeaCabinetModel" 370 ⟨"TeaCabinetModel", "biscuitsOf", "(I)I"⟩ ∈ lw_tbl := sm_in7 (i := 52) rfl
theorem ww1586 : Jvm.Cond.methodLink "TeaCabinetModel" 373 ⟨"TeaCabinetModel", "isMore", "(I)Z"⟩ ∈ lw_tbl := sm_in7 (i := 48) rfl
theorem ww1594 : Jvm.Cond.methodLink "TeaCabinetModel" 376 ⟨"TeaCabinetModel", "isLeast", "(I)Z"⟩ ∈ lw_tbl := sm_in7 (i := 56) rfl
theorem ww1602 : Jvm.Cond.methodLink "TeaCabinetModel" 379 ⟨"TeaCabinetModel", "isWon", "(II)Z"⟩ ∈ lw_tbl := sm_in7 (i := 64) rfl
theorem ww1622 : Jvm.Cond.methodLink "TeaCabinetModel" 382 ⟨"TeaCabinetModel", "cup", "(I)I"⟩ ∈ lw_tbl := sm_in7 (i := 84) rfl
theorem ww1639 : Jvm.Cond.methodLink "TeaCabinetModel" 385 ⟨"TeaCabinetModel", "size", "(I)I"⟩ ∈ lw_tbl := sm_in7 (i := 101) rfl
theorem ww1635 : Jvm.Cond.methodLink "TeaCabinetModel" 388 ⟨"TeaCabinetModel", "apartBy", "(I)I"⟩ ∈ lw_tbl := sm_in7 (i := 97) rfl
theorem ww1650 : Jvm.Cond.methodLink "TeaCabinetModel" 391 ⟨"TeaCabinetModel", "areOfOneMind", "(II)Z"⟩ ∈ lw_tbl := sm_in7 (i := 112) rfl
theorem ww1646 : Jvm.Cond.methodLink "TeaCabinetModel" 394 ⟨"TeaCabinetModel", "partyOf", "(I)I"⟩ ∈ lw_tbl := sm_in7 (i := 108) rfl
theorem ww120 : Jvm.Cond.methodLink "TeaCabinetLaw" 9 ⟨"TeaCabinet", "<init>", "()V"⟩ ∈ lw_tbl := sm_in1 (i := 22) rfl
theorem ww1091 : Jvm.Cond.methodLink "TeaCabinetLaw" 12 ⟨"TeaCabinetModel", "<init>", "()V"⟩ ∈ lw_tbl := sm_in5 (i := 33) rfl
theorem ww438 : Jvm.Cond.methodLink "TeaCabinetLaw" 13 ⟨"TeaCabinet", "measures", "(I)Z"⟩ ∈ lw_tbl := sm_in2 (i := 100) rfl
theorem ww1237 : Jvm.Cond.methodLink "TeaCabinetLaw" 17 ⟨"TeaCabinetModel", "measures", "(I)Z"⟩ ∈ lw_tbl := sm_in5 (i := 179) rfl
theorem ww448 : Jvm.Cond.methodLink "TeaCabinetLaw" 18 ⟨"TeaCabinet", "guest", "(IIIII)Z"⟩ ∈ lw_tbl := sm_in2 (i := 110) rfl
theorem ww1248 : Jvm.Cond.methodLink "TeaCabinetLaw" 22 ⟨"TeaCabinetModel", "guest", "(IIIII)Z"⟩ ∈ lw_tbl := sm_in5 (i := 190) rfl
theorem ww460 : Jvm.Cond.methodLink "TeaCabinetLaw" 23 ⟨"TeaCabinet", "pot", "(II)Z"⟩ ∈ lw_tbl := sm_in2 (i := 122) rfl
theorem ww1263 : Jvm.Cond.methodLink "TeaCabinetLaw" 27 ⟨"TeaCabinetModel", "pot", "(II)Z"⟩ ∈ lw_tbl := sm_in5 (i := 205) rfl
theorem ww464 : Jvm.Cond.methodLink "TeaCabinetLaw" 28 ⟨"TeaCabinet", "mother", "(I)Z"⟩ ∈ lw_tbl := sm_in2 (i := 126) rfl
theorem ww1267 : Jvm.Cond.methodLink "TeaCabinetLaw" 31 ⟨"TeaCabinetModel", "mother", "(I)Z"⟩ ∈ lw_tbl := sm_in5 (i := 209) rfl
theorem ww469 : Jvm.Cond.methodLink "TeaCabinetLaw" 32 ⟨"TeaCabinet", "feed", "(IIIII)I"⟩ ∈ lw_tbl := sm_in2 (i := 131) rfl
theorem ww1271 : Jvm.Cond.methodLink "TeaCabinetLaw" 36 ⟨"TeaCabinetModel", "feed", "(IIIII)I"⟩ ∈ lw_tbl := sm_in5 (i := 213) rfl
theorem ww477 : Jvm.Cond.methodLink "TeaCabinetLaw" 37 ⟨"TeaCabinet", "law", "(I)I"⟩ ∈ lw_tbl := sm_in2 (i := 139) rfl
theorem ww1279 : Jvm.Cond.methodLink "TeaCabinetLaw" 41 ⟨"TeaCabinetModel", "law", "(I)I"⟩ ∈ lw_tbl := sm_in5 (i := 221) rfl
theorem ww656 : Jvm.Cond.methodLink "TeaCabinetLaw" 42 ⟨"TeaCabinet", "ranking", "(II)I"⟩ ∈ lw_tbl := sm_in3 (i := 78) rfl
theorem ww1362 : Jvm.Cond.methodLink "TeaCabinetLaw" 46 ⟨"TeaCabinetModel", "ranking", "(II)I"⟩ ∈ lw_tbl := sm_in6 (i := 64) rfl
theorem ww678 : Jvm.Cond.methodLink "TeaCabinetLaw" 47 ⟨"TeaCabinet", "teas", "(I)I"⟩ ∈ lw_tbl := sm_in3 (i := 100) rfl
theorem ww1374 : Jvm.Cond.methodLink "TeaCabinetLaw" 50 ⟨"TeaCabinetModel", "teas", "(I)I"⟩ ∈ lw_tbl := sm_in6 (i := 76) rfl
theorem ww770 : Jvm.Cond.methodLink "TeaCabinetLaw" 51 ⟨"TeaCabinet", "tried", "(II)I"⟩ ∈ lw_tbl := sm_in3 (i := 192) rfl
theorem ww1465 : Jvm.Cond.methodLink "TeaCabinetLaw" 54 ⟨"TeaCabinetModel", "tried", "(II)I"⟩ ∈ lw_tbl := sm_in6 (i := 167) rfl
theorem ww783 : Jvm.Cond.methodLink "TeaCabinetLaw" 55 ⟨"TeaCabinet", "guestIs", "(II)I"⟩ ∈ lw_tbl := sm_in3 (i := 205) rfl
theorem ww1472 : Jvm.Cond.methodLink "TeaCabinetLaw" 58 ⟨"TeaCabinetModel", "guestIs", "(II)I"⟩ ∈ lw_tbl := sm_in6 (i := 174) rfl
theorem ww795 : Jvm.Cond.methodLink "TeaCabinetLaw" 59 ⟨"TeaCabinet", "likes", "(II)I"⟩ ∈ lw_tbl := sm_in3 (i := 217) rfl
theorem ww1476 : Jvm.Cond.methodLink "TeaCabinetLaw" 62 ⟨"TeaCabinetModel", "likes", "(II)I"⟩ ∈ lw_tbl := sm_in6 (i := 178) rfl
theorem ww800 : Jvm.Cond.methodLink "TeaCabinetLaw" 63 ⟨"TeaCabinet", "pair", "(II)I"⟩ ∈ lw_tbl := sm_in3 (i := 222) rfl
theorem ww1480 : Jvm.Cond.methodLink "TeaCabinetLaw" 66 ⟨"TeaCabinetModel", "pair", "(II)I"⟩ ∈ lw_tbl := sm_in6 (i := 182) rfl
theorem ww810 : Jvm.Cond.methodLink "TeaCabinetLaw" 67 ⟨"TeaCabinet", "firsts", "(I)I"⟩ ∈ lw_tbl := sm_in3 (i := 232) rfl
theorem ww1488 : Jvm.Cond.methodLink "TeaCabinetLaw" 70 ⟨"TeaCabinetModel", "firsts", "(I)I"⟩ ∈ lw_tbl := sm_in6 (i := 190) rfl
theorem ww828 : Jvm.Cond.methodLink "TeaCabinetLaw" 71 ⟨"TeaCabinet", "points", "(I)I"⟩ ∈ lw_tbl := sm_in4 (i := 10) rfl
theorem ww1504 : Jvm.Cond.methodLink "TeaCabinetLaw" 74 ⟨"TeaCabinetModel", "points", "(I)I"⟩ ∈ lw_tbl := sm_in6 (i := 206) rfl
theorem ww837 : Jvm.Cond.methodLink "TeaCabinetLaw" 75 ⟨"TeaCabinet", "runOff", "(I)I"⟩ ∈ lw_tbl := sm_in4 (i := 19) rfl
theorem ww1508 : Jvm.Cond.methodLink "TeaCabinetLaw" 78 ⟨"TeaCabinetModel", "runOff", "(I)I"⟩ ∈ lw_tbl := sm_in6 (i := 210) rfl
theorem ww849 : Jvm.Cond.methodLink "TeaCabinetLaw" 79 ⟨"TeaCabinet", "best", "()I"⟩ ∈ lw_tbl := sm_in4 (i := 31) rfl
theorem ww1516 : Jvm.Cond.methodLink "TeaCabinetLaw" 83 ⟨"TeaCabinetModel", "best", "()I"⟩ ∈ lw_tbl := sm_in6 (i := 218) rfl
theorem ww859 : Jvm.Cond.methodLink "TeaCabinetLaw" 84 ⟨"TeaCabinet", "set", "()I"⟩ ∈ lw_tbl := sm_in4 (i := 41) rfl
theorem ww1528 : Jvm.Cond.methodLink "TeaCabinetLaw" 87 ⟨"TeaCabinetModel", "set", "()I"⟩ ∈ lw_tbl := sm_in6 (i := 230) rfl
theorem ww872 : Jvm.Cond.methodLink "TeaCabinetLaw" 88 ⟨"TeaCabinet", "widest", "(II)I"⟩ ∈ lw_tbl := sm_in4 (i := 54) rfl
theorem ww1539 : Jvm.Cond.methodLink "TeaCabinetLaw" 91 ⟨"TeaCabinetModel", "widest", "(II)I"⟩ ∈ lw_tbl := sm_in7 (i := 1) rfl
theorem ww886 : Jvm.Cond.methodLink "TeaCabinetLaw" 92 ⟨"TeaCabinet", "pathWinners", "()I"⟩ ∈ lw_tbl := sm_in4 (i := 68) rfl
theorem ww1550 : Jvm.Cond.methodLink "TeaCabinetLaw" 95 ⟨"TeaCabinetModel", "pathWinners", "()I"⟩ ∈ lw_tbl := sm_in7 (i := 12) rfl
theorem ww894 : Jvm.Cond.methodLink "TeaCabinetLaw" 96 ⟨"TeaCabinet", "agenda", "(I)I"⟩ ∈ lw_tbl := sm_in4 (i := 76) rfl
theorem ww1554 : Jvm.Cond.methodLink "TeaCabinetLaw" 99 ⟨"TeaCabinetModel", "agenda", "(I)I"⟩ ∈ lw_tbl := sm_in7 (i := 16) rfl
theorem ww915 : Jvm.Cond.methodLink "TeaCabinetLaw" 100 ⟨"TeaCabinet", "orders", "(II)I"⟩ ∈ lw_tbl := sm_in4 (i := 97) rfl
theorem ww1562 : Jvm.Cond.methodLink "TeaCabinetLaw" 103 ⟨"TeaCabinetModel", "orders", "(II)I"⟩ ∈ lw_tbl := sm_in7 (i := 24) rfl
theorem ww932 : Jvm.Cond.methodLink "TeaCabinetLaw" 104 ⟨"TeaCabinet", "power", "(II)I"⟩ ∈ lw_tbl := sm_in4 (i := 114) rfl
theorem ww1582 : Jvm.Cond.methodLink "TeaCabinetLaw" 107 ⟨"TeaCabinetModel", "power", "(II)I"⟩ ∈ lw_tbl := sm_in7 (i := 44) rfl
theorem ww964 : Jvm.Cond.methodLink "TeaCabinetLaw" 108 ⟨"TeaCabinet", "wonOver", "(II)I"⟩ ∈ lw_tbl := sm_in4 (i := 146) rfl
theorem ww1598 : Jvm.Cond.methodLink "TeaCabinetLaw" 111 ⟨"TeaCabinetModel", "wonOver", "(II)I"⟩ ∈ lw_tbl := sm_in7 (i := 60) rfl
theorem ww977 : Jvm.Cond.methodLink "TeaCabinetLaw" 112 ⟨"TeaCabinet", "lie", "(II)I"⟩ ∈ lw_tbl := sm_in4 (i := 159) rfl
theorem ww1606 : Jvm.Cond.methodLink "TeaCabinetLaw" 115 ⟨"TeaCabinetModel", "lie", "(II)I"⟩ ∈ lw_tbl := sm_in7 (i := 68) rfl
theorem ww1002 : Jvm.Cond.methodLink "TeaCabinetLaw" 116 ⟨"TeaCabinet", "sure", "(II)I"⟩ ∈ lw_tbl := sm_in4 (i := 184) rfl
theorem ww1610 : Jvm.Cond.methodLink "TeaCabinetLaw" 119 ⟨"TeaCabinetModel", "sure", "(II)I"⟩ ∈ lw_tbl := sm_in7 (i := 72) rfl
theorem ww1011 : Jvm.Cond.methodLink "TeaCabinetLaw" 120 ⟨"TeaCabinet", "cup", "(I)I"⟩ ∈ lw_tbl := sm_in4 (i := 193) rfl
theorem ww1614 : Jvm.Cond.methodLink "TeaCabinetLaw" 123 ⟨"TeaCabinetModel", "cup", "(I)I"⟩ ∈ lw_tbl := sm_in7 (i := 76) rfl
theorem ww1022 : Jvm.Cond.methodLink "TeaCabinetLaw" 124 ⟨"TeaCabinet", "where", "(I)I"⟩ ∈ lw_tbl := sm_in4 (i := 204) rfl
theorem ww1618 : Jvm.Cond.methodLink "TeaCabinetLaw" 127 ⟨"TeaCabinetModel", "where", "(I)I"⟩ ∈ lw_tbl := sm_in7 (i := 80) rfl
theorem ww1032 : Jvm.Cond.methodLink "TeaCabinetLaw" 128 ⟨"TeaCabinet", "end", "(II)I"⟩ ∈ lw_tbl := sm_in4 (i := 214) rfl
theorem ww1623 : Jvm.Cond.methodLink "TeaCabinetLaw" 131 ⟨"TeaCabinetModel", "end", "(II)I"⟩ ∈ lw_tbl := sm_in7 (i := 85) rfl
theorem ww1037 : Jvm.Cond.methodLink "TeaCabinetLaw" 132 ⟨"TeaCabinet", "left", "(II)I"⟩ ∈ lw_tbl := sm_in4 (i := 219) rfl
theorem ww1627 : Jvm.Cond.methodLink "TeaCabinetLaw" 135 ⟨"TeaCabinetModel", "left", "(II)I"⟩ ∈ lw_tbl := sm_in7 (i := 89) rfl
theorem ww1042 : Jvm.Cond.methodLink "TeaCabinetLaw" 136 ⟨"TeaCabinet", "parted", "(I)I"⟩ ∈ lw_tbl := sm_in4 (i := 224) rfl
theorem ww1631 : Jvm.Cond.methodLink "TeaCabinetLaw" 139 ⟨"TeaCabinetModel", "parted", "(I)I"⟩ ∈ lw_tbl := sm_in7 (i := 93) rfl
theorem ww1054 : Jvm.Cond.methodLink "TeaCabinetLaw" 140 ⟨"TeaCabinet", "alike", "(I)I"⟩ ∈ lw_tbl := sm_in4 (i := 236) rfl
theorem ww1642 : Jvm.Cond.methodLink "TeaCabinetLaw" 143 ⟨"TeaCabinetModel", "alike", "(I)I"⟩ ∈ lw_tbl := sm_in7 (i := 104) rfl
theorem ww1067 : Jvm.Cond.methodLink "TeaCabinetLaw" 144 ⟨"TeaCabinet", "seed", "(I)Z"⟩ ∈ lw_tbl := sm_in5 (i := 9) rfl
theorem ww1654 : Jvm.Cond.methodLink "TeaCabinetLaw" 147 ⟨"TeaCabinetModel", "seed", "(I)Z"⟩ ∈ lw_tbl := sm_in7 (i := 116) rfl
theorem ww1072 : Jvm.Cond.methodLink "TeaCabinetLaw" 148 ⟨"TeaCabinet", "keep", "()I"⟩ ∈ lw_tbl := sm_in5 (i := 14) rfl
theorem ww1659 : Jvm.Cond.methodLink "TeaCabinetLaw" 151 ⟨"TeaCabinetModel", "keep", "()I"⟩ ∈ lw_tbl := sm_in7 (i := 121) rfl
theorem ww1076 : Jvm.Cond.methodLink "TeaCabinetLaw" 152 ⟨"TeaCabinet", "undo", "()Z"⟩ ∈ lw_tbl := sm_in5 (i := 18) rfl
theorem ww1663 : Jvm.Cond.methodLink "TeaCabinetLaw" 156 ⟨"TeaCabinetModel", "undo", "()Z"⟩ ∈ lw_tbl := sm_in7 (i := 125) rfl
theorem ww1080 : Jvm.Cond.methodLink "TeaCabinetLaw" 157 ⟨"TeaCabinet", "check", "(I)I"⟩ ∈ lw_tbl := sm_in5 (i := 22) rfl
theorem ww1667 : Jvm.Cond.methodLink "TeaCabinetLaw" 160 ⟨"TeaCabinetModel", "check", "(I)I"⟩ ∈ lw_tbl := sm_in7 (i := 129) rfl
theorem ww1084 : Jvm.Cond.methodLink "TeaCabinetLaw" 161 ⟨"TeaCabinet", "count", "(I)I"⟩ ∈ lw_tbl := sm_in5 (i := 26) rfl
theorem ww1671 : Jvm.Cond.methodLink "TeaCabinetLaw" 164 ⟨"TeaCabinetModel", "count", "(I)I"⟩ ∈ lw_tbl := sm_in7 (i := 133) rfl
theorem sm_MLo_0 : ∀ q ∈ [(0, 19, 97), (0, 29, 24), (0, 33, 25), (0, 44, 23), (0, 48, 98), (1, 54, 51), (1, 58, 65), (1, 66, 67), (1, 84, 14), (1, 88, 63), (1, 92, 64), (1, 96, 52), (1, 99, 53), (1, 102, 34), (1, 107, 33), (1, 114, 54), (2, 32, 23), (2, 38, 26), (2, 44, 24), (2, 48, 25)], sm_PM q := List.forall_mem_cons.mpr ⟨⟨mm97, rfl, ww902⟩, List.forall_mem_cons.mpr ⟨⟨mm24, rfl, ww906⟩, List.forall_mem_cons.mpr ⟨⟨mm25, rfl, ww908⟩, List.forall_mem_cons.mpr ⟨⟨mm23, rfl, ww909⟩, List.forall_mem_cons.mpr ⟨⟨mm98, rfl, ww910⟩, List.forall_mem_cons.mpr ⟨⟨mm51, rfl, ww694⟩, List.forall_mem_cons.mpr ⟨⟨mm65, rfl, ww756⟩, List.forall_mem_cons.mpr ⟨⟨mm67, rfl, ww763⟩, List.forall_mem_cons.mpr ⟨⟨mm14, rfl, ww747⟩, List.forall_mem_cons.mpr ⟨⟨mm63, rfl, ww748⟩, List.forall_mem_cons.mpr ⟨⟨mm64, rfl, ww752⟩, List.forall_mem_cons.mpr ⟨⟨mm52, rfl, ww769⟩, List.forall_mem_cons.mpr ⟨⟨mm53, rfl, ww702⟩, List.forall_mem_cons.mpr ⟨⟨mm34, rfl, ww711⟩, List.forall_mem_cons.mpr ⟨⟨mm33, rfl, ww706⟩, List.forall_mem_cons.mpr ⟨⟨mm54, rfl, ww707⟩, List.forall_mem_cons.mpr ⟨⟨mm23, rfl, ww494⟩, List.forall_mem_cons.mpr ⟨⟨mm26, rfl, ww506⟩, List.forall_mem_cons.mpr ⟨⟨mm24, rfl, ww510⟩, List.forall_mem_cons.mpr ⟨⟨mm25, rfl, ww511⟩, fun _ h => absurd h List.not_mem_nil⟩⟩⟩⟩⟩⟩⟩⟩⟩⟩⟩⟩⟩⟩⟩⟩⟩⟩⟩⟩
theorem sm_MLo_1 : ∀ q ∈ [(2, 62, 27), (2, 68, 36), (2, 74, 30), (2, 78, 37), (2, 81, 38), (2, 84, 35), (2, 88, 32), (2, 92, 40), (2, 95, 39), (2, 101, 28), (2, 104, 29), (2, 111, 31), (3, 26, 50), (3, 32, 52), (3, 36, 33), (3, 41, 49), (3, 56, 66), (3, 59, 123), (3, 62, 56), (3, 71, 55)], sm_PM q := List.forall_mem_cons.mpr ⟨⟨mm27, rfl, ww512⟩, List.forall_mem_cons.mpr ⟨⟨mm36, rfl, ww628⟩, List.forall_mem_cons.mpr ⟨⟨mm30, rfl, ww524⟩, List.forall_mem_cons.mpr ⟨⟨mm37, rfl, ww632⟩, List.forall_mem_cons.mpr ⟨⟨mm38, rfl, ww636⟩, List.forall_mem_cons.mpr ⟨⟨mm35, rfl, ww624⟩, List.forall_mem_cons.mpr ⟨⟨mm32, rfl, ww533⟩, List.forall_mem_cons.mpr ⟨⟨mm40, rfl, ww644⟩, List.forall_mem_cons.mpr ⟨⟨mm39, rfl, ww640⟩, List.forall_mem_cons.mpr ⟨⟨mm28, rfl, ww516⟩, List.forall_mem_cons.mpr ⟨⟨mm29, rfl, ww520⟩, List.forall_mem_cons.mpr ⟨⟨mm31, rfl, ww529⟩, List.forall_mem_cons.mpr ⟨⟨mm50, rfl, ww690⟩, List.forall_mem_cons.mpr ⟨⟨mm52, rfl, ww698⟩, List.forall_mem_cons.mpr ⟨⟨mm33, rfl, ww720⟩, List.forall_mem_cons.mpr ⟨⟨mm49, rfl, ww686⟩, List.forall_mem_cons.mpr ⟨⟨mm66, rfl, ww1030⟩, List.forall_mem_cons.mpr ⟨⟨mm123, rfl, ww1031⟩, List.forall_mem_cons.mpr ⟨⟨mm56, rfl, ww716⟩, List.forall_mem_cons.mpr ⟨⟨mm55, rfl, ww712⟩, fun _ h => absurd h List.not_mem_nil⟩⟩⟩⟩⟩⟩⟩⟩⟩⟩⟩⟩⟩⟩⟩⟩⟩⟩⟩⟩
theorem sm_MLo_2 : ∀ q ∈ [(3, 82, 57), (3, 86, 58), (3, 89, 61), (3, 102, 59), (3, 109, 60), (3, 112, 3), (3, 118, 62), (4, 47, 3), (4, 71, 14), (4, 75, 66), (4, 81, 46), (4, 84, 107), (4, 88, 130), (4, 92, 133), (5, 32, 24), (5, 36, 25), (6, 52, 59), (6, 58, 78), (6, 68, 14), (6, 72, 60)], sm_PM q := List.forall_mem_cons.mpr ⟨⟨mm57, rfl, ww722⟩, List.forall_mem_cons.mpr ⟨⟨mm58, rfl, ww726⟩, List.forall_mem_cons.mpr ⟨⟨mm61, rfl, ww738⟩, List.forall_mem_cons.mpr ⟨⟨mm59, rfl, ww730⟩, List.forall_mem_cons.mpr ⟨⟨mm60, rfl, ww734⟩, List.forall_mem_cons.mpr ⟨⟨mm3, rfl, ww742⟩, List.forall_mem_cons.mpr ⟨⟨mm62, rfl, ww743⟩, List.forall_mem_cons.mpr ⟨⟨mm3, rfl, ww163⟩, List.forall_mem_cons.mpr ⟨⟨mm14, rfl, ww456⟩, List.forall_mem_cons.mpr ⟨⟨mm66, rfl, ww760⟩, List.forall_mem_cons.mpr ⟨⟨mm46, rfl, ww674⟩, List.forall_mem_cons.mpr ⟨⟨mm107, rfl, ww1050⟩, List.forall_mem_cons.mpr ⟨⟨mm130, rfl, ww1051⟩, List.forall_mem_cons.mpr ⟨⟨mm133, rfl, ww1062⟩, List.forall_mem_cons.mpr ⟨⟨mm24, rfl, ww498⟩, List.forall_mem_cons.mpr ⟨⟨mm25, rfl, ww502⟩, List.forall_mem_cons.mpr ⟨⟨mm59, rfl, ww818⟩, List.forall_mem_cons.mpr ⟨⟨mm78, rfl, ww819⟩, List.forall_mem_cons.mpr ⟨⟨mm14, rfl, ww808⟩, List.forall_mem_cons.mpr ⟨⟨mm60, rfl, ww823⟩, fun _ h => absurd h List.not_mem_nil⟩⟩⟩⟩⟩⟩⟩⟩⟩⟩⟩⟩⟩⟩⟩⟩⟩⟩⟩⟩
theorem sm_MLo_3 : ∀ q ∈ [(6, 79, 3), (6, 89, 46), (6, 92, 84), (6, 96, 75), (6, 99, 44), (6, 102, 72), (6, 108, 89), (6, 111, 92), (6, 115, 34), (6, 120, 33), (6, 123, 101), (6, 126, 98), (6, 129, 107), (6, 132, 105), (6, 135, 106), (6, 139, 109), (6, 142, 77), (6, 148, 113), (6, 152, 83), (6, 155, 116)], sm_PM q := List.forall_mem_cons.mpr ⟨⟨mm3, rfl, ww836⟩, List.forall_mem_cons.mpr ⟨⟨mm46, rfl, ww809⟩, List.forall_mem_cons.mpr ⟨⟨mm84, rfl, ww845⟩, List.forall_mem_cons.mpr ⟨⟨mm75, rfl, ww857⟩, List.forall_mem_cons.mpr ⟨⟨mm44, rfl, ww914⟩, List.forall_mem_cons.mpr ⟨⟨mm72, rfl, ww867⟩, List.forall_mem_cons.mpr ⟨⟨mm89, rfl, ww868⟩, List.forall_mem_cons.mpr ⟨⟨mm92, rfl, ww880⟩, List.forall_mem_cons.mpr ⟨⟨mm34, rfl, ww884⟩, List.forall_mem_cons.mpr ⟨⟨mm33, rfl, ww885⟩, List.forall_mem_cons.mpr ⟨⟨mm101, rfl, ww923⟩, List.forall_mem_cons.mpr ⟨⟨mm98, rfl, ww927⟩, List.forall_mem_cons.mpr ⟨⟨mm107, rfl, ww948⟩, List.forall_mem_cons.mpr ⟨⟨mm105, rfl, ww940⟩, List.forall_mem_cons.mpr ⟨⟨mm106, rfl, ww944⟩, List.forall_mem_cons.mpr ⟨⟨mm109, rfl, ww956⟩, List.forall_mem_cons.mpr ⟨⟨mm77, rfl, ww972⟩, List.forall_mem_cons.mpr ⟨⟨mm113, rfl, ww973⟩, List.forall_mem_cons.mpr ⟨⟨mm83, rfl, ww985⟩, List.forall_mem_cons.mpr ⟨⟨mm116, rfl, ww986⟩, fun _ h => absurd h List.not_mem_nil⟩⟩⟩⟩⟩⟩⟩⟩⟩⟩⟩⟩⟩⟩⟩⟩⟩⟩⟩⟩
theorem sm_MLo_4 : ∀ q ∈ [(6, 158, 118), (6, 162, 117), (6, 165, 119), (7, 18, 2), (7, 31, 4), (7, 47, 6), (7, 56, 7), (7, 65, 8), (7, 79, 10), (7, 94, 11), (7, 107, 13), (7, 126, 14), (7, 136, 18), (7, 140, 20), (7, 143, 21), (7, 146, 22), (7, 153, 41), (7, 156, 43), (7, 163, 45), (7, 167, 48)], sm_PM q := List.forall_mem_cons.mpr ⟨⟨mm118, rfl, ww994⟩, List.forall_mem_cons.mpr ⟨⟨mm117, rfl, ww990⟩, List.forall_mem_cons.mpr ⟨⟨mm119, rfl, ww998⟩, List.forall_mem_cons.mpr ⟨⟨mm2, rfl, ww159⟩, List.forall_mem_cons.mpr ⟨⟨mm4, rfl, ww251⟩, List.forall_mem_cons.mpr ⟨⟨mm6, rfl, ww350⟩, List.forall_mem_cons.mpr ⟨⟨mm7, rfl, ww369⟩, List.forall_mem_cons.mpr ⟨⟨mm8, rfl, ww382⟩, List.forall_mem_cons.mpr ⟨⟨mm10, rfl, ww442⟩, List.forall_mem_cons.mpr ⟨⟨mm11, rfl, ww445⟩, List.forall_mem_cons.mpr ⟨⟨mm13, rfl, ww452⟩, List.forall_mem_cons.mpr ⟨⟨mm14, rfl, ww468⟩, List.forall_mem_cons.mpr ⟨⟨mm18, rfl, ww473⟩, List.forall_mem_cons.mpr ⟨⟨mm20, rfl, ww481⟩, List.forall_mem_cons.mpr ⟨⟨mm21, rfl, ww486⟩, List.forall_mem_cons.mpr ⟨⟨mm22, rfl, ww490⟩, List.forall_mem_cons.mpr ⟨⟨mm41, rfl, ww648⟩, List.forall_mem_cons.mpr ⟨⟨mm43, rfl, ww660⟩, List.forall_mem_cons.mpr ⟨⟨mm45, rfl, ww670⟩, List.forall_mem_cons.mpr ⟨⟨mm48, rfl, ww682⟩, fun _ h => absurd h List.not_mem_nil⟩⟩⟩⟩⟩⟩⟩⟩⟩⟩⟩⟩⟩⟩⟩⟩⟩⟩⟩⟩
theorem sm_MLo_5 : ∀ q ∈ [(7, 171, 69), (7, 176, 70), (7, 188, 62), (7, 192, 44), (7, 195, 46), (7, 199, 72), (7, 204, 63), (7, 208, 75), (7, 211, 77), (7, 217, 79), (7, 221, 81), (7, 224, 83), (7, 230, 86), (7, 233, 59), (7, 239, 88), (7, 242, 91), (7, 248, 94), (7, 251, 96), (7, 254, 100), (7, 257, 102)], sm_PM q := List.forall_mem_cons.mpr ⟨⟨mm69, rfl, ww774⟩, List.forall_mem_cons.mpr ⟨⟨mm70, rfl, ww779⟩, List.forall_mem_cons.mpr ⟨⟨mm62, rfl, ww787⟩, List.forall_mem_cons.mpr ⟨⟨mm44, rfl, ww666⟩, List.forall_mem_cons.mpr ⟨⟨mm46, rfl, ww788⟩, List.forall_mem_cons.mpr ⟨⟨mm72, rfl, ww789⟩, List.forall_mem_cons.mpr ⟨⟨mm63, rfl, ww799⟩, List.forall_mem_cons.mpr ⟨⟨mm75, rfl, ww804⟩, List.forall_mem_cons.mpr ⟨⟨mm77, rfl, ww814⟩, List.forall_mem_cons.mpr ⟨⟨mm79, rfl, ww825⟩, List.forall_mem_cons.mpr ⟨⟨mm81, rfl, ww832⟩, List.forall_mem_cons.mpr ⟨⟨mm83, rfl, ww841⟩, List.forall_mem_cons.mpr ⟨⟨mm86, rfl, ww853⟩, List.forall_mem_cons.mpr ⟨⟨mm59, rfl, ww858⟩, List.forall_mem_cons.mpr ⟨⟨mm88, rfl, ww863⟩, List.forall_mem_cons.mpr ⟨⟨mm91, rfl, ww876⟩, List.forall_mem_cons.mpr ⟨⟨mm94, rfl, ww890⟩, List.forall_mem_cons.mpr ⟨⟨mm96, rfl, ww898⟩, List.forall_mem_cons.mpr ⟨⟨mm100, rfl, ww919⟩, List.forall_mem_cons.mpr ⟨⟨mm102, rfl, ww928⟩, fun _ h => absurd h List.not_mem_nil⟩⟩⟩⟩⟩⟩⟩⟩⟩⟩⟩⟩⟩⟩⟩⟩⟩⟩⟩⟩
theorem sm_MLo_6 : ∀ q ∈ [(7, 263, 104), (7, 266, 108), (7, 269, 110), (7, 272, 112), (7, 275, 115), (7, 281, 121), (7, 284, 65), (7, 287, 123), (7, 290, 49), (7, 294, 56), (7, 297, 125), (7, 300, 3), (7, 303, 57), (7, 306, 129), (7, 309, 132), (7, 312, 133), (7, 328, 107), (7, 331, 24), (7, 334, 25), (8, 114, 141)], sm_PM q := List.forall_mem_cons.mpr ⟨⟨mm104, rfl, ww936⟩, List.forall_mem_cons.mpr ⟨⟨mm108, rfl, ww952⟩, List.forall_mem_cons.mpr ⟨⟨mm110, rfl, ww960⟩, List.forall_mem_cons.mpr ⟨⟨mm112, rfl, ww968⟩, List.forall_mem_cons.mpr ⟨⟨mm115, rfl, ww981⟩, List.forall_mem_cons.mpr ⟨⟨mm121, rfl, ww1006⟩, List.forall_mem_cons.mpr ⟨⟨mm65, rfl, ww1015⟩, List.forall_mem_cons.mpr ⟨⟨mm123, rfl, ww1016⟩, List.forall_mem_cons.mpr ⟨⟨mm49, rfl, ww1020⟩, List.forall_mem_cons.mpr ⟨⟨mm56, rfl, ww1021⟩, List.forall_mem_cons.mpr ⟨⟨mm125, rfl, ww1026⟩, List.forall_mem_cons.mpr ⟨⟨mm3, rfl, ww1036⟩, List.forall_mem_cons.mpr ⟨⟨mm57, rfl, ww1041⟩, List.forall_mem_cons.mpr ⟨⟨mm129, rfl, ww1046⟩, List.forall_mem_cons.mpr ⟨⟨mm132, rfl, ww1058⟩, List.forall_mem_cons.mpr ⟨⟨mm133, rfl, ww1066⟩, List.forall_mem_cons.mpr ⟨⟨mm107, rfl, ww1088⟩, List.forall_mem_cons.mpr ⟨⟨mm24, rfl, ww664⟩, List.forall_mem_cons.mpr ⟨⟨mm25, rfl, ww665⟩, List.forall_mem_cons.mpr ⟨⟨mm141, rfl, ww1241⟩, fun _ h => absurd h List.not_mem_nil⟩⟩⟩⟩⟩⟩⟩⟩⟩⟩⟩⟩⟩⟩⟩⟩⟩⟩⟩⟩
theorem sm_MLo_7 : ∀ q ∈ [(8, 118, 146), (8, 122, 145), (8, 126, 142), (8, 134, 144), (8, 141, 150), (8, 150, 153), (8, 157, 154), (8, 163, 158), (8, 177, 164), (8, 180, 160), (8, 184, 157), (8, 187, 159), (8, 190, 161), (8, 193, 156), (8, 196, 162), (8, 199, 163), (8, 203, 165), (8, 206, 155), (8, 209, 168), (8, 212, 167)], sm_PM q := List.forall_mem_cons.mpr ⟨⟨mm146, rfl, ww1260⟩, List.forall_mem_cons.mpr ⟨⟨mm145, rfl, ww1256⟩, List.forall_mem_cons.mpr ⟨⟨mm142, rfl, ww1244⟩, List.forall_mem_cons.mpr ⟨⟨mm144, rfl, ww1252⟩, List.forall_mem_cons.mpr ⟨⟨mm150, rfl, ww1275⟩, List.forall_mem_cons.mpr ⟨⟨mm153, rfl, ww1287⟩, List.forall_mem_cons.mpr ⟨⟨mm154, rfl, ww1291⟩, List.forall_mem_cons.mpr ⟨⟨mm158, rfl, ww1308⟩, List.forall_mem_cons.mpr ⟨⟨mm164, rfl, ww1330⟩, List.forall_mem_cons.mpr ⟨⟨mm160, rfl, ww1316⟩, List.forall_mem_cons.mpr ⟨⟨mm157, rfl, ww1303⟩, List.forall_mem_cons.mpr ⟨⟨mm159, rfl, ww1312⟩, List.forall_mem_cons.mpr ⟨⟨mm161, rfl, ww1320⟩, List.forall_mem_cons.mpr ⟨⟨mm156, rfl, ww1299⟩, List.forall_mem_cons.mpr ⟨⟨mm162, rfl, ww1323⟩, List.forall_mem_cons.mpr ⟨⟨mm163, rfl, ww1326⟩, List.forall_mem_cons.mpr ⟨⟨mm165, rfl, ww1334⟩, List.forall_mem_cons.mpr ⟨⟨mm155, rfl, ww1295⟩, List.forall_mem_cons.mpr ⟨⟨mm168, rfl, ww1346⟩, List.forall_mem_cons.mpr ⟨⟨mm167, rfl, ww1342⟩, fun _ h => absurd h List.not_mem_nil⟩⟩⟩⟩⟩⟩⟩⟩⟩⟩⟩⟩⟩⟩⟩⟩⟩⟩⟩⟩
theorem sm_MLo_8 : ∀ q ∈ [(8, 215, 169), (8, 218, 170), (8, 224, 166), (8, 227, 152), (8, 230, 171), (8, 236, 182), (8, 240, 181), (8, 244, 192), (8, 247, 179), (8, 250, 186), (8, 253, 196), (8, 256, 197), (8, 259, 180), (8, 262, 189), (8, 265, 195), (8, 268, 173), (8, 271, 174), (8, 274, 191), (8, 277, 194), (8, 280, 185)], sm_PM q := List.forall_mem_cons.mpr ⟨⟨mm169, rfl, ww1350⟩, List.forall_mem_cons.mpr ⟨⟨mm170, rfl, ww1354⟩, List.forall_mem_cons.mpr ⟨⟨mm166, rfl, ww1338⟩, List.forall_mem_cons.mpr ⟨⟨mm152, rfl, ww1283⟩, List.forall_mem_cons.mpr ⟨⟨mm171, rfl, ww1358⟩, List.forall_mem_cons.mpr ⟨⟨mm182, rfl, ww1402⟩, List.forall_mem_cons.mpr ⟨⟨mm181, rfl, ww1398⟩, List.forall_mem_cons.mpr ⟨⟨mm192, rfl, ww1441⟩, List.forall_mem_cons.mpr ⟨⟨mm179, rfl, ww1390⟩, List.forall_mem_cons.mpr ⟨⟨mm186, rfl, ww1417⟩, List.forall_mem_cons.mpr ⟨⟨mm196, rfl, ww1457⟩, List.forall_mem_cons.mpr ⟨⟨mm197, rfl, ww1461⟩, List.forall_mem_cons.mpr ⟨⟨mm180, rfl, ww1394⟩, List.forall_mem_cons.mpr ⟨⟨mm189, rfl, ww1429⟩, List.forall_mem_cons.mpr ⟨⟨mm195, rfl, ww1453⟩, List.forall_mem_cons.mpr ⟨⟨mm173, rfl, ww1366⟩, List.forall_mem_cons.mpr ⟨⟨mm174, rfl, ww1370⟩, List.forall_mem_cons.mpr ⟨⟨mm191, rfl, ww1437⟩, List.forall_mem_cons.mpr ⟨⟨mm194, rfl, ww1449⟩, List.forall_mem_cons.mpr ⟨⟨mm185, rfl, ww1413⟩, fun _ h => absurd h List.not_mem_nil⟩⟩⟩⟩⟩⟩⟩⟩⟩⟩⟩⟩⟩⟩⟩⟩⟩⟩⟩⟩
theorem sm_MLo_9 : ∀ q ∈ [(8, 283, 187), (8, 289, 178), (8, 292, 183), (8, 295, 184), (8, 302, 188), (8, 305, 190), (8, 308, 193), (8, 311, 177), (8, 314, 176), (8, 317, 199), (8, 321, 203), (8, 324, 205), (8, 327, 206), (8, 330, 207), (8, 334, 210), (8, 337, 213), (8, 340, 212), (8, 343, 215), (8, 346, 216), (8, 349, 219)], sm_PM q := List.forall_mem_cons.mpr ⟨⟨mm187, rfl, ww1421⟩, List.forall_mem_cons.mpr ⟨⟨mm178, rfl, ww1386⟩, List.forall_mem_cons.mpr ⟨⟨mm183, rfl, ww1405⟩, List.forall_mem_cons.mpr ⟨⟨mm184, rfl, ww1409⟩, List.forall_mem_cons.mpr ⟨⟨mm188, rfl, ww1425⟩, List.forall_mem_cons.mpr ⟨⟨mm190, rfl, ww1433⟩, List.forall_mem_cons.mpr ⟨⟨mm193, rfl, ww1445⟩, List.forall_mem_cons.mpr ⟨⟨mm177, rfl, ww1382⟩, List.forall_mem_cons.mpr ⟨⟨mm176, rfl, ww1378⟩, List.forall_mem_cons.mpr ⟨⟨mm199, rfl, ww1469⟩, List.forall_mem_cons.mpr ⟨⟨mm203, rfl, ww1484⟩, List.forall_mem_cons.mpr ⟨⟨mm205, rfl, ww1492⟩, List.forall_mem_cons.mpr ⟨⟨mm206, rfl, ww1496⟩, List.forall_mem_cons.mpr ⟨⟨mm207, rfl, ww1500⟩, List.forall_mem_cons.mpr ⟨⟨mm210, rfl, ww1512⟩, List.forall_mem_cons.mpr ⟨⟨mm213, rfl, ww1524⟩, List.forall_mem_cons.mpr ⟨⟨mm212, rfl, ww1520⟩, List.forall_mem_cons.mpr ⟨⟨mm215, rfl, ww1532⟩, List.forall_mem_cons.mpr ⟨⟨mm216, rfl, ww1535⟩, List.forall_mem_cons.mpr ⟨⟨mm219, rfl, ww1547⟩, fun _ h => absurd h List.not_mem_nil⟩⟩⟩⟩⟩⟩⟩⟩⟩⟩⟩⟩⟩⟩⟩⟩⟩⟩⟩⟩
theorem sm_MLo_10 : ∀ q ∈ [(8, 352, 218), (8, 355, 222), (8, 358, 227), (8, 361, 224), (8, 364, 225), (8, 367, 226), (8, 370, 230), (8, 373, 229), (8, 376, 231), (8, 379, 233), (8, 382, 236), (8, 385, 242), (8, 388, 241), (8, 391, 245), (8, 394, 244), (13, 9, 0), (13, 12, 139), (13, 13, 9), (13, 17, 140), (13, 18, 12)], sm_PM q := List.forall_mem_cons.mpr ⟨⟨mm218, rfl, ww1543⟩, List.forall_mem_cons.mpr ⟨⟨mm222, rfl, ww1558⟩, List.forall_mem_cons.mpr ⟨⟨mm227, rfl, ww1578⟩, List.forall_mem_cons.mpr ⟨⟨mm224, rfl, ww1566⟩, List.forall_mem_cons.mpr ⟨⟨mm225, rfl, ww1570⟩, List.forall_mem_cons.mpr ⟨⟨mm226, rfl, ww1574⟩, List.forall_mem_cons.mpr ⟨⟨mm230, rfl, ww1590⟩, List.forall_mem_cons.mpr ⟨⟨mm229, rfl, ww1586⟩, List.forall_mem_cons.mpr ⟨⟨mm231, rfl, ww1594⟩, List.forall_mem_cons.mpr ⟨⟨mm233, rfl, ww1602⟩, List.forall_mem_cons.mpr ⟨⟨mm236, rfl, ww1622⟩, List.forall_mem_cons.mpr ⟨⟨mm242, rfl, ww1639⟩, List.forall_mem_cons.mpr ⟨⟨mm241, rfl, ww1635⟩, List.forall_mem_cons.mpr ⟨⟨mm245, rfl, ww1650⟩, List.forall_mem_cons.mpr ⟨⟨mm244, rfl, ww1646⟩, List.forall_mem_cons.mpr ⟨⟨mm0, rfl, ww120⟩, List.forall_mem_cons.mpr ⟨⟨mm139, rfl, ww1091⟩, List.forall_mem_cons.mpr ⟨⟨mm9, rfl, ww438⟩, List.forall_mem_cons.mpr ⟨⟨mm140, rfl, ww1237⟩, List.forall_mem_cons.mpr ⟨⟨mm12, rfl, ww448⟩, fun _ h => absurd h List.not_mem_nil⟩⟩⟩⟩⟩⟩⟩⟩⟩⟩⟩⟩⟩⟩⟩⟩⟩⟩⟩⟩
theorem sm_MLo_11 : ∀ q ∈ [(13, 22, 143), (13, 23, 15), (13, 27, 147), (13, 28, 16), (13, 31, 148), (13, 32, 17), (13, 36, 149), (13, 37, 19), (13, 41, 151), (13, 42, 42), (13, 46, 172), (13, 47, 47), (13, 50, 175), (13, 51, 68), (13, 54, 198), (13, 55, 71), (13, 58, 200), (13, 59, 73), (13, 62, 201), (13, 63, 74)], sm_PM q := List.forall_mem_cons.mpr ⟨⟨mm143, rfl, ww1248⟩, List.forall_mem_cons.mpr ⟨⟨mm15, rfl, ww460⟩, List.forall_mem_cons.mpr ⟨⟨mm147, rfl, ww1263⟩, List.forall_mem_cons.mpr ⟨⟨mm16, rfl, ww464⟩, List.forall_mem_cons.mpr ⟨⟨mm148, rfl, ww1267⟩, List.forall_mem_cons.mpr ⟨⟨mm17, rfl, ww469⟩, List.forall_mem_cons.mpr ⟨⟨mm149, rfl, ww1271⟩, List.forall_mem_cons.mpr ⟨⟨mm19, rfl, ww477⟩, List.forall_mem_cons.mpr ⟨⟨mm151, rfl, ww1279⟩, List.forall_mem_cons.mpr ⟨⟨mm42, rfl, ww656⟩, List.forall_mem_cons.mpr ⟨⟨mm172, rfl, ww1362⟩, List.forall_mem_cons.mpr ⟨⟨mm47, rfl, ww678⟩, List.forall_mem_cons.mpr ⟨⟨mm175, rfl, ww1374⟩, List.forall_mem_cons.mpr ⟨⟨mm68, rfl, ww770⟩, List.forall_mem_cons.mpr ⟨⟨mm198, rfl, ww1465⟩, List.forall_mem_cons.mpr ⟨⟨mm71, rfl, ww783⟩, List.forall_mem_cons.mpr ⟨⟨mm200, rfl, ww1472⟩, List.forall_mem_cons.mpr ⟨⟨mm73, rfl, ww795⟩, List.forall_mem_cons.mpr ⟨⟨mm201, rfl, ww1476⟩, List.forall_mem_cons.mpr ⟨⟨mm74, rfl, ww800⟩, fun _ h => absurd h List.not_mem_nil⟩⟩⟩⟩⟩⟩⟩⟩⟩⟩⟩⟩⟩⟩⟩⟩⟩⟩⟩⟩
theorem sm_MLo_12 : ∀ q ∈ [(13, 66, 202), (13, 67, 76), (13, 70, 204), (13, 71, 80), (13, 74, 208), (13, 75, 82), (13, 78, 209), (13, 79, 85), (13, 83, 211), (13, 84, 87), (13, 87, 214), (13, 88, 90), (13, 91, 217), (13, 92, 93), (13, 95, 220), (13, 96, 95), (13, 99, 221), (13, 100, 99), (13, 103, 223), (13, 104, 103)], sm_PM q := List.forall_mem_cons.mpr ⟨⟨mm202, rfl, ww1480⟩, List.forall_mem_cons.mpr ⟨⟨mm76, rfl, ww810⟩, List.forall_mem_cons.mpr ⟨⟨mm204, rfl, ww1488⟩, List.forall_mem_cons.mpr ⟨⟨mm80, rfl, ww828⟩, List.forall_mem_cons.mpr ⟨⟨mm208, rfl, ww1504⟩, List.forall_mem_cons.mpr ⟨⟨mm82, rfl, ww837⟩, List.forall_mem_cons.mpr ⟨⟨mm209, rfl, ww1508⟩, List.forall_mem_cons.mpr ⟨⟨mm85, rfl, ww849⟩, List.forall_mem_cons.mpr ⟨⟨mm211, rfl, ww1516⟩, List.forall_mem_cons.mpr ⟨⟨mm87, rfl, ww859⟩, List.forall_mem_cons.mpr ⟨⟨mm214, rfl, ww1528⟩, List.forall_mem_cons.mpr ⟨⟨mm90, rfl, ww872⟩, List.forall_mem_cons.mpr ⟨⟨mm217, rfl, ww1539⟩, List.forall_mem_cons.mpr ⟨⟨mm93, rfl, ww886⟩, List.forall_mem_cons.mpr ⟨⟨mm220, rfl, ww1550⟩, List.forall_mem_cons.mpr ⟨⟨mm95, rfl, ww894⟩, List.forall_mem_cons.mpr ⟨⟨mm221, rfl, ww1554⟩, List.forall_mem_cons.mpr ⟨⟨mm99, rfl, ww915⟩, List.forall_mem_cons.mpr ⟨⟨mm223, rfl, ww1562⟩, List.forall_mem_cons.mpr ⟨⟨mm103, rfl, ww932⟩, fun _ h => absurd h List.not_mem_nil⟩⟩⟩⟩⟩⟩⟩⟩⟩⟩⟩⟩⟩⟩⟩⟩⟩⟩⟩⟩
theorem sm_MLo_13 : ∀ q ∈ [(13, 107, 228), (13, 108, 111), (13, 111, 232), (13, 112, 114), (13, 115, 234), (13, 116, 120), (13, 119, 235), (13, 120, 122), (13, 123, 236), (13, 124, 124), (13, 127, 237), (13, 128, 126), (13, 131, 238), (13, 132, 127), (13, 135, 239), (13, 136, 128), (13, 139, 240), (13, 140, 131), (13, 143, 243), (13, 144, 134)], sm_PM q := List.forall_mem_cons.mpr ⟨⟨mm228, rfl, ww1582⟩, List.forall_mem_cons.mpr ⟨⟨mm111, rfl, ww964⟩, List.forall_mem_cons.mpr ⟨⟨mm232, rfl, ww1598⟩, List.forall_mem_cons.mpr ⟨⟨mm114, rfl, ww977⟩, List.forall_mem_cons.mpr ⟨⟨mm234, rfl, ww1606⟩, List.forall_mem_cons.mpr ⟨⟨mm120, rfl, ww1002⟩, List.forall_mem_cons.mpr ⟨⟨mm235, rfl, ww1610⟩, List.forall_mem_cons.mpr ⟨⟨mm122, rfl, ww1011⟩, List.forall_mem_cons.mpr ⟨⟨mm236, rfl, ww1614⟩, List.forall_mem_cons.mpr ⟨⟨mm124, rfl, ww1022⟩, List.forall_mem_cons.mpr ⟨⟨mm237, rfl, ww1618⟩, List.forall_mem_cons.mpr ⟨⟨mm126, rfl, ww1032⟩, List.forall_mem_cons.mpr ⟨⟨mm238, rfl, ww1623⟩, List.forall_mem_cons.mpr ⟨⟨mm127, rfl, ww1037⟩, List.forall_mem_cons.mpr ⟨⟨mm239, rfl, ww1627⟩, List.forall_mem_cons.mpr ⟨⟨mm128, rfl, ww1042⟩, List.forall_mem_cons.mpr ⟨⟨mm240, rfl, ww1631⟩, List.forall_mem_cons.mpr ⟨⟨mm131, rfl, ww1054⟩, List.forall_mem_cons.mpr ⟨⟨mm243, rfl, ww1642⟩, List.forall_mem_cons.mpr ⟨⟨mm134, rfl, ww1067⟩, fun _ h => absurd h List.not_mem_nil⟩⟩⟩⟩⟩⟩⟩⟩⟩⟩⟩⟩⟩⟩⟩⟩⟩⟩⟩⟩
theorem sm_MLo_14 : ∀ q ∈ [(13, 147, 246), (13, 148, 135), (13, 151, 247), (13, 152, 136), (13, 156, 248), (13, 157, 137), (13, 160, 249), (13, 161, 138), (13, 164, 250)], sm_PM q := List.forall_mem_cons.mpr ⟨⟨mm246, rfl, ww1654⟩, List.forall_mem_cons.mpr ⟨⟨mm135, rfl, ww1072⟩, List.forall_mem_cons.mpr ⟨⟨mm247, rfl, ww1659⟩, List.forall_mem_cons.mpr ⟨⟨mm136, rfl, ww1076⟩, List.forall_mem_cons.mpr ⟨⟨mm248, rfl, ww1663⟩, List.forall_mem_cons.mpr ⟨⟨mm137, rfl, ww1080⟩, List.forall_mem_cons.mpr ⟨⟨mm249, rfl, ww1667⟩, List.forall_mem_cons.mpr ⟨⟨mm138, rfl, ww1084⟩, List.forall_mem_cons.mpr ⟨⟨mm250, rfl, ww1671⟩, fun _ h => absurd h List.not_mem_nil⟩⟩⟩⟩⟩⟩⟩⟩⟩
set_option maxRecDepth 20000 in
theorem sm_ML_ok : ∀ q ∈ sm_ML, sm_PM q := List.forall_mem_append.mpr ⟨sm_MLo_0, List.forall_mem_append.mpr ⟨sm_MLo_1, List.forall_mem_append.mpr ⟨sm_MLo_2, List.forall_mem_append.mpr ⟨sm_MLo_3, List.forall_mem_append.mpr ⟨sm_MLo_4, List.forall_mem_append.mpr ⟨sm_MLo_5, List.forall_mem_append.mpr ⟨sm_MLo_6, List.forall_mem_append.mpr ⟨sm_MLo_7, List.forall_mem_append.mpr ⟨sm_MLo_8, List.forall_mem_append.mpr ⟨sm_MLo_9, List.forall_mem_append.mpr ⟨sm_MLo_10, List.forall_mem_append.mpr ⟨sm_MLo_11, List.forall_mem_append.mpr ⟨sm_MLo_12, List.forall_mem_append.mpr ⟨sm_MLo_13, sm_MLo_14⟩⟩⟩⟩⟩⟩⟩⟩⟩⟩⟩⟩⟩⟩
noncomputable def sm_PN (q : Nat × Nat × Nat) : Prop := ∃ E : sm_M, sm_mt q.2.2 = some E ∧ Jvm.Cond.methodLinkNest (sm_o q.1) q.2.1 E.1 "TeaCabinet" ∈ lw_tbl
theorem ww907 : Jvm.Cond.methodLinkNest "TeaCabinet$AgendaReader" 37 ⟨"TeaCabinet", "within", "(III)Z"⟩ "TeaCabinet" ∈ lw_tbl := sm_in4 (i := 89) rfl
theorem ww355 : Jvm.Cond.methodLinkNest "TeaCabinet$LawReader" 11 ⟨"TeaCabinet$Law", "<init>", "()V"⟩ "TeaCabinet" ∈ lw_tbl := sm_in2 (i := 17) rfl
theorem ww528 : Jvm.Cond.methodLinkNest "TeaCabinet$LawReader" 107 ⟨"TeaCabinet", "within", "(III)Z"⟩ "TeaCabinet" ∈ lw_tbl := sm_in2 (i := 190) rfl
theorem ww485 : Jvm.Cond.methodLinkNest "TeaCabinet$Text" 19 ⟨"TeaCabinet", "within", "(III)Z"⟩ "TeaCabinet" ∈ lw_tbl := sm_in2 (i := 147) rfl
theorem ww1010 : Jvm.Cond.methodLinkNest "TeaCabinet$Votes" 168 ⟨"TeaCabinet", "most", "([I)I"⟩ "TeaCabinet" ∈ lw_tbl := sm_in4 (i := 192) rfl
theorem ww128 : Jvm.Cond.methodLinkNest "TeaCabinet" 9 ⟨"TeaCabinet$Text", "<init>", "()V"⟩ "TeaCabinet" ∈ lw_tbl := sm_in1 (i := 30) rfl
theorem ww302 : Jvm.Cond.methodLinkNest "TeaCabinet" 40 ⟨"TeaCabinet$Law", "<init>", "()V"⟩ "TeaCabinet" ∈ lw_tbl := sm_in1 (i := 204) rfl
theorem sm_NLo_0 : ∀ q ∈ [(0, 37, 10), (2, 11, 5), (2, 107, 10), (5, 19, 10), (6, 168, 79), (7, 9, 1), (7, 40, 5)], sm_PN q := List.forall_mem_cons.mpr ⟨⟨mm10, rfl, ww907⟩, List.forall_mem_cons.mpr ⟨⟨mm5, rfl, ww355⟩, List.forall_mem_cons.mpr ⟨⟨mm10, rfl, ww528⟩, List.forall_mem_cons.mpr ⟨⟨mm10, rfl, ww485⟩, List.forall_mem_cons.mpr ⟨⟨mm79, rfl, ww1010⟩, List.forall_mem_cons.mpr ⟨⟨mm1, rfl, ww128⟩, List.forall_mem_cons.mpr ⟨⟨mm5, rfl, ww302⟩, fun _ h => absurd h List.not_mem_nil⟩⟩⟩⟩⟩⟩⟩
set_option maxRecDepth 20000 in
theorem sm_NL_ok : ∀ q ∈ sm_NL, sm_PN q := sm_NLo_0
noncomputable def sm_PC (q : Nat × Nat × Nat) : Prop := ∃ r : vw_C, sm_cl[q.2.2]? = some r ∧ Jvm.Cond.classLink (sm_o q.1) q.2.1 r.1 ∈ lw_tbl
theorem ww354 : Jvm.Cond.classLink "TeaCabinet$LawReader" 9 "TeaCabinet$Law" ∈ lw_tbl := sm_in2 (i := 16) rfl
theorem ww126 : Jvm.Cond.classLink "TeaCabinet" 7 "TeaCabinet$Text" ∈ lw_tbl := sm_in1 (i := 28) rfl
theorem ww157 : Jvm.Cond.classLink "TeaCabinet" 16 "TeaCabinet$Table" ∈ lw_tbl := sm_in1 (i := 59) rfl
theorem ww249 : Jvm.Cond.classLink "TeaCabinet" 29 "TeaCabinet$Votes" ∈ lw_tbl := sm_in1 (i := 151) rfl
theorem ww300 : Jvm.Cond.classLink "TeaCabinet" 38 "TeaCabinet$Law" ∈ lw_tbl := sm_in1 (i := 202) rfl
theorem ww348 : Jvm.Cond.classLink "TeaCabinet" 45 "TeaCabinet$LawReader" ∈ lw_tbl := sm_in2 (i := 10) rfl
theorem ww367 : Jvm.Cond.classLink "TeaCabinet" 54 "TeaCabinet$AgendaReader" ∈ lw_tbl := sm_in2 (i := 29) rfl
theorem ww380 : Jvm.Cond.classLink "TeaCabinet" 63 "TeaCabinet$Service" ∈ lw_tbl := sm_in2 (i := 42) rfl
theorem ww118 : Jvm.Cond.classLink "TeaCabinetLaw" 7 "TeaCabinet" ∈ lw_tbl := sm_in1 (i := 20) rfl
theorem ww1089 : Jvm.Cond.classLink "TeaCabinetLaw" 10 "TeaCabinetModel" ∈ lw_tbl := sm_in5 (i := 31) rfl
theorem sm_CLo_0 : ∀ q ∈ [(2, 9, 1), (7, 7, 5), (7, 16, 4), (7, 29, 6), (7, 38, 1), (7, 45, 2), (7, 54, 0), (7, 63, 3), (13, 7, 7), (13, 10, 8)], sm_PC q := List.forall_mem_cons.mpr ⟨⟨("TeaCabinet$Law", fT1, 11), rfl, ww354⟩, List.forall_mem_cons.mpr ⟨⟨("TeaCabinet$Text", fT5, 5), rfl, ww126⟩, List.forall_mem_cons.mpr ⟨⟨("TeaCabinet$Table", fT4, 15), rfl, ww157⟩, List.forall_mem_cons.mpr ⟨⟨("TeaCabinet$Votes", fT6, 13), rfl, ww249⟩, List.forall_mem_cons.mpr ⟨⟨("TeaCabinet$Law", fT1, 11), rfl, ww300⟩, List.forall_mem_cons.mpr ⟨⟨("TeaCabinet$LawReader", fT2, 3), rfl, ww348⟩, List.forall_mem_cons.mpr ⟨⟨("TeaCabinet$AgendaReader", fT0, 2), rfl, ww367⟩, List.forall_mem_cons.mpr ⟨⟨("TeaCabinet$Service", fT3, 4), rfl, ww380⟩, List.forall_mem_cons.mpr ⟨⟨("TeaCabinet", fT7, 12), rfl, ww118⟩, List.forall_mem_cons.mpr ⟨⟨("TeaCabinetModel", fT8, 47), rfl, ww1089⟩, fun _ h => absurd h List.not_mem_nil⟩⟩⟩⟩⟩⟩⟩⟩⟩⟩
set_option maxRecDepth 20000 in
theorem sm_CL_ok : ∀ q ∈ sm_CL, sm_PC q := sm_CLo_0
noncomputable def sm_PK (q : Nat × Nat × Nat) : Prop := Jvm.Cond.constant (sm_o q.1) q.2.1 (Int32.ofNat q.2.2) ∈ lw_tbl
theorem ww721 : Jvm.Cond.constant "TeaCabinet$Service" 78 65536 ∈ lw_tbl := sm_in3 (i := 143) rfl
theorem ww1071 : Jvm.Cond.constant "TeaCabinet" 315 65535 ∈ lw_tbl := sm_in5 (i := 13) rfl
theorem ww1307 : Jvm.Cond.constant "TeaCabinetModel" 170 1048576 ∈ lw_tbl := sm_in6 (i := 9) rfl
theorem ww1424 : Jvm.Cond.constant "TeaCabinetModel" 298 65536 ∈ lw_tbl := sm_in6 (i := 126) rfl
theorem ww1658 : Jvm.Cond.constant "TeaCabinetModel" 397 65535 ∈ lw_tbl := sm_in7 (i := 120) rfl
theorem ww792 : Jvm.Cond.constant "java/lang/Integer" 265 1431655765 ∈ lw_tbl := sm_in3 (i := 214) rfl
theorem ww793 : Jvm.Cond.constant "java/lang/Integer" 266 858993459 ∈ lw_tbl := sm_in3 (i := 215) rfl
theorem ww794 : Jvm.Cond.constant "java/lang/Integer" 267 252645135 ∈ lw_tbl := sm_in3 (i := 216) rfl
theorem sm_KLo_0 : ∀ q ∈ [(3, 78, 65536), (7, 315, 65535), (8, 170, 1048576), (8, 298, 65536), (8, 397, 65535), (12, 265, 1431655765), (12, 266, 858993459), (12, 267, 252645135)], sm_PK q := List.forall_mem_cons.mpr ⟨ww721, List.forall_mem_cons.mpr ⟨ww1071, List.forall_mem_cons.mpr ⟨ww1307, List.forall_mem_cons.mpr ⟨ww1424, List.forall_mem_cons.mpr ⟨ww1658, List.forall_mem_cons.mpr ⟨ww792, List.forall_mem_cons.mpr ⟨ww793, List.forall_mem_cons.mpr ⟨ww794, fun _ h => absurd h List.not_mem_nil⟩⟩⟩⟩⟩⟩⟩⟩
set_option maxRecDepth 20000 in
theorem sm_KL_ok : ∀ q ∈ sm_KL, sm_PK q := sm_KLo_0
noncomputable def sm_PK2 (q : Nat × Nat × Nat) : Prop := Jvm.Cond.constantLong (sm_o q.1) q.2.1 (Int64.ofNat q.2.2) ∈ lw_tbl
theorem ww766 : Jvm.Cond.constantLong "java/lang/Long" 314 6148914691236517205 ∈ lw_tbl := sm_in3 (i := 188) rfl
theorem ww767 : Jvm.Cond.constantLong "java/lang/Long" 316 3689348814741910323 ∈ lw_tbl := sm_in3 (i := 189) rfl
theorem ww768 : Jvm.Cond.constantLong "java/lang/Long" 318 1085102592571150095 ∈ lw_tbl := sm_in3 (i := 190) rfl
theorem sm_K2o_0 : ∀ q ∈ [(11, 314, 6148914691236517205), (11, 316, 3689348814741910323), (11, 318, 1085102592571150095)], sm_PK2 q := List.forall_mem_cons.mpr ⟨ww766, List.forall_mem_cons.mpr ⟨ww767, List.forall_mem_cons.mpr ⟨ww768, fun _ h => absurd h List.not_mem_nil⟩⟩⟩
set_option maxRecDepth 20000 in
theorem sm_K2_ok : ∀ q ∈ sm_K2, sm_PK2 q := sm_K2o_0
noncomputable def sm_PO (q : Nat × Nat) : Prop := Jvm.Cond.methodLink (sm_o q.1) q.2 Lib.objectInit ∈ lw_tbl
theorem ww372 : Jvm.Cond.methodLink "TeaCabinet$AgendaReader" 3 Lib.objectInit ∈ lw_tbl := sm_in2 (i := 34) rfl
theorem ww305 : Jvm.Cond.methodLink "TeaCabinet$Law" 3 Lib.objectInit ∈ lw_tbl := sm_in1 (i := 207) rfl
theorem ww353 : Jvm.Cond.methodLink "TeaCabinet$LawReader" 3 Lib.objectInit ∈ lw_tbl := sm_in2 (i := 15) rfl
theorem ww385 : Jvm.Cond.methodLink "TeaCabinet$Service" 3 Lib.objectInit ∈ lw_tbl := sm_in2 (i := 47) rfl
theorem ww162 : Jvm.Cond.methodLink "TeaCabinet$Table" 3 Lib.objectInit ∈ lw_tbl := sm_in1 (i := 64) rfl
theorem ww131 : Jvm.Cond.methodLink "TeaCabinet$Text" 3 Lib.objectInit ∈ lw_tbl := sm_in1 (i := 33) rfl
theorem ww254 : Jvm.Cond.methodLink "TeaCabinet$Votes" 3 Lib.objectInit ∈ lw_tbl := sm_in1 (i := 156) rfl
theorem ww123 : Jvm.Cond.methodLink "TeaCabinet" 1 Lib.objectInit ∈ lw_tbl := sm_in1 (i := 25) rfl
theorem ww1094 : Jvm.Cond.methodLink "TeaCabinetModel" 1 Lib.objectInit ∈ lw_tbl := sm_in5 (i := 36) rfl
theorem sm_OLo_0 : ∀ q ∈ [(0, 3), (1, 3), (2, 3), (3, 3), (4, 3), (5, 3), (6, 3), (7, 1), (8, 1)], sm_PO q := List.forall_mem_cons.mpr ⟨ww372, List.forall_mem_cons.mpr ⟨ww305, List.forall_mem_cons.mpr ⟨ww353, List.forall_mem_cons.mpr ⟨ww385, List.forall_mem_cons.mpr ⟨ww162, List.forall_mem_cons.mpr ⟨ww131, List.forall_mem_cons.mpr ⟨ww254, List.forall_mem_cons.mpr ⟨ww123, List.forall_mem_cons.mpr ⟨ww1094, fun _ h => absurd h List.not_mem_nil⟩⟩⟩⟩⟩⟩⟩⟩⟩
set_option maxRecDepth 20000 in
theorem sm_OL_ok : ∀ q ∈ sm_OL, sm_PO q := sm_OLo_0
noncomputable def sm_PA (q : Nat × Nat) : Prop := Jvm.Cond.methodLink (sm_o q.1) q.2 arraycopyName ∈ lw_tbl
theorem ww652 : Jvm.Cond.methodLink "TeaCabinet$Law" 43 arraycopyName ∈ lw_tbl := sm_in3 (i := 74) rfl
theorem ww778 : Jvm.Cond.methodLink "TeaCabinet$Table" 65 arraycopyName ∈ lw_tbl := sm_in3 (i := 200) rfl
theorem ww824 : Jvm.Cond.methodLink "TeaCabinet$Votes" 62 arraycopyName ∈ lw_tbl := sm_in4 (i := 6) rfl
theorem sm_ACo_0 : ∀ q ∈ [(1, 43), (4, 65), (6, 62)], sm_PA q := List.forall_mem_cons.mpr ⟨ww652, List.forall_mem_cons.mpr ⟨ww778, List.forall_mem_cons.mpr ⟨ww824, fun _ h => absurd h List.not_mem_nil⟩⟩⟩
set_option maxRecDepth 20000 in
theorem sm_AC_ok : ∀ q ∈ sm_AC, sm_PA q := sm_ACo_0
noncomputable def sm_PW (E : sm_M) : Prop := Jvm.Cond.code E.1 E.2.1 E.2.2.1 E.2.2.2.1 ∈ lw_tbl ∧ Jvm.Cond.initialized E.1.cls ∈ lw_tbl ∧ E.1.cls = sm_o E.2.2.2.2.1 ∧ plainFor E.1 = true ∧ ((E.1.cls ≠ "java/lang/invoke/MethodHandle" ∧ E.1.cls ≠ "java/lang/invoke/VarHandle") ∧ (parseMethodDescriptor E.1.desc).map (fun d => d.parameters.length) = some E.2.2.2.2.2.1) ∧ (E.2.2.2.2.2.2.1 = 0 → Jvm.Cond.static E.1 ∈ lw_tbl) ∧ (E.2.2.2.2.2.2.1 = 1 → Jvm.Cond.instanceMethod E.1 ∈ lw_tbl ∧ Jvm.Cond.selects E.1.cls E.1 E.1 ∈ lw_tbl) ∧ (E.2.2.2.2.2.2.1 = 2 → Jvm.Cond.instanceMethod E.1 ∈ lw_tbl ∧ E.1.name = "<init>" ∧ E.2.2.2.1 = none)
theorem sm_ne0 : "TeaCabinet" ≠ "java/lang/invoke/MethodHandle" ∧ "TeaCabinet" ≠ "java/lang/invoke/VarHandle" := by decide +kernel
theorem sm_pn0 : plainName "TeaCabinet" = true := by decide +kernel
theorem sm_ne1 : "TeaCabinet$AgendaReader" ≠ "java/lang/invoke/MethodHandle" ∧ "TeaCabinet$AgendaReader" ≠ "java/lang/invoke/VarHandle" := by decide +kernel
theorem sm_pn1 : plainName "TeaCabinet$AgendaReader" = true := by decide +kernel
theorem sm_ne2 : "TeaCabinet$Law" ≠ "java/lang/invoke/MethodHandle" ∧ "TeaCabinet$Law" ≠ "java/lang/invoke/VarHandle" := by decide +kernel
theorem sm_pn2 : plainName "TeaCabinet$Law" = true := by decide +kernel
theorem sm_ne3 : "TeaCabinet$LawReader" ≠ "java/lang/invoke/MethodHandle" ∧ "TeaCabinet$LawReader" ≠ "java/lang/invoke/VarHandle" := by decide +kernel
theorem sm_pn3 : plainName "TeaCabinet$LawReader" = true := by decide +kernel
theorem sm_ne4 : "TeaCabinet$Service" ≠ "java/lang/invoke/MethodHandle" ∧ "TeaCabinet$Service" ≠ "java/lang/invoke/VarHandle" := by decide +kernel
theorem sm_pn4 : plainName "TeaCabinet$Service" = true := by decide +kernel
theorem sm_ne5 : "TeaCabinet$Table" ≠ "java/lang/invoke/MethodHandle" ∧ "TeaCabinet$Table" ≠ "java/lang/invoke/VarHandle" := by decide +kernel
theorem sm_pn5 : plainName "TeaCabinet$Table" = true := by decide +kernel
theorem sm_ne6 : "TeaCabinet$Text" ≠ "java/lang/invoke/MethodHandle" ∧ "TeaCabinet$Text" ≠ "java/lang/invoke/VarHandle" := by decide +kernel
theorem sm_pn6 : plainName "TeaCabinet$Text" = true := by decide +kernel
theorem sm_ne7 : "TeaCabinet$Votes" ≠ "java/lang/invoke/MethodHandle" ∧ "TeaCabinet$Votes" ≠ "java/lang/invoke/VarHandle" := by decide +kernel
theorem sm_pn7 : plainName "TeaCabinet$Votes" = true := by decide +kernel
theorem sm_ne8 : "TeaCabinetModel" ≠ "java/lang/invoke/MethodHandle" ∧ "TeaCabinetModel" ≠ "java/lang/invoke/VarHandle" := by decide +kernel
theorem sm_pn8 : plainName "TeaCabinetModel" = true := by decide +kernel
theorem sm_ne9 : "java/lang/Integer" ≠ "java/lang/invoke/MethodHandle" ∧ "java/lang/Integer" ≠ "java/lang/invoke/VarHandle" := by decide +kernel
theorem sm_pn9 : plainName "java/lang/Integer" = true := by decide +kernel
theorem sm_ne10 : "java/lang/Long" ≠ "java/lang/invoke/MethodHandle" ∧ "java/lang/Long" ≠ "java/lang/invoke/VarHandle" := by decide +kernel
theorem sm_pn10 : plainName "java/lang/Long" = true := by decide +kernel
theorem sm_ne11 : "java/lang/Math" ≠ "java/lang/invoke/MethodHandle" ∧ "java/lang/Math" ≠ "java/lang/invoke/VarHandle" := by decide +kernel
theorem sm_ne12 : "java/util/Arrays" ≠ "java/lang/invoke/MethodHandle" ∧ "java/util/Arrays" ≠ "java/lang/invoke/VarHandle" := by decide +kernel
theorem sm_pn12 : plainName "java/util/Arrays" = true := by decide +kernel
theorem sm_pd0 : (parseMethodDescriptor "()I").map (fun d => d.parameters.length) = some 0 := by decide +kernel
theorem sm_pd1 : (parseMethodDescriptor "()J").map (fun d => d.parameters.length) = some 0 := by decide +kernel
theorem sm_pd2 : (parseMethodDescriptor "()V").map (fun d => d.parameters.length) = some 0 := by decide +kernel
theorem sm_pd3 : (parseMethodDescriptor "()Z").map (fun d => d.parameters.length) = some 0 := by decide +kernel
theorem sm_pd4 : (parseMethodDescriptor "(I)I").map (fun d => d.parameters.length) = some 1 := by decide +kernel
theorem sm_pd5 : (parseMethodDescriptor "(I)V").map (fun d => d.parameters.length) = some 1 := by decide +kernel
theorem sm_pd6 : (parseMethodDescriptor "(I)Z").map (fun d => d.parameters.length) = some 1 := by decide +kernel
theorem sm_pd7 : (parseMethodDescriptor "(II)I").map (fun d => d.parameters.length) = some 2 := by decide +kernel
theorem sm_pd8 : (parseMethodDescriptor "(II)V").map (fun d => d.parameters.length) = some 2 := by decide +kernel
theorem sm_pd9 : (parseMethodDescriptor "(II)Z").map (fun d => d.parameters.length) = some 2 := by decide +kernel
theorem sm_pd10 : (parseMethodDescriptor "(III)I").map (fun d => d.parameters.length) = some 3 := by decide +kernel
theorem sm_pd11 : (parseMethodDescriptor "(III)V").map (fun d => d.parameters.length) = some 3 := by decide +kernel
theorem sm_pd12 : (parseMethodDescriptor "(III)Z").map (fun d => d.parameters.length) = some 3 := by decide +kernel
theorem sm_pd13 : (parseMethodDescriptor "(IIIII)I").map (fun d => d.parameters.length) = some 5 := by decide +kernel
theorem sm_pd14 : (parseMethodDescriptor "(IIIII)Z").map (fun d => d.parameters.length) = some 5 := by decide +kernel
theorem sm_pd15 : (parseMethodDescriptor "(J)I").map (fun d => d.parameters.length) = some 1 := by decide +kernel
theorem sm_pd16 : (parseMethodDescriptor "(LTeaCabinet$Law;)V").map (fun d => d.parameters.length) = some 1 := by decide +kernel
theorem sm_pd17 : (parseMethodDescriptor "(LTeaCabinet$Table;)I").map (fun d => d.parameters.length) = some 1 := by decide +kernel
theorem sm_pd18 : (parseMethodDescriptor "(LTeaCabinet$Table;)V").map (fun d => d.parameters.length) = some 1 := by decide +kernel
theorem sm_pd19 : (parseMethodDescriptor "(LTeaCabinet$Table;)Z").map (fun d => d.parameters.length) = some 1 := by decide +kernel
theorem sm_pd20 : (parseMethodDescriptor "(LTeaCabinet$Table;I)I").map (fun d => d.parameters.length) = some 2 := by decide +kernel
theorem sm_pd21 : (parseMethodDescriptor "(LTeaCabinet$Table;I)V").map (fun d => d.parameters.length) = some 2 := by decide +kernel
theorem sm_pd22 : (parseMethodDescriptor "(LTeaCabinet$Table;II)V").map (fun d => d.parameters.length) = some 3 := by decide +kernel
theorem sm_pd23 : (parseMethodDescriptor "(LTeaCabinet$Table;III)I").map (fun d => d.parameters.length) = some 4 := by decide +kernel
theorem sm_pd24 : (parseMethodDescriptor "(LTeaCabinet$Text;)V").map (fun d => d.parameters.length) = some 1 := by decide +kernel
theorem sm_pd25 : (parseMethodDescriptor "(LTeaCabinet$Text;LTeaCabinet$Votes;)V").map (fun d => d.parameters.length) = some 2 := by decide +kernel
theorem sm_pd26 : (parseMethodDescriptor "(Z)V").map (fun d => d.parameters.length) = some 1 := by decide +kernel
theorem sm_pd27 : (parseMethodDescriptor "([I)I").map (fun d => d.parameters.length) = some 1 := by decide +kernel
theorem sm_pd28 : (parseMethodDescriptor "([II)V").map (fun d => d.parameters.length) = some 2 := by decide +kernel
theorem sm_pd29 : (parseMethodDescriptor "([I[I)V").map (fun d => d.parameters.length) = some 2 := by decide +kernel
theorem sm_pd30 : (parseMethodDescriptor "([JJ)V").map (fun d => d.parameters.length) = some 2 := by decide +kernel
theorem sm_nr33 : (NativeRow.find? Jvm.natives "java/lang/Math" "max" "(II)I").isNone = true := by decide +kernel
theorem sm_pf33 : plainFor ⟨"java/lang/Math", "max", "(II)I"⟩ = true := by unfold plainFor; rw [Bool.or_eq_true]; exact Or.inr sm_nr33
theorem sm_nr34 : (NativeRow.find? Jvm.natives "java/lang/Math" "min" "(II)I").isNone = true := by decide +kernel
theorem sm_pf34 : plainFor ⟨"java/lang/Math", "min", "(II)I"⟩ = true := by unfold plainFor; rw [Bool.or_eq_true]; exact Or.inr sm_nr34
theorem sm_nr66 : (NativeRow.find? Jvm.natives "java/lang/Math" "floorMod" "(II)I").isNone = true := by decide +kernel
theorem sm_pf66 : plainFor ⟨"java/lang/Math", "floorMod", "(II)I"⟩ = true := by unfold plainFor; rw [Bool.or_eq_true]; exact Or.inr sm_nr66
theorem sm_nr130 : (NativeRow.find? Jvm.natives "java/lang/Math" "abs" "(I)I").isNone = true := by decide +kernel
theorem sm_pf130 : plainFor ⟨"java/lang/Math", "abs", "(I)I"⟩ = true := by unfold plainFor; rw [Bool.or_eq_true]; exact Or.inr sm_nr130
theorem ww122 : Jvm.Cond.code ⟨"TeaCabinet", "<init>", "()V"⟩ prog_1_method_1_code 1 (none) ∈ lw_tbl := sm_in1 (i := 24) rfl
theorem ww99 : Jvm.Cond.initialized "TeaCabinet" ∈ lw_tbl := sm_in1 (i := 1) rfl
theorem ww121 : Jvm.Cond.instanceMethod ⟨"TeaCabinet", "<init>", "()V"⟩ ∈ lw_tbl := sm_in1 (i := 23) rfl
theorem mw0 : sm_PW mm0 := ⟨ww122, ww99, rfl, plainFor_of_name sm_pn0, ⟨sm_ne0, sm_pd2⟩, (fun h => absurd h (by decide)), (fun h => absurd h (by decide)), (fun _ => ⟨ww121, rfl, rfl⟩)⟩
theorem ww130 : Jvm.Cond.code ⟨"TeaCabinet$Text", "<init>", "()V"⟩ prog_7_method_1_code 1 (none) ∈ lw_tbl := sm_in1 (i := 32) rfl
theorem ww100 : Jvm.Cond.initialized "TeaCabinet$Text" ∈ lw_tbl := sm_in1 (i := 2) rfl
theorem ww129 : Jvm.Cond.instanceMethod ⟨"TeaCabinet$Text", "<init>", "()V"⟩ ∈ lw_tbl := sm_in1 (i := 31) rfl
theorem mw1 : sm_PW mm1 := ⟨ww130, ww100, rfl, plainFor_of_name sm_pn6, ⟨sm_ne6, sm_pd2⟩, (fun h => absurd h (by decide)), (fun h => absurd h (by decide)), (fun _ => ⟨ww129, rfl, rfl⟩)⟩
theorem ww161 : Jvm.Cond.code ⟨"TeaCabinet$Table", "<init>", "()V"⟩ prog_6_method_1_code 1 (none) ∈ lw_tbl := sm_in1 (i := 63) rfl
theorem ww101 : Jvm.Cond.initialized "TeaCabinet$Table" ∈ lw_tbl := sm_in1 (i := 3) rfl
theorem ww160 : Jvm.Cond.instanceMethod ⟨"TeaCabinet$Table", "<init>", "()V"⟩ ∈ lw_tbl := sm_in1 (i := 62) rfl
theorem mw2 : sm_PW mm2 := ⟨ww161, ww101, rfl, plainFor_of_name sm_pn5, ⟨sm_ne5, sm_pd2⟩, (fun h => absurd h (by decide)), (fun h => absurd h (by decide)), (fun _ => ⟨ww160, rfl, rfl⟩)⟩
theorem ww165 : Jvm.Cond.code ⟨"java/util/Arrays", "fill", "([II)V"⟩ prog_19_method_103_code 4 (none) ∈ lw_tbl := sm_in1 (i := 67) rfl
theorem ww102 : Jvm.Cond.initialized "java/util/Arrays" ∈ lw_tbl := sm_in1 (i := 4) rfl
theorem ww164 : Jvm.Cond.static ⟨"java/util/Arrays", "fill", "([II)V"⟩ ∈ lw_tbl := sm_in1 (i := 66) rfl
theorem mw3 : sm_PW mm3 := ⟨ww165, ww102, rfl, plainFor_of_name sm_pn12, ⟨sm_ne12, sm_pd28⟩, (fun _ => ww164), (fun h => absurd h (by decide)), (fun h => absurd h (by decide))⟩
theorem ww253 : Jvm.Cond.code ⟨"TeaCabinet$Votes", "<init>", "(LTeaCabinet$Table;)V"⟩ prog_8_method_1_code 2 (none) ∈ lw_tbl := sm_in1 (i := 155) rfl
theorem ww103 : Jvm.Cond.initialized "TeaCabinet$Votes" ∈ lw_tbl := sm_in1 (i := 5) rfl
theorem ww252 : Jvm.Cond.instanceMethod ⟨"TeaCabinet$Votes", "<init>", "(LTeaCabinet$Table;)V"⟩ ∈ lw_tbl := sm_in1 (i := 154) rfl
theorem mw4 : sm_PW mm4 := ⟨ww253, ww103, rfl, plainFor_of_name sm_pn7, ⟨sm_ne7, sm_pd18⟩, (fun h => absurd h (by decide)), (fun h => absurd h (by decide)), (fun _ => ⟨ww252, rfl, rfl⟩)⟩
theorem ww304 : Jvm.Cond.code ⟨"TeaCabinet$Law", "<init>", "()V"⟩ prog_3_method_1_code 1 (none) ∈ lw_tbl := sm_in1 (i := 206) rfl
theorem ww104 : Jvm.Cond.initialized "TeaCabinet$Law" ∈ lw_tbl := sm_in1 (i := 6) rfl
theorem ww303 : Jvm.Cond.instanceMethod ⟨"TeaCabinet$Law", "<init>", "()V"⟩ ∈ lw_tbl := sm_in1 (i := 205) rfl
theorem mw5 : sm_PW mm5 := ⟨ww304, ww104, rfl, plainFor_of_name sm_pn2, ⟨sm_ne2, sm_pd2⟩, (fun h => absurd h (by decide)), (fun h => absurd h (by decide)), (fun _ => ⟨ww303, rfl, rfl⟩)⟩
theorem ww352 : Jvm.Cond.code ⟨"TeaCabinet$LawReader", "<init>", "(LTeaCabinet$Text;)V"⟩ prog_4_method_1_code 2 (none) ∈ lw_tbl := sm_in2 (i := 14) rfl
theorem ww105 : Jvm.Cond.initialized "TeaCabinet$LawReader" ∈ lw_tbl := sm_in1 (i := 7) rfl
theorem ww351 : Jvm.Cond.instanceMethod ⟨"TeaCabinet$LawReader", "<init>", "(LTeaCabinet$Text;)V"⟩ ∈ lw_tbl := sm_in2 (i := 13) rfl
theorem mw6 : sm_PW mm6 := ⟨ww352, ww105, rfl, plainFor_of_name sm_pn3, ⟨sm_ne3, sm_pd24⟩, (fun h => absurd h (by decide)), (fun h => absurd h (by decide)), (fun _ => ⟨ww351, rfl, rfl⟩)⟩
theorem ww371 : Jvm.Cond.code ⟨"TeaCabinet$AgendaReader", "<init>", "(LTeaCabinet$Text;LTeaCabinet$Votes;)V"⟩ prog_2_method_1_code 3 (none) ∈ lw_tbl := sm_in2 (i := 33) rfl
theorem ww106 : Jvm.Cond.initialized "TeaCabinet$AgendaReader" ∈ lw_tbl := sm_in1 (i := 8) rfl
theorem ww370 : Jvm.Cond.instanceMethod ⟨"TeaCabinet$AgendaReader", "<init>", "(LTeaCabinet$Text;LTeaCabinet$Votes;)V"⟩ ∈ lw_tbl := sm_in2 (i := 32) rfl
theorem mw7 : sm_PW mm7 := ⟨ww371, ww106, rfl, plainFor_of_name sm_pn1, ⟨sm_ne1, sm_pd25⟩, (fun h => absurd h (by decide)), (fun h => absurd h (by decide)), (fun _ => ⟨ww370, rfl, rfl⟩)⟩
theorem ww384 : Jvm.Cond.code ⟨"TeaCabinet$Service", "<init>", "(LTeaCabinet$Law;)V"⟩ prog_5_method_1_code 2 (none) ∈ lw_tbl := sm_in2 (i := 46) rfl
theorem ww107 : Jvm.Cond.initialized "TeaCabinet$Service" ∈ lw_tbl := sm_in1 (i := 9) rfl
theorem ww383 : Jvm.Cond.instanceMethod ⟨"TeaCabinet$Service", "<init>", "(LTeaCabinet$Law;)V"⟩ ∈ lw_tbl := sm_in2 (i := 45) rfl
theorem mw8 : sm_PW mm8 := ⟨ww384, ww107, rfl, plainFor_of_name sm_pn4, ⟨sm_ne4, sm_pd16⟩, (fun h => absurd h (by decide)), (fun h => absurd h (by decide)), (fun _ => ⟨ww383, rfl, rfl⟩)⟩
theorem ww441 : Jvm.Cond.code ⟨"TeaCabinet", "measures", "(I)Z"⟩ prog_1_method_2_code 2 (some .boolean) ∈ lw_tbl := sm_in2 (i := 103) rfl
theorem ww439 : Jvm.Cond.instanceMethod ⟨"TeaCabinet", "measures", "(I)Z"⟩ ∈ lw_tbl := sm_in2 (i := 101) rfl
theorem ww440 : Jvm.Cond.selects "TeaCabinet" ⟨"TeaCabinet", "measures", "(I)Z"⟩ ⟨"TeaCabinet", "measures", "(I)Z"⟩ ∈ lw_tbl := sm_in2 (i := 102) rfl
theorem mw9 : sm_PW mm9 := ⟨ww441, ww99, rfl, plainFor_of_name sm_pn0, ⟨sm_ne0, sm_pd6⟩, (fun h => absurd h (by decide)), (fun _ => ⟨ww439, ww440⟩), (fun h => absurd h (by decide))⟩
theorem ww444 : Jvm.Cond.code ⟨"TeaCabinet", "within", "(III)Z"⟩ prog_1_method_38_code 3 (some .boolean) ∈ lw_tbl := sm_in2 (i := 106) rfl
theorem ww443 : Jvm.Cond.static ⟨"TeaCabinet", "within", "(III)Z"⟩ ∈ lw_tbl := sm_in2 (i := 105) rfl
theorem mw10 : sm_PW mm10 := ⟨ww444, ww99, rfl, plainFor_of_name sm_pn0, ⟨sm_ne0, sm_pd12⟩, (fun _ => ww443), (fun h => absurd h (by decide)), (fun h => absurd h (by decide))⟩
theorem ww447 : Jvm.Cond.code ⟨"java/util/Arrays", "fill", "([JJ)V"⟩ prog_19_method_101_code 5 (none) ∈ lw_tbl := sm_in2 (i := 109) rfl
theorem ww446 : Jvm.Cond.static ⟨"java/util/Arrays", "fill", "([JJ)V"⟩ ∈ lw_tbl := sm_in2 (i := 108) rfl
theorem mw11 : sm_PW mm11 := ⟨ww447, ww102, rfl, plainFor_of_name sm_pn12, ⟨sm_ne12, sm_pd30⟩, (fun _ => ww446), (fun h => absurd h (by decide)), (fun h => absurd h (by decide))⟩
theorem ww451 : Jvm.Cond.code ⟨"TeaCabinet", "guest", "(IIIII)Z"⟩ prog_1_method_3_code 7 (some .boolean) ∈ lw_tbl := sm_in2 (i := 113) rfl
theorem ww449 : Jvm.Cond.instanceMethod ⟨"TeaCabinet", "guest", "(IIIII)Z"⟩ ∈ lw_tbl := sm_in2 (i := 111) rfl
theorem ww450 : Jvm.Cond.selects "TeaCabinet" ⟨"TeaCabinet", "guest", "(IIIII)Z"⟩ ⟨"TeaCabinet", "guest", "(IIIII)Z"⟩ ∈ lw_tbl := sm_in2 (i := 112) rfl
theorem mw12 : sm_PW mm12 := ⟨ww451, ww99, rfl, plainFor_of_name sm_pn0, ⟨sm_ne0, sm_pd14⟩, (fun h => absurd h (by decide)), (fun _ => ⟨ww449, ww450⟩), (fun h => absurd h (by decide))⟩
theorem ww455 : Jvm.Cond.code ⟨"TeaCabinet$Table", "place", "(II)V"⟩ prog_6_method_6_code 3 (none) ∈ lw_tbl := sm_in2 (i := 117) rfl
theorem ww453 : Jvm.Cond.instanceMethod ⟨"TeaCabinet$Table", "place", "(II)V"⟩ ∈ lw_tbl := sm_in2 (i := 115) rfl
theorem ww454 : Jvm.Cond.selects "TeaCabinet$Table" ⟨"TeaCabinet$Table", "place", "(II)V"⟩ ⟨"TeaCabinet$Table", "place", "(II)V"⟩ ∈ lw_tbl := sm_in2 (i := 116) rfl
theorem mw13 : sm_PW mm13 := ⟨ww455, ww101, rfl, plainFor_of_name sm_pn5, ⟨sm_ne5, sm_pd8⟩, (fun h => absurd h (by decide)), (fun _ => ⟨ww453, ww454⟩), (fun h => absurd h (by decide))⟩
theorem ww459 : Jvm.Cond.code ⟨"TeaCabinet$Table", "isTold", "(I)Z"⟩ prog_6_method_3_code 2 (some .boolean) ∈ lw_tbl := sm_in2 (i := 121) rfl
theorem ww457 : Jvm.Cond.instanceMethod ⟨"TeaCabinet$Table", "isTold", "(I)Z"⟩ ∈ lw_tbl := sm_in2 (i := 119) rfl
theorem ww458 : Jvm.Cond.selects "TeaCabinet$Table" ⟨"TeaCabinet$Table", "isTold", "(I)Z"⟩ ⟨"TeaCabinet$Table", "isTold", "(I)Z"⟩ ∈ lw_tbl := sm_in2 (i := 120) rfl
theorem mw14 : sm_PW mm14 := ⟨ww459, ww101, rfl, plainFor_of_name sm_pn5, ⟨sm_ne5, sm_pd6⟩, (fun h => absurd h (by decide)), (fun _ => ⟨ww457, ww458⟩), (fun h => absurd h (by decide))⟩
theorem ww463 : Jvm.Cond.code ⟨"TeaCabinet", "pot", "(II)Z"⟩ prog_1_method_4_code 3 (some .boolean) ∈ lw_tbl := sm_in2 (i := 125) rfl
theorem ww461 : Jvm.Cond.instanceMethod ⟨"TeaCabinet", "pot", "(II)Z"⟩ ∈ lw_tbl := sm_in2 (i := 123) rfl
theorem ww462 : Jvm.Cond.selects "TeaCabinet" ⟨"TeaCabinet", "pot", "(II)Z"⟩ ⟨"TeaCabinet", "pot", "(II)Z"⟩ ∈ lw_tbl := sm_in2 (i := 124) rfl
theorem mw15 : sm_PW mm15 := ⟨ww463, ww99, rfl, plainFor_of_name sm_pn0, ⟨sm_ne0, sm_pd9⟩, (fun h => absurd h (by decide)), (fun _ => ⟨ww461, ww462⟩), (fun h => absurd h (by decide))⟩
theorem ww467 : Jvm.Cond.code ⟨"TeaCabinet", "mother", "(I)Z"⟩ prog_1_method_5_code 2 (some .boolean) ∈ lw_tbl := sm_in2 (i := 129) rfl
theorem ww465 : Jvm.Cond.instanceMethod ⟨"TeaCabinet", "mother", "(I)Z"⟩ ∈ lw_tbl := sm_in2 (i := 127) rfl
theorem ww466 : Jvm.Cond.selects "TeaCabinet" ⟨"TeaCabinet", "mother", "(I)Z"⟩ ⟨"TeaCabinet", "mother", "(I)Z"⟩ ∈ lw_tbl := sm_in2 (i := 128) rfl
theorem mw16 : sm_PW mm16 := ⟨ww467, ww99, rfl, plainFor_of_name sm_pn0, ⟨sm_ne0, sm_pd6⟩, (fun h => absurd h (by decide)), (fun _ => ⟨ww465, ww466⟩), (fun h => absurd h (by decide))⟩
theorem ww472 : Jvm.Cond.code ⟨"TeaCabinet", "feed", "(IIIII)I"⟩ prog_1_method_6_code 6 (some .int) ∈ lw_tbl := sm_in2 (i := 134) rfl
theorem ww470 : Jvm.Cond.instanceMethod ⟨"TeaCabinet", "feed", "(IIIII)I"⟩ ∈ lw_tbl := sm_in2 (i := 132) rfl
theorem ww471 : Jvm.Cond.selects "TeaCabinet" ⟨"TeaCabinet", "feed", "(IIIII)I"⟩ ⟨"TeaCabinet", "feed", "(IIIII)I"⟩ ∈ lw_tbl := sm_in2 (i := 133) rfl
theorem mw17 : sm_PW mm17 := ⟨ww472, ww99, rfl, plainFor_of_name sm_pn0, ⟨sm_ne0, sm_pd13⟩, (fun h => absurd h (by decide)), (fun _ => ⟨ww470, ww471⟩), (fun h => absurd h (by decide))⟩
theorem ww476 : Jvm.Cond.code ⟨"TeaCabinet$Text", "add", "(I)V"⟩ prog_7_method_2_code 3 (none) ∈ lw_tbl := sm_in2 (i := 138) rfl
theorem ww474 : Jvm.Cond.instanceMethod ⟨"TeaCabinet$Text", "add", "(I)V"⟩ ∈ lw_tbl := sm_in2 (i := 136) rfl
theorem ww475 : Jvm.Cond.selects "TeaCabinet$Text" ⟨"TeaCabinet$Text", "add", "(I)V"⟩ ⟨"TeaCabinet$Text", "add", "(I)V"⟩ ∈ lw_tbl := sm_in2 (i := 137) rfl
theorem mw18 : sm_PW mm18 := ⟨ww476, ww100, rfl, plainFor_of_name sm_pn6, ⟨sm_ne6, sm_pd5⟩, (fun h => absurd h (by decide)), (fun _ => ⟨ww474, ww475⟩), (fun h => absurd h (by decide))⟩
theorem ww480 : Jvm.Cond.code ⟨"TeaCabinet", "law", "(I)I"⟩ prog_1_method_7_code 3 (some .int) ∈ lw_tbl := sm_in2 (i := 142) rfl
theorem ww478 : Jvm.Cond.instanceMethod ⟨"TeaCabinet", "law", "(I)I"⟩ ∈ lw_tbl := sm_in2 (i := 140) rfl
theorem ww479 : Jvm.Cond.selects "TeaCabinet" ⟨"TeaCabinet", "law", "(I)I"⟩ ⟨"TeaCabinet", "law", "(I)I"⟩ ∈ lw_tbl := sm_in2 (i := 141) rfl
theorem mw19 : sm_PW mm19 := ⟨ww480, ww99, rfl, plainFor_of_name sm_pn0, ⟨sm_ne0, sm_pd4⟩, (fun h => absurd h (by decide)), (fun _ => ⟨ww478, ww479⟩), (fun h => absurd h (by decide))⟩
theorem ww484 : Jvm.Cond.code ⟨"TeaCabinet$Text", "has", "(III)Z"⟩ prog_7_method_3_code 4 (some .boolean) ∈ lw_tbl := sm_in2 (i := 146) rfl
theorem ww482 : Jvm.Cond.instanceMethod ⟨"TeaCabinet$Text", "has", "(III)Z"⟩ ∈ lw_tbl := sm_in2 (i := 144) rfl
theorem ww483 : Jvm.Cond.selects "TeaCabinet$Text" ⟨"TeaCabinet$Text", "has", "(III)Z"⟩ ⟨"TeaCabinet$Text", "has", "(III)Z"⟩ ∈ lw_tbl := sm_in2 (i := 145) rfl
theorem mw20 : sm_PW mm20 := ⟨ww484, ww100, rfl, plainFor_of_name sm_pn6, ⟨sm_ne6, sm_pd12⟩, (fun h => absurd h (by decide)), (fun _ => ⟨ww482, ww483⟩), (fun h => absurd h (by decide))⟩
theorem ww489 : Jvm.Cond.code ⟨"TeaCabinet$Text", "open", "(I)V"⟩ prog_7_method_4_code 2 (none) ∈ lw_tbl := sm_in2 (i := 151) rfl
theorem ww487 : Jvm.Cond.instanceMethod ⟨"TeaCabinet$Text", "open", "(I)V"⟩ ∈ lw_tbl := sm_in2 (i := 149) rfl
theorem ww488 : Jvm.Cond.selects "TeaCabinet$Text" ⟨"TeaCabinet$Text", "open", "(I)V"⟩ ⟨"TeaCabinet$Text", "open", "(I)V"⟩ ∈ lw_tbl := sm_in2 (i := 150) rfl
theorem mw21 : sm_PW mm21 := ⟨ww489, ww100, rfl, plainFor_of_name sm_pn6, ⟨sm_ne6, sm_pd5⟩, (fun h => absurd h (by decide)), (fun _ => ⟨ww487, ww488⟩), (fun h => absurd h (by decide))⟩
theorem ww493 : Jvm.Cond.code ⟨"TeaCabinet$LawReader", "readLaw", "()I"⟩ prog_4_method_2_code 2 (some .int) ∈ lw_tbl := sm_in2 (i := 155) rfl
theorem ww491 : Jvm.Cond.instanceMethod ⟨"TeaCabinet$LawReader", "readLaw", "()I"⟩ ∈ lw_tbl := sm_in2 (i := 153) rfl
theorem ww492 : Jvm.Cond.selects "TeaCabinet$LawReader" ⟨"TeaCabinet$LawReader", "readLaw", "()I"⟩ ⟨"TeaCabinet$LawReader", "readLaw", "()I"⟩ ∈ lw_tbl := sm_in2 (i := 154) rfl
theorem mw22 : sm_PW mm22 := ⟨ww493, ww105, rfl, plainFor_of_name sm_pn3, ⟨sm_ne3, sm_pd0⟩, (fun h => absurd h (by decide)), (fun _ => ⟨ww491, ww492⟩), (fun h => absurd h (by decide))⟩
theorem ww497 : Jvm.Cond.code ⟨"TeaCabinet$Text", "pass", "(I)V"⟩ prog_7_method_7_code 2 (none) ∈ lw_tbl := sm_in2 (i := 159) rfl
theorem ww495 : Jvm.Cond.instanceMethod ⟨"TeaCabinet$Text", "pass", "(I)V"⟩ ∈ lw_tbl := sm_in2 (i := 157) rfl
theorem ww496 : Jvm.Cond.selects "TeaCabinet$Text" ⟨"TeaCabinet$Text", "pass", "(I)V"⟩ ⟨"TeaCabinet$Text", "pass", "(I)V"⟩ ∈ lw_tbl := sm_in2 (i := 158) rfl
theorem mw23 : sm_PW mm23 := ⟨ww497, ww100, rfl, plainFor_of_name sm_pn6, ⟨sm_ne6, sm_pd5⟩, (fun h => absurd h (by decide)), (fun _ => ⟨ww495, ww496⟩), (fun h => absurd h (by decide))⟩
theorem ww501 : Jvm.Cond.code ⟨"TeaCabinet$Text", "sign", "()I"⟩ prog_7_method_5_code 1 (some .int) ∈ lw_tbl := sm_in2 (i := 163) rfl
theorem ww499 : Jvm.Cond.instanceMethod ⟨"TeaCabinet$Text", "sign", "()I"⟩ ∈ lw_tbl := sm_in2 (i := 161) rfl
theorem ww500 : Jvm.Cond.selects "TeaCabinet$Text" ⟨"TeaCabinet$Text", "sign", "()I"⟩ ⟨"TeaCabinet$Text", "sign", "()I"⟩ ∈ lw_tbl := sm_in2 (i := 162) rfl
theorem mw24 : sm_PW mm24 := ⟨ww501, ww100, rfl, plainFor_of_name sm_pn6, ⟨sm_ne6, sm_pd0⟩, (fun h => absurd h (by decide)), (fun _ => ⟨ww499, ww500⟩), (fun h => absurd h (by decide))⟩
theorem ww505 : Jvm.Cond.code ⟨"TeaCabinet$Text", "fail", "(I)I"⟩ prog_7_method_8_code 2 (some .int) ∈ lw_tbl := sm_in2 (i := 167) rfl
theorem ww503 : Jvm.Cond.instanceMethod ⟨"TeaCabinet$Text", "fail", "(I)I"⟩ ∈ lw_tbl := sm_in2 (i := 165) rfl
theorem ww504 : Jvm.Cond.selects "TeaCabinet$Text" ⟨"TeaCabinet$Text", "fail", "(I)I"⟩ ⟨"TeaCabinet$Text", "fail", "(I)I"⟩ ∈ lw_tbl := sm_in2 (i := 166) rfl
theorem mw25 : sm_PW mm25 := ⟨ww505, ww100, rfl, plainFor_of_name sm_pn6, ⟨sm_ne6, sm_pd4⟩, (fun h => absurd h (by decide)), (fun _ => ⟨ww503, ww504⟩), (fun h => absurd h (by decide))⟩
theorem ww509 : Jvm.Cond.code ⟨"TeaCabinet$LawReader", "readRule", "(I)V"⟩ prog_4_method_3_code 3 (none) ∈ lw_tbl := sm_in2 (i := 171) rfl
theorem ww508 : Jvm.Cond.instanceMethod ⟨"TeaCabinet$LawReader", "readRule", "(I)V"⟩ ∈ lw_tbl := sm_in2 (i := 170) rfl
theorem wp0 : Jvm.Cond.selects "TeaCabinet$LawReader" ⟨"TeaCabinet$LawReader", "readRule", "(I)V"⟩ ⟨"TeaCabinet$LawReader", "readRule", "(I)V"⟩ ∈ lw_tbl := sm_inp (i := 0) rfl
theorem mw26 : sm_PW mm26 := ⟨ww509, ww105, rfl, plainFor_of_name sm_pn3, ⟨sm_ne3, sm_pd5⟩, (fun h => absurd h (by decide)), (fun _ => ⟨ww508, wp0⟩), (fun h => absurd h (by decide))⟩
theorem ww515 : Jvm.Cond.code ⟨"TeaCabinet$LawReader", "readSum", "()V"⟩ prog_4_method_10_code 3 (none) ∈ lw_tbl := sm_in2 (i := 177) rfl
theorem ww514 : Jvm.Cond.instanceMethod ⟨"TeaCabinet$LawReader", "readSum", "()V"⟩ ∈ lw_tbl := sm_in2 (i := 176) rfl
theorem wp1 : Jvm.Cond.selects "TeaCabinet$LawReader" ⟨"TeaCabinet$LawReader", "readSum", "()V"⟩ ⟨"TeaCabinet$LawReader", "readSum", "()V"⟩ ∈ lw_tbl := sm_inp (i := 1) rfl
theorem mw27 : sm_PW mm27 := ⟨ww515, ww105, rfl, plainFor_of_name sm_pn3, ⟨sm_ne3, sm_pd2⟩, (fun h => absurd h (by decide)), (fun _ => ⟨ww514, wp1⟩), (fun h => absurd h (by decide))⟩
theorem ww519 : Jvm.Cond.code ⟨"TeaCabinet$LawReader", "readProduct", "()V"⟩ prog_4_method_11_code 3 (none) ∈ lw_tbl := sm_in2 (i := 181) rfl
theorem ww518 : Jvm.Cond.instanceMethod ⟨"TeaCabinet$LawReader", "readProduct", "()V"⟩ ∈ lw_tbl := sm_in2 (i := 180) rfl
theorem wp2 : Jvm.Cond.selects "TeaCabinet$LawReader" ⟨"TeaCabinet$LawReader", "readProduct", "()V"⟩ ⟨"TeaCabinet$LawReader", "readProduct", "()V"⟩ ∈ lw_tbl := sm_inp (i := 2) rfl
theorem mw28 : sm_PW mm28 := ⟨ww519, ww105, rfl, plainFor_of_name sm_pn3, ⟨sm_ne3, sm_pd2⟩, (fun h => absurd h (by decide)), (fun _ => ⟨ww518, wp2⟩), (fun h => absurd h (by decide))⟩
theorem ww523 : Jvm.Cond.code ⟨"TeaCabinet$LawReader", "readFactor", "()V"⟩ prog_4_method_12_code 3 (none) ∈ lw_tbl := sm_in2 (i := 185) rfl
theorem ww522 : Jvm.Cond.instanceMethod ⟨"TeaCabinet$LawReader", "readFactor", "()V"⟩ ∈ lw_tbl := sm_in2 (i := 184) rfl
theorem wp3 : Jvm.Cond.selects "TeaCabinet$LawReader" ⟨"TeaCabinet$LawReader", "readFactor", "()V"⟩ ⟨"TeaCabinet$LawReader", "readFactor", "()V"⟩ ∈ lw_tbl := sm_inp (i := 3) rfl
theorem mw29 : sm_PW mm29 := ⟨ww523, ww105, rfl, plainFor_of_name sm_pn3, ⟨sm_ne3, sm_pd2⟩, (fun h => absurd h (by decide)), (fun _ => ⟨ww522, wp3⟩), (fun h => absurd h (by decide))⟩
theorem ww527 : Jvm.Cond.code ⟨"TeaCabinet$LawReader", "opens", "(I)Z"⟩ prog_4_method_4_code 2 (some .boolean) ∈ lw_tbl := sm_in2 (i := 189) rfl
theorem ww526 : Jvm.Cond.instanceMethod ⟨"TeaCabinet$LawReader", "opens", "(I)Z"⟩ ∈ lw_tbl := sm_in2 (i := 188) rfl
theorem wp4 : Jvm.Cond.selects "TeaCabinet$LawReader" ⟨"TeaCabinet$LawReader", "opens", "(I)Z"⟩ ⟨"TeaCabinet$LawReader", "opens", "(I)Z"⟩ ∈ lw_tbl := sm_inp (i := 4) rfl
theorem mw30 : sm_PW mm30 := ⟨ww527, ww105, rfl, plainFor_of_name sm_pn3, ⟨sm_ne3, sm_pd6⟩, (fun h => absurd h (by decide)), (fun _ => ⟨ww526, wp4⟩), (fun h => absurd h (by decide))⟩
theorem ww532 : Jvm.Cond.code ⟨"TeaCabinet$LawReader", "readNumber", "()V"⟩ prog_4_method_13_code 3 (none) ∈ lw_tbl := sm_in2 (i := 194) rfl
theorem ww531 : Jvm.Cond.instanceMethod ⟨"TeaCabinet$LawReader", "readNumber", "()V"⟩ ∈ lw_tbl := sm_in2 (i := 193) rfl
theorem wp5 : Jvm.Cond.selects "TeaCabinet$LawReader" ⟨"TeaCabinet$LawReader", "readNumber", "()V"⟩ ⟨"TeaCabinet$LawReader", "readNumber", "()V"⟩ ∈ lw_tbl := sm_inp (i := 5) rfl
theorem mw31 : sm_PW mm31 := ⟨ww532, ww105, rfl, plainFor_of_name sm_pn3, ⟨sm_ne3, sm_pd2⟩, (fun h => absurd h (by decide)), (fun _ => ⟨ww531, wp5⟩), (fun h => absurd h (by decide))⟩
theorem ww536 : Jvm.Cond.code ⟨"TeaCabinet$Law", "add", "(II)I"⟩ prog_3_method_3_code 3 (some .int) ∈ lw_tbl := sm_in2 (i := 198) rfl
theorem ww534 : Jvm.Cond.instanceMethod ⟨"TeaCabinet$Law", "add", "(II)I"⟩ ∈ lw_tbl := sm_in2 (i := 196) rfl
theorem ww535 : Jvm.Cond.selects "TeaCabinet$Law" ⟨"TeaCabinet$Law", "add", "(II)I"⟩ ⟨"TeaCabinet$Law", "add", "(II)I"⟩ ∈ lw_tbl := sm_in2 (i := 197) rfl
theorem mw32 : sm_PW mm32 := ⟨ww536, ww104, rfl, plainFor_of_name sm_pn2, ⟨sm_ne2, sm_pd7⟩, (fun h => absurd h (by decide)), (fun _ => ⟨ww534, ww535⟩), (fun h => absurd h (by decide))⟩
theorem ww568 : Jvm.Cond.code ⟨"java/lang/Math", "max", "(II)I"⟩ prog_14_method_65_code 2 (some .int) ∈ lw_tbl := sm_in2 (i := 230) rfl
theorem ww111 : Jvm.Cond.initialized "java/lang/Math" ∈ lw_tbl := sm_in1 (i := 13) rfl
theorem ww567 : Jvm.Cond.static ⟨"java/lang/Math", "max", "(II)I"⟩ ∈ lw_tbl := sm_in2 (i := 229) rfl
theorem mw33 : sm_PW mm33 := ⟨ww568, ww111, rfl, sm_pf33, ⟨sm_ne11, sm_pd7⟩, (fun _ => ww567), (fun h => absurd h (by decide)), (fun h => absurd h (by decide))⟩
theorem ww571 : Jvm.Cond.code ⟨"java/lang/Math", "min", "(II)I"⟩ prog_14_method_69_code 2 (some .int) ∈ lw_tbl := sm_in2 (i := 233) rfl
theorem ww570 : Jvm.Cond.static ⟨"java/lang/Math", "min", "(II)I"⟩ ∈ lw_tbl := sm_in2 (i := 232) rfl
theorem mw34 : sm_PW mm34 := ⟨ww571, ww111, rfl, sm_pf34, ⟨sm_ne11, sm_pd7⟩, (fun _ => ww570), (fun h => absurd h (by decide)), (fun h => absurd h (by decide))⟩
theorem ww627 : Jvm.Cond.code ⟨"TeaCabinet$Text", "stands", "(II)Z"⟩ prog_7_method_6_code 4 (some .boolean) ∈ lw_tbl := sm_in3 (i := 49) rfl
theorem ww625 : Jvm.Cond.instanceMethod ⟨"TeaCabinet$Text", "stands", "(II)Z"⟩ ∈ lw_tbl := sm_in3 (i := 47) rfl
theorem ww626 : Jvm.Cond.selects "TeaCabinet$Text" ⟨"TeaCabinet$Text", "stands", "(II)Z"⟩ ⟨"TeaCabinet$Text", "stands", "(II)Z"⟩ ∈ lw_tbl := sm_in3 (i := 48) rfl
theorem mw35 : sm_PW mm35 := ⟨ww627, ww100, rfl, plainFor_of_name sm_pn6, ⟨sm_ne6, sm_pd9⟩, (fun h => absurd h (by decide)), (fun _ => ⟨ww625, ww626⟩), (fun h => absurd h (by decide))⟩
theorem ww631 : Jvm.Cond.code ⟨"TeaCabinet$LawReader", "readBracketed", "()V"⟩ prog_4_method_5_code 1 (none) ∈ lw_tbl := sm_in3 (i := 53) rfl
theorem ww630 : Jvm.Cond.instanceMethod ⟨"TeaCabinet$LawReader", "readBracketed", "()V"⟩ ∈ lw_tbl := sm_in3 (i := 52) rfl
theorem wp6 : Jvm.Cond.selects "TeaCabinet$LawReader" ⟨"TeaCabinet$LawReader", "readBracketed", "()V"⟩ ⟨"TeaCabinet$LawReader", "readBracketed", "()V"⟩ ∈ lw_tbl := sm_inp (i := 6) rfl
theorem mw36 : sm_PW mm36 := ⟨ww631, ww105, rfl, plainFor_of_name sm_pn3, ⟨sm_ne3, sm_pd2⟩, (fun h => absurd h (by decide)), (fun _ => ⟨ww630, wp6⟩), (fun h => absurd h (by decide))⟩
theorem ww635 : Jvm.Cond.code ⟨"TeaCabinet$LawReader", "readChoice", "()V"⟩ prog_4_method_6_code 3 (none) ∈ lw_tbl := sm_in3 (i := 57) rfl
theorem ww634 : Jvm.Cond.instanceMethod ⟨"TeaCabinet$LawReader", "readChoice", "()V"⟩ ∈ lw_tbl := sm_in3 (i := 56) rfl
theorem wp7 : Jvm.Cond.selects "TeaCabinet$LawReader" ⟨"TeaCabinet$LawReader", "readChoice", "()V"⟩ ⟨"TeaCabinet$LawReader", "readChoice", "()V"⟩ ∈ lw_tbl := sm_inp (i := 7) rfl
theorem mw37 : sm_PW mm37 := ⟨ww635, ww105, rfl, plainFor_of_name sm_pn3, ⟨sm_ne3, sm_pd2⟩, (fun h => absurd h (by decide)), (fun _ => ⟨ww634, wp7⟩), (fun h => absurd h (by decide))⟩
theorem ww639 : Jvm.Cond.code ⟨"TeaCabinet$LawReader", "readPart", "()V"⟩ prog_4_method_7_code 3 (none) ∈ lw_tbl := sm_in3 (i := 61) rfl
theorem ww638 : Jvm.Cond.instanceMethod ⟨"TeaCabinet$LawReader", "readPart", "()V"⟩ ∈ lw_tbl := sm_in3 (i := 60) rfl
theorem wp8 : Jvm.Cond.selects "TeaCabinet$LawReader" ⟨"TeaCabinet$LawReader", "readPart", "()V"⟩ ⟨"TeaCabinet$LawReader", "readPart", "()V"⟩ ∈ lw_tbl := sm_inp (i := 8) rfl
theorem mw38 : sm_PW mm38 := ⟨ww639, ww105, rfl, plainFor_of_name sm_pn3, ⟨sm_ne3, sm_pd2⟩, (fun h => absurd h (by decide)), (fun _ => ⟨ww638, wp8⟩), (fun h => absurd h (by decide))⟩
theorem ww643 : Jvm.Cond.code ⟨"TeaCabinet$LawReader", "readTest", "()V"⟩ prog_4_method_9_code 2 (none) ∈ lw_tbl := sm_in3 (i := 65) rfl
theorem ww642 : Jvm.Cond.instanceMethod ⟨"TeaCabinet$LawReader", "readTest", "()V"⟩ ∈ lw_tbl := sm_in3 (i := 64) rfl
theorem wp9 : Jvm.Cond.selects "TeaCabinet$LawReader" ⟨"TeaCabinet$LawReader", "readTest", "()V"⟩ ⟨"TeaCabinet$LawReader", "readTest", "()V"⟩ ∈ lw_tbl := sm_inp (i := 9) rfl
theorem mw39 : sm_PW mm39 := ⟨ww643, ww105, rfl, plainFor_of_name sm_pn3, ⟨sm_ne3, sm_pd2⟩, (fun h => absurd h (by decide)), (fun _ => ⟨ww642, wp9⟩), (fun h => absurd h (by decide))⟩
theorem ww647 : Jvm.Cond.code ⟨"TeaCabinet$LawReader", "goOnHere", "(I)V"⟩ prog_4_method_8_code 2 (none) ∈ lw_tbl := sm_in3 (i := 69) rfl
theorem ww646 : Jvm.Cond.instanceMethod ⟨"TeaCabinet$LawReader", "goOnHere", "(I)V"⟩ ∈ lw_tbl := sm_in3 (i := 68) rfl
theorem wp10 : Jvm.Cond.selects "TeaCabinet$LawReader" ⟨"TeaCabinet$LawReader", "goOnHere", "(I)V"⟩ ⟨"TeaCabinet$LawReader", "goOnHere", "(I)V"⟩ ∈ lw_tbl := sm_inp (i := 10) rfl
theorem mw40 : sm_PW mm40 := ⟨ww647, ww105, rfl, plainFor_of_name sm_pn3, ⟨sm_ne3, sm_pd5⟩, (fun h => absurd h (by decide)), (fun _ => ⟨ww646, wp10⟩), (fun h => absurd h (by decide))⟩
theorem ww651 : Jvm.Cond.code ⟨"TeaCabinet$Law", "copyFrom", "(LTeaCabinet$Law;)V"⟩ prog_3_method_2_code 2 (none) ∈ lw_tbl := sm_in3 (i := 73) rfl
theorem ww649 : Jvm.Cond.instanceMethod ⟨"TeaCabinet$Law", "copyFrom", "(LTeaCabinet$Law;)V"⟩ ∈ lw_tbl := sm_in3 (i := 71) rfl
theorem ww650 : Jvm.Cond.selects "TeaCabinet$Law" ⟨"TeaCabinet$Law", "copyFrom", "(LTeaCabinet$Law;)V"⟩ ⟨"TeaCabinet$Law", "copyFrom", "(LTeaCabinet$Law;)V"⟩ ∈ lw_tbl := sm_in3 (i := 72) rfl
theorem mw41 : sm_PW mm41 := ⟨ww651, ww104, rfl, plainFor_of_name sm_pn2, ⟨sm_ne2, sm_pd16⟩, (fun h => absurd h (by decide)), (fun _ => ⟨ww649, ww650⟩), (fun h => absurd h (by decide))⟩
theorem ww659 : Jvm.Cond.code ⟨"TeaCabinet", "ranking", "(II)I"⟩ prog_1_method_8_code 5 (some .int) ∈ lw_tbl := sm_in3 (i := 81) rfl
theorem ww657 : Jvm.Cond.instanceMethod ⟨"TeaCabinet", "ranking", "(II)I"⟩ ∈ lw_tbl := sm_in3 (i := 79) rfl
theorem ww658 : Jvm.Cond.selects "TeaCabinet" ⟨"TeaCabinet", "ranking", "(II)I"⟩ ⟨"TeaCabinet", "ranking", "(II)I"⟩ ∈ lw_tbl := sm_in3 (i := 80) rfl
theorem mw42 : sm_PW mm42 := ⟨ww659, ww99, rfl, plainFor_of_name sm_pn0, ⟨sm_ne0, sm_pd7⟩, (fun h => absurd h (by decide)), (fun _ => ⟨ww657, ww658⟩), (fun h => absurd h (by decide))⟩
theorem ww663 : Jvm.Cond.code ⟨"TeaCabinet", "readRanking", "()J"⟩ prog_1_method_40_code 7 (some .long) ∈ lw_tbl := sm_in3 (i := 85) rfl
theorem ww662 : Jvm.Cond.instanceMethod ⟨"TeaCabinet", "readRanking", "()J"⟩ ∈ lw_tbl := sm_in3 (i := 84) rfl
theorem wp11 : Jvm.Cond.selects "TeaCabinet" ⟨"TeaCabinet", "readRanking", "()J"⟩ ⟨"TeaCabinet", "readRanking", "()J"⟩ ∈ lw_tbl := sm_inp (i := 11) rfl
theorem mw43 : sm_PW mm43 := ⟨ww663, ww99, rfl, plainFor_of_name sm_pn0, ⟨sm_ne0, sm_pd1⟩, (fun h => absurd h (by decide)), (fun _ => ⟨ww662, wp11⟩), (fun h => absurd h (by decide))⟩
theorem ww669 : Jvm.Cond.code ⟨"TeaCabinet$Table", "isMeasure", "(I)Z"⟩ prog_6_method_4_code 2 (some .boolean) ∈ lw_tbl := sm_in3 (i := 91) rfl
theorem ww667 : Jvm.Cond.instanceMethod ⟨"TeaCabinet$Table", "isMeasure", "(I)Z"⟩ ∈ lw_tbl := sm_in3 (i := 89) rfl
theorem ww668 : Jvm.Cond.selects "TeaCabinet$Table" ⟨"TeaCabinet$Table", "isMeasure", "(I)Z"⟩ ⟨"TeaCabinet$Table", "isMeasure", "(I)Z"⟩ ∈ lw_tbl := sm_in3 (i := 90) rfl
theorem mw44 : sm_PW mm44 := ⟨ww669, ww101, rfl, plainFor_of_name sm_pn5, ⟨sm_ne5, sm_pd6⟩, (fun h => absurd h (by decide)), (fun _ => ⟨ww667, ww668⟩), (fun h => absurd h (by decide))⟩
theorem ww673 : Jvm.Cond.code ⟨"TeaCabinet$Table", "steps", "(I)I"⟩ prog_6_method_11_code 6 (some .int) ∈ lw_tbl := sm_in3 (i := 95) rfl
theorem ww671 : Jvm.Cond.instanceMethod ⟨"TeaCabinet$Table", "steps", "(I)I"⟩ ∈ lw_tbl := sm_in3 (i := 93) rfl
theorem ww672 : Jvm.Cond.selects "TeaCabinet$Table" ⟨"TeaCabinet$Table", "steps", "(I)I"⟩ ⟨"TeaCabinet$Table", "steps", "(I)I"⟩ ∈ lw_tbl := sm_in3 (i := 94) rfl
theorem mw45 : sm_PW mm45 := ⟨ww673, ww101, rfl, plainFor_of_name sm_pn5, ⟨sm_ne5, sm_pd4⟩, (fun h => absurd h (by decide)), (fun _ => ⟨ww671, ww672⟩), (fun h => absurd h (by decide))⟩
theorem ww677 : Jvm.Cond.code ⟨"TeaCabinet$Table", "aheadOf", "(II)I"⟩ prog_6_method_10_code 3 (some .int) ∈ lw_tbl := sm_in3 (i := 99) rfl
theorem ww675 : Jvm.Cond.instanceMethod ⟨"TeaCabinet$Table", "aheadOf", "(II)I"⟩ ∈ lw_tbl := sm_in3 (i := 97) rfl
theorem ww676 : Jvm.Cond.selects "TeaCabinet$Table" ⟨"TeaCabinet$Table", "aheadOf", "(II)I"⟩ ⟨"TeaCabinet$Table", "aheadOf", "(II)I"⟩ ∈ lw_tbl := sm_in3 (i := 98) rfl
theorem mw46 : sm_PW mm46 := ⟨ww677, ww101, rfl, plainFor_of_name sm_pn5, ⟨sm_ne5, sm_pd7⟩, (fun h => absurd h (by decide)), (fun _ => ⟨ww675, ww676⟩), (fun h => absurd h (by decide))⟩
theorem ww681 : Jvm.Cond.code ⟨"TeaCabinet", "teas", "(I)I"⟩ prog_1_method_9_code 4 (some .int) ∈ lw_tbl := sm_in3 (i := 103) rfl
theorem ww679 : Jvm.Cond.instanceMethod ⟨"TeaCabinet", "teas", "(I)I"⟩ ∈ lw_tbl := sm_in3 (i := 101) rfl
theorem ww680 : Jvm.Cond.selects "TeaCabinet" ⟨"TeaCabinet", "teas", "(I)I"⟩ ⟨"TeaCabinet", "teas", "(I)I"⟩ ∈ lw_tbl := sm_in3 (i := 102) rfl
theorem mw47 : sm_PW mm47 := ⟨ww681, ww99, rfl, plainFor_of_name sm_pn0, ⟨sm_ne0, sm_pd4⟩, (fun h => absurd h (by decide)), (fun _ => ⟨ww679, ww680⟩), (fun h => absurd h (by decide))⟩
theorem ww685 : Jvm.Cond.code ⟨"TeaCabinet$Service", "serve", "(LTeaCabinet$Table;)Z"⟩ prog_5_method_5_code 6 (some .boolean) ∈ lw_tbl := sm_in3 (i := 107) rfl
theorem ww683 : Jvm.Cond.instanceMethod ⟨"TeaCabinet$Service", "serve", "(LTeaCabinet$Table;)Z"⟩ ∈ lw_tbl := sm_in3 (i := 105) rfl
theorem ww684 : Jvm.Cond.selects "TeaCabinet$Service" ⟨"TeaCabinet$Service", "serve", "(LTeaCabinet$Table;)Z"⟩ ⟨"TeaCabinet$Service", "serve", "(LTeaCabinet$Table;)Z"⟩ ∈ lw_tbl := sm_in3 (i := 106) rfl
theorem mw48 : sm_PW mm48 := ⟨ww685, ww107, rfl, plainFor_of_name sm_pn4, ⟨sm_ne4, sm_pd19⟩, (fun h => absurd h (by decide)), (fun _ => ⟨ww683, ww684⟩), (fun h => absurd h (by decide))⟩
theorem ww689 : Jvm.Cond.code ⟨"TeaCabinet$Service", "cooling", "(LTeaCabinet$Table;)I"⟩ prog_5_method_2_code 2 (some .int) ∈ lw_tbl := sm_in3 (i := 111) rfl
theorem ww687 : Jvm.Cond.instanceMethod ⟨"TeaCabinet$Service", "cooling", "(LTeaCabinet$Table;)I"⟩ ∈ lw_tbl := sm_in3 (i := 109) rfl
theorem ww688 : Jvm.Cond.selects "TeaCabinet$Service" ⟨"TeaCabinet$Service", "cooling", "(LTeaCabinet$Table;)I"⟩ ⟨"TeaCabinet$Service", "cooling", "(LTeaCabinet$Table;)I"⟩ ∈ lw_tbl := sm_in3 (i := 110) rfl
theorem mw49 : sm_PW mm49 := ⟨ww689, ww107, rfl, plainFor_of_name sm_pn4, ⟨sm_ne4, sm_pd17⟩, (fun h => absurd h (by decide)), (fun _ => ⟨ww687, ww688⟩), (fun h => absurd h (by decide))⟩
theorem ww693 : Jvm.Cond.code ⟨"TeaCabinet$Law", "tellMother", "(LTeaCabinet$Table;)V"⟩ prog_3_method_4_code 2 (none) ∈ lw_tbl := sm_in3 (i := 115) rfl
theorem ww691 : Jvm.Cond.instanceMethod ⟨"TeaCabinet$Law", "tellMother", "(LTeaCabinet$Table;)V"⟩ ∈ lw_tbl := sm_in3 (i := 113) rfl
theorem ww692 : Jvm.Cond.selects "TeaCabinet$Law" ⟨"TeaCabinet$Law", "tellMother", "(LTeaCabinet$Table;)V"⟩ ⟨"TeaCabinet$Law", "tellMother", "(LTeaCabinet$Table;)V"⟩ ∈ lw_tbl := sm_in3 (i := 114) rfl
theorem mw50 : sm_PW mm50 := ⟨ww693, ww104, rfl, plainFor_of_name sm_pn2, ⟨sm_ne2, sm_pd18⟩, (fun h => absurd h (by decide)), (fun _ => ⟨ww691, ww692⟩), (fun h => absurd h (by decide))⟩
theorem ww697 : Jvm.Cond.code ⟨"TeaCabinet$Law", "tell", "(LTeaCabinet$Table;I)V"⟩ prog_3_method_6_code 3 (none) ∈ lw_tbl := sm_in3 (i := 119) rfl
theorem ww696 : Jvm.Cond.instanceMethod ⟨"TeaCabinet$Law", "tell", "(LTeaCabinet$Table;I)V"⟩ ∈ lw_tbl := sm_in3 (i := 118) rfl
theorem wp12 : Jvm.Cond.selects "TeaCabinet$Law" ⟨"TeaCabinet$Law", "tell", "(LTeaCabinet$Table;I)V"⟩ ⟨"TeaCabinet$Law", "tell", "(LTeaCabinet$Table;I)V"⟩ ∈ lw_tbl := sm_inp (i := 12) rfl
theorem mw51 : sm_PW mm51 := ⟨ww697, ww104, rfl, plainFor_of_name sm_pn2, ⟨sm_ne2, sm_pd21⟩, (fun h => absurd h (by decide)), (fun _ => ⟨ww696, wp12⟩), (fun h => absurd h (by decide))⟩
theorem ww701 : Jvm.Cond.code ⟨"TeaCabinet$Law", "amount", "(II)I"⟩ prog_3_method_9_code 4 (some .int) ∈ lw_tbl := sm_in3 (i := 123) rfl
theorem ww699 : Jvm.Cond.instanceMethod ⟨"TeaCabinet$Law", "amount", "(II)I"⟩ ∈ lw_tbl := sm_in3 (i := 121) rfl
theorem ww700 : Jvm.Cond.selects "TeaCabinet$Law" ⟨"TeaCabinet$Law", "amount", "(II)I"⟩ ⟨"TeaCabinet$Law", "amount", "(II)I"⟩ ∈ lw_tbl := sm_in3 (i := 122) rfl
theorem mw52 : sm_PW mm52 := ⟨ww701, ww104, rfl, plainFor_of_name sm_pn2, ⟨sm_ne2, sm_pd7⟩, (fun h => absurd h (by decide)), (fun _ => ⟨ww699, ww700⟩), (fun h => absurd h (by decide))⟩
theorem ww705 : Jvm.Cond.code ⟨"TeaCabinet$Law", "reckon", "(II)I"⟩ prog_3_method_10_code 7 (some .int) ∈ lw_tbl := sm_in3 (i := 127) rfl
theorem ww704 : Jvm.Cond.instanceMethod ⟨"TeaCabinet$Law", "reckon", "(II)I"⟩ ∈ lw_tbl := sm_in3 (i := 126) rfl
theorem wp13 : Jvm.Cond.selects "TeaCabinet$Law" ⟨"TeaCabinet$Law", "reckon", "(II)I"⟩ ⟨"TeaCabinet$Law", "reckon", "(II)I"⟩ ∈ lw_tbl := sm_inp (i := 13) rfl
theorem mw53 : sm_PW mm53 := ⟨ww705, ww104, rfl, plainFor_of_name sm_pn2, ⟨sm_ne2, sm_pd7⟩, (fun h => absurd h (by decide)), (fun _ => ⟨ww704, wp13⟩), (fun h => absurd h (by decide))⟩
theorem ww710 : Jvm.Cond.code ⟨"TeaCabinet$Law", "combine", "(III)I"⟩ prog_3_method_11_code 4 (some .int) ∈ lw_tbl := sm_in3 (i := 132) rfl
theorem ww709 : Jvm.Cond.instanceMethod ⟨"TeaCabinet$Law", "combine", "(III)I"⟩ ∈ lw_tbl := sm_in3 (i := 131) rfl
theorem wp14 : Jvm.Cond.selects "TeaCabinet$Law" ⟨"TeaCabinet$Law", "combine", "(III)I"⟩ ⟨"TeaCabinet$Law", "combine", "(III)I"⟩ ∈ lw_tbl := sm_inp (i := 14) rfl
theorem mw54 : sm_PW mm54 := ⟨ww710, ww104, rfl, plainFor_of_name sm_pn2, ⟨sm_ne2, sm_pd10⟩, (fun h => absurd h (by decide)), (fun _ => ⟨ww709, wp14⟩), (fun h => absurd h (by decide))⟩
theorem ww715 : Jvm.Cond.code ⟨"TeaCabinet$Service", "pourCups", "(LTeaCabinet$Table;I)I"⟩ prog_5_method_6_code 8 (some .int) ∈ lw_tbl := sm_in3 (i := 137) rfl
theorem ww714 : Jvm.Cond.instanceMethod ⟨"TeaCabinet$Service", "pourCups", "(LTeaCabinet$Table;I)I"⟩ ∈ lw_tbl := sm_in3 (i := 136) rfl
theorem wp15 : Jvm.Cond.selects "TeaCabinet$Service" ⟨"TeaCabinet$Service", "pourCups", "(LTeaCabinet$Table;I)I"⟩ ⟨"TeaCabinet$Service", "pourCups", "(LTeaCabinet$Table;I)I"⟩ ∈ lw_tbl := sm_inp (i := 15) rfl
theorem mw55 : sm_PW mm55 := ⟨ww715, ww107, rfl, plainFor_of_name sm_pn4, ⟨sm_ne4, sm_pd20⟩, (fun h => absurd h (by decide)), (fun _ => ⟨ww714, wp15⟩), (fun h => absurd h (by decide))⟩
theorem ww719 : Jvm.Cond.code ⟨"TeaCabinet$Service", "heatOf", "(II)I"⟩ prog_5_method_3_code 3 (some .int) ∈ lw_tbl := sm_in3 (i := 141) rfl
theorem ww717 : Jvm.Cond.instanceMethod ⟨"TeaCabinet$Service", "heatOf", "(II)I"⟩ ∈ lw_tbl := sm_in3 (i := 139) rfl
theorem ww718 : Jvm.Cond.selects "TeaCabinet$Service" ⟨"TeaCabinet$Service", "heatOf", "(II)I"⟩ ⟨"TeaCabinet$Service", "heatOf", "(II)I"⟩ ∈ lw_tbl := sm_in3 (i := 140) rfl
theorem mw56 : sm_PW mm56 := ⟨ww719, ww107, rfl, plainFor_of_name sm_pn4, ⟨sm_ne4, sm_pd7⟩, (fun h => absurd h (by decide)), (fun _ => ⟨ww717, ww718⟩), (fun h => absurd h (by decide))⟩
theorem ww725 : Jvm.Cond.code ⟨"TeaCabinet$Table", "nextLeft", "(I)I"⟩ prog_6_method_8_code 4 (some .int) ∈ lw_tbl := sm_in3 (i := 147) rfl
theorem ww723 : Jvm.Cond.instanceMethod ⟨"TeaCabinet$Table", "nextLeft", "(I)I"⟩ ∈ lw_tbl := sm_in3 (i := 145) rfl
theorem ww724 : Jvm.Cond.selects "TeaCabinet$Table" ⟨"TeaCabinet$Table", "nextLeft", "(I)I"⟩ ⟨"TeaCabinet$Table", "nextLeft", "(I)I"⟩ ∈ lw_tbl := sm_in3 (i := 146) rfl
theorem mw57 : sm_PW mm57 := ⟨ww725, ww101, rfl, plainFor_of_name sm_pn5, ⟨sm_ne5, sm_pd4⟩, (fun h => absurd h (by decide)), (fun _ => ⟨ww723, ww724⟩), (fun h => absurd h (by decide))⟩
theorem ww729 : Jvm.Cond.code ⟨"TeaCabinet$Service", "decide", "(LTeaCabinet$Table;)V"⟩ prog_5_method_7_code 3 (none) ∈ lw_tbl := sm_in3 (i := 151) rfl
theorem ww728 : Jvm.Cond.instanceMethod ⟨"TeaCabinet$Service", "decide", "(LTeaCabinet$Table;)V"⟩ ∈ lw_tbl := sm_in3 (i := 150) rfl
theorem wp16 : Jvm.Cond.selects "TeaCabinet$Service" ⟨"TeaCabinet$Service", "decide", "(LTeaCabinet$Table;)V"⟩ ⟨"TeaCabinet$Service", "decide", "(LTeaCabinet$Table;)V"⟩ ∈ lw_tbl := sm_inp (i := 16) rfl
theorem mw58 : sm_PW mm58 := ⟨ww729, ww107, rfl, plainFor_of_name sm_pn4, ⟨sm_ne4, sm_pd18⟩, (fun h => absurd h (by decide)), (fun _ => ⟨ww728, wp16⟩), (fun h => absurd h (by decide))⟩
theorem ww733 : Jvm.Cond.code ⟨"TeaCabinet$Table", "allMeasures", "()I"⟩ prog_6_method_5_code 1 (some .int) ∈ lw_tbl := sm_in3 (i := 155) rfl
theorem ww731 : Jvm.Cond.instanceMethod ⟨"TeaCabinet$Table", "allMeasures", "()I"⟩ ∈ lw_tbl := sm_in3 (i := 153) rfl
theorem ww732 : Jvm.Cond.selects "TeaCabinet$Table" ⟨"TeaCabinet$Table", "allMeasures", "()I"⟩ ⟨"TeaCabinet$Table", "allMeasures", "()I"⟩ ∈ lw_tbl := sm_in3 (i := 154) rfl
theorem mw59 : sm_PW mm59 := ⟨ww733, ww101, rfl, plainFor_of_name sm_pn5, ⟨sm_ne5, sm_pd0⟩, (fun h => absurd h (by decide)), (fun _ => ⟨ww731, ww732⟩), (fun h => absurd h (by decide))⟩
theorem ww737 : Jvm.Cond.code ⟨"TeaCabinet$Table", "favourite", "(II)I"⟩ prog_6_method_12_code 4 (some .int) ∈ lw_tbl := sm_in3 (i := 159) rfl
theorem ww735 : Jvm.Cond.instanceMethod ⟨"TeaCabinet$Table", "favourite", "(II)I"⟩ ∈ lw_tbl := sm_in3 (i := 157) rfl
theorem ww736 : Jvm.Cond.selects "TeaCabinet$Table" ⟨"TeaCabinet$Table", "favourite", "(II)I"⟩ ⟨"TeaCabinet$Table", "favourite", "(II)I"⟩ ∈ lw_tbl := sm_in3 (i := 158) rfl
theorem mw60 : sm_PW mm60 := ⟨ww737, ww101, rfl, plainFor_of_name sm_pn5, ⟨sm_ne5, sm_pd7⟩, (fun h => absurd h (by decide)), (fun _ => ⟨ww735, ww736⟩), (fun h => absurd h (by decide))⟩
theorem ww741 : Jvm.Cond.code ⟨"TeaCabinet$Service", "passPot", "(LTeaCabinet$Table;I)V"⟩ prog_5_method_8_code 7 (none) ∈ lw_tbl := sm_in3 (i := 163) rfl
theorem ww740 : Jvm.Cond.instanceMethod ⟨"TeaCabinet$Service", "passPot", "(LTeaCabinet$Table;I)V"⟩ ∈ lw_tbl := sm_in3 (i := 162) rfl
theorem wp17 : Jvm.Cond.selects "TeaCabinet$Service" ⟨"TeaCabinet$Service", "passPot", "(LTeaCabinet$Table;I)V"⟩ ⟨"TeaCabinet$Service", "passPot", "(LTeaCabinet$Table;I)V"⟩ ∈ lw_tbl := sm_inp (i := 17) rfl
theorem mw61 : sm_PW mm61 := ⟨ww741, ww107, rfl, plainFor_of_name sm_pn4, ⟨sm_ne4, sm_pd21⟩, (fun h => absurd h (by decide)), (fun _ => ⟨ww740, wp17⟩), (fun h => absurd h (by decide))⟩
theorem ww746 : Jvm.Cond.code ⟨"TeaCabinet$Law", "askedBy", "(LTeaCabinet$Table;I)I"⟩ prog_3_method_7_code 7 (some .int) ∈ lw_tbl := sm_in3 (i := 168) rfl
theorem ww744 : Jvm.Cond.instanceMethod ⟨"TeaCabinet$Law", "askedBy", "(LTeaCabinet$Table;I)I"⟩ ∈ lw_tbl := sm_in3 (i := 166) rfl
theorem ww745 : Jvm.Cond.selects "TeaCabinet$Law" ⟨"TeaCabinet$Law", "askedBy", "(LTeaCabinet$Table;I)I"⟩ ⟨"TeaCabinet$Law", "askedBy", "(LTeaCabinet$Table;I)I"⟩ ∈ lw_tbl := sm_in3 (i := 167) rfl
theorem mw62 : sm_PW mm62 := ⟨ww746, ww104, rfl, plainFor_of_name sm_pn2, ⟨sm_ne2, sm_pd20⟩, (fun h => absurd h (by decide)), (fun _ => ⟨ww744, ww745⟩), (fun h => absurd h (by decide))⟩
theorem ww751 : Jvm.Cond.code ⟨"TeaCabinet$Law", "liking", "(LTeaCabinet$Table;III)I"⟩ prog_3_method_8_code 7 (some .int) ∈ lw_tbl := sm_in3 (i := 173) rfl
theorem ww749 : Jvm.Cond.instanceMethod ⟨"TeaCabinet$Law", "liking", "(LTeaCabinet$Table;III)I"⟩ ∈ lw_tbl := sm_in3 (i := 171) rfl
theorem ww750 : Jvm.Cond.selects "TeaCabinet$Law" ⟨"TeaCabinet$Law", "liking", "(LTeaCabinet$Table;III)I"⟩ ⟨"TeaCabinet$Law", "liking", "(LTeaCabinet$Table;III)I"⟩ ∈ lw_tbl := sm_in3 (i := 172) rfl
theorem mw63 : sm_PW mm63 := ⟨ww751, ww104, rfl, plainFor_of_name sm_pn2, ⟨sm_ne2, sm_pd23⟩, (fun h => absurd h (by decide)), (fun _ => ⟨ww749, ww750⟩), (fun h => absurd h (by decide))⟩
theorem ww755 : Jvm.Cond.code ⟨"TeaCabinet$Law", "tellPair", "(LTeaCabinet$Table;II)V"⟩ prog_3_method_5_code 4 (none) ∈ lw_tbl := sm_in3 (i := 177) rfl
theorem ww754 : Jvm.Cond.instanceMethod ⟨"TeaCabinet$Law", "tellPair", "(LTeaCabinet$Table;II)V"⟩ ∈ lw_tbl := sm_in3 (i := 176) rfl
theorem wp18 : Jvm.Cond.selects "TeaCabinet$Law" ⟨"TeaCabinet$Law", "tellPair", "(LTeaCabinet$Table;II)V"⟩ ⟨"TeaCabinet$Law", "tellPair", "(LTeaCabinet$Table;II)V"⟩ ∈ lw_tbl := sm_inp (i := 18) rfl
theorem mw64 : sm_PW mm64 := ⟨ww755, ww104, rfl, plainFor_of_name sm_pn2, ⟨sm_ne2, sm_pd22⟩, (fun h => absurd h (by decide)), (fun _ => ⟨ww754, wp18⟩), (fun h => absurd h (by decide))⟩
theorem ww759 : Jvm.Cond.code ⟨"TeaCabinet$Table", "seatsLeft", "(II)I"⟩ prog_6_method_7_code 3 (some .int) ∈ lw_tbl := sm_in3 (i := 181) rfl
theorem ww757 : Jvm.Cond.instanceMethod ⟨"TeaCabinet$Table", "seatsLeft", "(II)I"⟩ ∈ lw_tbl := sm_in3 (i := 179) rfl
theorem ww758 : Jvm.Cond.selects "TeaCabinet$Table" ⟨"TeaCabinet$Table", "seatsLeft", "(II)I"⟩ ⟨"TeaCabinet$Table", "seatsLeft", "(II)I"⟩ ∈ lw_tbl := sm_in3 (i := 180) rfl
theorem mw65 : sm_PW mm65 := ⟨ww759, ww101, rfl, plainFor_of_name sm_pn5, ⟨sm_ne5, sm_pd7⟩, (fun h => absurd h (by decide)), (fun _ => ⟨ww757, ww758⟩), (fun h => absurd h (by decide))⟩
theorem ww762 : Jvm.Cond.code ⟨"java/lang/Math", "floorMod", "(II)I"⟩ prog_14_method_50_code 3 (some .int) ∈ lw_tbl := sm_in3 (i := 184) rfl
theorem ww761 : Jvm.Cond.static ⟨"java/lang/Math", "floorMod", "(II)I"⟩ ∈ lw_tbl := sm_in3 (i := 183) rfl
theorem mw66 : sm_PW mm66 := ⟨ww762, ww111, rfl, sm_pf66, ⟨sm_ne11, sm_pd7⟩, (fun _ => ww761), (fun h => absurd h (by decide)), (fun h => absurd h (by decide))⟩
theorem ww765 : Jvm.Cond.code ⟨"java/lang/Long", "bitCount", "(J)I"⟩ prog_13_method_50_code 2 (some .int) ∈ lw_tbl := sm_in3 (i := 187) rfl
theorem ww116 : Jvm.Cond.initialized "java/lang/Long" ∈ lw_tbl := sm_in1 (i := 18) rfl
theorem ww764 : Jvm.Cond.static ⟨"java/lang/Long", "bitCount", "(J)I"⟩ ∈ lw_tbl := sm_in3 (i := 186) rfl
theorem mw67 : sm_PW mm67 := ⟨ww765, ww116, rfl, plainFor_of_name sm_pn10, ⟨sm_ne10, sm_pd15⟩, (fun _ => ww764), (fun h => absurd h (by decide)), (fun h => absurd h (by decide))⟩
theorem ww773 : Jvm.Cond.code ⟨"TeaCabinet", "tried", "(II)I"⟩ prog_1_method_10_code 5 (some .int) ∈ lw_tbl := sm_in3 (i := 195) rfl
theorem ww771 : Jvm.Cond.instanceMethod ⟨"TeaCabinet", "tried", "(II)I"⟩ ∈ lw_tbl := sm_in3 (i := 193) rfl
theorem ww772 : Jvm.Cond.selects "TeaCabinet" ⟨"TeaCabinet", "tried", "(II)I"⟩ ⟨"TeaCabinet", "tried", "(II)I"⟩ ∈ lw_tbl := sm_in3 (i := 194) rfl
theorem mw68 : sm_PW mm68 := ⟨ww773, ww99, rfl, plainFor_of_name sm_pn0, ⟨sm_ne0, sm_pd7⟩, (fun h => absurd h (by decide)), (fun _ => ⟨ww771, ww772⟩), (fun h => absurd h (by decide))⟩
theorem ww777 : Jvm.Cond.code ⟨"TeaCabinet$Table", "copyFrom", "(LTeaCabinet$Table;)V"⟩ prog_6_method_2_code 2 (none) ∈ lw_tbl := sm_in3 (i := 199) rfl
theorem ww775 : Jvm.Cond.instanceMethod ⟨"TeaCabinet$Table", "copyFrom", "(LTeaCabinet$Table;)V"⟩ ∈ lw_tbl := sm_in3 (i := 197) rfl
theorem ww776 : Jvm.Cond.selects "TeaCabinet$Table" ⟨"TeaCabinet$Table", "copyFrom", "(LTeaCabinet$Table;)V"⟩ ⟨"TeaCabinet$Table", "copyFrom", "(LTeaCabinet$Table;)V"⟩ ∈ lw_tbl := sm_in3 (i := 198) rfl
theorem mw69 : sm_PW mm69 := ⟨ww777, ww101, rfl, plainFor_of_name sm_pn5, ⟨sm_ne5, sm_pd18⟩, (fun h => absurd h (by decide)), (fun _ => ⟨ww775, ww776⟩), (fun h => absurd h (by decide))⟩
theorem ww782 : Jvm.Cond.code ⟨"TeaCabinet$Table", "burns", "()I"⟩ prog_6_method_14_code 3 (some .int) ∈ lw_tbl := sm_in3 (i := 204) rfl
theorem ww780 : Jvm.Cond.instanceMethod ⟨"TeaCabinet$Table", "burns", "()I"⟩ ∈ lw_tbl := sm_in3 (i := 202) rfl
theorem ww781 : Jvm.Cond.selects "TeaCabinet$Table" ⟨"TeaCabinet$Table", "burns", "()I"⟩ ⟨"TeaCabinet$Table", "burns", "()I"⟩ ∈ lw_tbl := sm_in3 (i := 203) rfl
theorem mw70 : sm_PW mm70 := ⟨ww782, ww101, rfl, plainFor_of_name sm_pn5, ⟨sm_ne5, sm_pd0⟩, (fun h => absurd h (by decide)), (fun _ => ⟨ww780, ww781⟩), (fun h => absurd h (by decide))⟩
theorem ww786 : Jvm.Cond.code ⟨"TeaCabinet", "guestIs", "(II)I"⟩ prog_1_method_11_code 3 (some .int) ∈ lw_tbl := sm_in3 (i := 208) rfl
theorem ww784 : Jvm.Cond.instanceMethod ⟨"TeaCabinet", "guestIs", "(II)I"⟩ ∈ lw_tbl := sm_in3 (i := 206) rfl
theorem ww785 : Jvm.Cond.selects "TeaCabinet" ⟨"TeaCabinet", "guestIs", "(II)I"⟩ ⟨"TeaCabinet", "guestIs", "(II)I"⟩ ∈ lw_tbl := sm_in3 (i := 207) rfl
theorem mw71 : sm_PW mm71 := ⟨ww786, ww99, rfl, plainFor_of_name sm_pn0, ⟨sm_ne0, sm_pd7⟩, (fun h => absurd h (by decide)), (fun _ => ⟨ww784, ww785⟩), (fun h => absurd h (by decide))⟩
theorem ww791 : Jvm.Cond.code ⟨"java/lang/Integer", "bitCount", "(I)I"⟩ prog_12_method_49_code 1 (some .int) ∈ lw_tbl := sm_in3 (i := 213) rfl
theorem ww117 : Jvm.Cond.initialized "java/lang/Integer" ∈ lw_tbl := sm_in1 (i := 19) rfl
theorem ww790 : Jvm.Cond.static ⟨"java/lang/Integer", "bitCount", "(I)I"⟩ ∈ lw_tbl := sm_in3 (i := 212) rfl
theorem mw72 : sm_PW mm72 := ⟨ww791, ww117, rfl, plainFor_of_name sm_pn9, ⟨sm_ne9, sm_pd4⟩, (fun _ => ww790), (fun h => absurd h (by decide)), (fun h => absurd h (by decide))⟩
theorem ww798 : Jvm.Cond.code ⟨"TeaCabinet", "likes", "(II)I"⟩ prog_1_method_12_code 3 (some .int) ∈ lw_tbl := sm_in3 (i := 220) rfl
theorem ww796 : Jvm.Cond.instanceMethod ⟨"TeaCabinet", "likes", "(II)I"⟩ ∈ lw_tbl := sm_in3 (i := 218) rfl
theorem ww797 : Jvm.Cond.selects "TeaCabinet" ⟨"TeaCabinet", "likes", "(II)I"⟩ ⟨"TeaCabinet", "likes", "(II)I"⟩ ∈ lw_tbl := sm_in3 (i := 219) rfl
theorem mw73 : sm_PW mm73 := ⟨ww798, ww99, rfl, plainFor_of_name sm_pn0, ⟨sm_ne0, sm_pd7⟩, (fun h => absurd h (by decide)), (fun _ => ⟨ww796, ww797⟩), (fun h => absurd h (by decide))⟩
theorem ww803 : Jvm.Cond.code ⟨"TeaCabinet", "pair", "(II)I"⟩ prog_1_method_13_code 3 (some .int) ∈ lw_tbl := sm_in3 (i := 225) rfl
theorem ww801 : Jvm.Cond.instanceMethod ⟨"TeaCabinet", "pair", "(II)I"⟩ ∈ lw_tbl := sm_in3 (i := 223) rfl
theorem ww802 : Jvm.Cond.selects "TeaCabinet" ⟨"TeaCabinet", "pair", "(II)I"⟩ ⟨"TeaCabinet", "pair", "(II)I"⟩ ∈ lw_tbl := sm_in3 (i := 224) rfl
theorem mw74 : sm_PW mm74 := ⟨ww803, ww99, rfl, plainFor_of_name sm_pn0, ⟨sm_ne0, sm_pd7⟩, (fun h => absurd h (by decide)), (fun _ => ⟨ww801, ww802⟩), (fun h => absurd h (by decide))⟩
theorem ww807 : Jvm.Cond.code ⟨"TeaCabinet$Votes", "biscuitsFor", "(II)I"⟩ prog_8_method_7_code 5 (some .int) ∈ lw_tbl := sm_in3 (i := 229) rfl
theorem ww805 : Jvm.Cond.instanceMethod ⟨"TeaCabinet$Votes", "biscuitsFor", "(II)I"⟩ ∈ lw_tbl := sm_in3 (i := 227) rfl
theorem ww806 : Jvm.Cond.selects "TeaCabinet$Votes" ⟨"TeaCabinet$Votes", "biscuitsFor", "(II)I"⟩ ⟨"TeaCabinet$Votes", "biscuitsFor", "(II)I"⟩ ∈ lw_tbl := sm_in3 (i := 228) rfl
theorem mw75 : sm_PW mm75 := ⟨ww807, ww103, rfl, plainFor_of_name sm_pn7, ⟨sm_ne7, sm_pd7⟩, (fun h => absurd h (by decide)), (fun _ => ⟨ww805, ww806⟩), (fun h => absurd h (by decide))⟩
theorem ww813 : Jvm.Cond.code ⟨"TeaCabinet", "firsts", "(I)I"⟩ prog_1_method_14_code 2 (some .int) ∈ lw_tbl := sm_in3 (i := 235) rfl
theorem ww811 : Jvm.Cond.instanceMethod ⟨"TeaCabinet", "firsts", "(I)I"⟩ ∈ lw_tbl := sm_in3 (i := 233) rfl
theorem ww812 : Jvm.Cond.selects "TeaCabinet" ⟨"TeaCabinet", "firsts", "(I)I"⟩ ⟨"TeaCabinet", "firsts", "(I)I"⟩ ∈ lw_tbl := sm_in3 (i := 234) rfl
theorem mw76 : sm_PW mm76 := ⟨ww813, ww99, rfl, plainFor_of_name sm_pn0, ⟨sm_ne0, sm_pd4⟩, (fun h => absurd h (by decide)), (fun _ => ⟨ww811, ww812⟩), (fun h => absurd h (by decide))⟩
theorem ww817 : Jvm.Cond.code ⟨"TeaCabinet$Votes", "countFirsts", "()V"⟩ prog_8_method_2_code 1 (none) ∈ lw_tbl := sm_in3 (i := 239) rfl
theorem ww815 : Jvm.Cond.instanceMethod ⟨"TeaCabinet$Votes", "countFirsts", "()V"⟩ ∈ lw_tbl := sm_in3 (i := 237) rfl
theorem ww816 : Jvm.Cond.selects "TeaCabinet$Votes" ⟨"TeaCabinet$Votes", "countFirsts", "()V"⟩ ⟨"TeaCabinet$Votes", "countFirsts", "()V"⟩ ∈ lw_tbl := sm_in3 (i := 238) rfl
theorem mw77 : sm_PW mm77 := ⟨ww817, ww103, rfl, plainFor_of_name sm_pn7, ⟨sm_ne7, sm_pd2⟩, (fun h => absurd h (by decide)), (fun _ => ⟨ww815, ww816⟩), (fun h => absurd h (by decide))⟩
theorem ww822 : Jvm.Cond.code ⟨"TeaCabinet$Votes", "tallyFirsts", "(II)V"⟩ prog_8_method_3_code 6 (none) ∈ lw_tbl := sm_in4 (i := 4) rfl
theorem ww821 : Jvm.Cond.instanceMethod ⟨"TeaCabinet$Votes", "tallyFirsts", "(II)V"⟩ ∈ lw_tbl := sm_in4 (i := 3) rfl
theorem wp19 : Jvm.Cond.selects "TeaCabinet$Votes" ⟨"TeaCabinet$Votes", "tallyFirsts", "(II)V"⟩ ⟨"TeaCabinet$Votes", "tallyFirsts", "(II)V"⟩ ∈ lw_tbl := sm_inp (i := 19) rfl
theorem mw78 : sm_PW mm78 := ⟨ww822, ww103, rfl, plainFor_of_name sm_pn7, ⟨sm_ne7, sm_pd8⟩, (fun h => absurd h (by decide)), (fun _ => ⟨ww821, wp19⟩), (fun h => absurd h (by decide))⟩
theorem ww827 : Jvm.Cond.code ⟨"TeaCabinet", "most", "([I)I"⟩ prog_1_method_39_code 3 (some .int) ∈ lw_tbl := sm_in4 (i := 9) rfl
theorem ww826 : Jvm.Cond.static ⟨"TeaCabinet", "most", "([I)I"⟩ ∈ lw_tbl := sm_in4 (i := 8) rfl
theorem mw79 : sm_PW mm79 := ⟨ww827, ww99, rfl, plainFor_of_name sm_pn0, ⟨sm_ne0, sm_pd27⟩, (fun _ => ww826), (fun h => absurd h (by decide)), (fun h => absurd h (by decide))⟩
theorem ww831 : Jvm.Cond.code ⟨"TeaCabinet", "points", "(I)I"⟩ prog_1_method_15_code 2 (some .int) ∈ lw_tbl := sm_in4 (i := 13) rfl
theorem ww829 : Jvm.Cond.instanceMethod ⟨"TeaCabinet", "points", "(I)I"⟩ ∈ lw_tbl := sm_in4 (i := 11) rfl
theorem ww830 : Jvm.Cond.selects "TeaCabinet" ⟨"TeaCabinet", "points", "(I)I"⟩ ⟨"TeaCabinet", "points", "(I)I"⟩ ∈ lw_tbl := sm_in4 (i := 12) rfl
theorem mw80 : sm_PW mm80 := ⟨ww831, ww99, rfl, plainFor_of_name sm_pn0, ⟨sm_ne0, sm_pd4⟩, (fun h => absurd h (by decide)), (fun _ => ⟨ww829, ww830⟩), (fun h => absurd h (by decide))⟩
theorem ww835 : Jvm.Cond.code ⟨"TeaCabinet$Votes", "countPoints", "()V"⟩ prog_8_method_4_code 4 (none) ∈ lw_tbl := sm_in4 (i := 17) rfl
theorem ww833 : Jvm.Cond.instanceMethod ⟨"TeaCabinet$Votes", "countPoints", "()V"⟩ ∈ lw_tbl := sm_in4 (i := 15) rfl
theorem ww834 : Jvm.Cond.selects "TeaCabinet$Votes" ⟨"TeaCabinet$Votes", "countPoints", "()V"⟩ ⟨"TeaCabinet$Votes", "countPoints", "()V"⟩ ∈ lw_tbl := sm_in4 (i := 16) rfl
theorem mw81 : sm_PW mm81 := ⟨ww835, ww103, rfl, plainFor_of_name sm_pn7, ⟨sm_ne7, sm_pd2⟩, (fun h => absurd h (by decide)), (fun _ => ⟨ww833, ww834⟩), (fun h => absurd h (by decide))⟩
theorem ww840 : Jvm.Cond.code ⟨"TeaCabinet", "runOff", "(I)I"⟩ prog_1_method_16_code 3 (some .int) ∈ lw_tbl := sm_in4 (i := 22) rfl
theorem ww838 : Jvm.Cond.instanceMethod ⟨"TeaCabinet", "runOff", "(I)I"⟩ ∈ lw_tbl := sm_in4 (i := 20) rfl
theorem ww839 : Jvm.Cond.selects "TeaCabinet" ⟨"TeaCabinet", "runOff", "(I)I"⟩ ⟨"TeaCabinet", "runOff", "(I)I"⟩ ∈ lw_tbl := sm_in4 (i := 21) rfl
theorem mw82 : sm_PW mm82 := ⟨ww840, ww99, rfl, plainFor_of_name sm_pn0, ⟨sm_ne0, sm_pd4⟩, (fun h => absurd h (by decide)), (fun _ => ⟨ww838, ww839⟩), (fun h => absurd h (by decide))⟩
theorem ww844 : Jvm.Cond.code ⟨"TeaCabinet$Votes", "countRunOff", "()V"⟩ prog_8_method_5_code 3 (none) ∈ lw_tbl := sm_in4 (i := 26) rfl
theorem ww842 : Jvm.Cond.instanceMethod ⟨"TeaCabinet$Votes", "countRunOff", "()V"⟩ ∈ lw_tbl := sm_in4 (i := 24) rfl
theorem ww843 : Jvm.Cond.selects "TeaCabinet$Votes" ⟨"TeaCabinet$Votes", "countRunOff", "()V"⟩ ⟨"TeaCabinet$Votes", "countRunOff", "()V"⟩ ∈ lw_tbl := sm_in4 (i := 25) rfl
theorem mw83 : sm_PW mm83 := ⟨ww844, ww103, rfl, plainFor_of_name sm_pn7, ⟨sm_ne7, sm_pd2⟩, (fun h => absurd h (by decide)), (fun _ => ⟨ww842, ww843⟩), (fun h => absurd h (by decide))⟩
theorem ww848 : Jvm.Cond.code ⟨"TeaCabinet$Votes", "goesOut", "(III)I"⟩ prog_8_method_6_code 8 (some .int) ∈ lw_tbl := sm_in4 (i := 30) rfl
theorem ww847 : Jvm.Cond.instanceMethod ⟨"TeaCabinet$Votes", "goesOut", "(III)I"⟩ ∈ lw_tbl := sm_in4 (i := 29) rfl
theorem wp20 : Jvm.Cond.selects "TeaCabinet$Votes" ⟨"TeaCabinet$Votes", "goesOut", "(III)I"⟩ ⟨"TeaCabinet$Votes", "goesOut", "(III)I"⟩ ∈ lw_tbl := sm_inp (i := 20) rfl
theorem mw84 : sm_PW mm84 := ⟨ww848, ww103, rfl, plainFor_of_name sm_pn7, ⟨sm_ne7, sm_pd10⟩, (fun h => absurd h (by decide)), (fun _ => ⟨ww847, wp20⟩), (fun h => absurd h (by decide))⟩
theorem ww852 : Jvm.Cond.code ⟨"TeaCabinet", "best", "()I"⟩ prog_1_method_17_code 3 (some .int) ∈ lw_tbl := sm_in4 (i := 34) rfl
theorem ww850 : Jvm.Cond.instanceMethod ⟨"TeaCabinet", "best", "()I"⟩ ∈ lw_tbl := sm_in4 (i := 32) rfl
theorem ww851 : Jvm.Cond.selects "TeaCabinet" ⟨"TeaCabinet", "best", "()I"⟩ ⟨"TeaCabinet", "best", "()I"⟩ ∈ lw_tbl := sm_in4 (i := 33) rfl
theorem mw85 : sm_PW mm85 := ⟨ww852, ww99, rfl, plainFor_of_name sm_pn0, ⟨sm_ne0, sm_pd0⟩, (fun h => absurd h (by decide)), (fun _ => ⟨ww850, ww851⟩), (fun h => absurd h (by decide))⟩
theorem ww856 : Jvm.Cond.code ⟨"TeaCabinet$Votes", "weighPairs", "()V"⟩ prog_8_method_8_code 4 (none) ∈ lw_tbl := sm_in4 (i := 38) rfl
theorem ww854 : Jvm.Cond.instanceMethod ⟨"TeaCabinet$Votes", "weighPairs", "()V"⟩ ∈ lw_tbl := sm_in4 (i := 36) rfl
theorem ww855 : Jvm.Cond.selects "TeaCabinet$Votes" ⟨"TeaCabinet$Votes", "weighPairs", "()V"⟩ ⟨"TeaCabinet$Votes", "weighPairs", "()V"⟩ ∈ lw_tbl := sm_in4 (i := 37) rfl
theorem mw86 : sm_PW mm86 := ⟨ww856, ww103, rfl, plainFor_of_name sm_pn7, ⟨sm_ne7, sm_pd2⟩, (fun h => absurd h (by decide)), (fun _ => ⟨ww854, ww855⟩), (fun h => absurd h (by decide))⟩
theorem ww862 : Jvm.Cond.code ⟨"TeaCabinet", "set", "()I"⟩ prog_1_method_18_code 1 (some .int) ∈ lw_tbl := sm_in4 (i := 44) rfl
theorem ww860 : Jvm.Cond.instanceMethod ⟨"TeaCabinet", "set", "()I"⟩ ∈ lw_tbl := sm_in4 (i := 42) rfl
theorem ww861 : Jvm.Cond.selects "TeaCabinet" ⟨"TeaCabinet", "set", "()I"⟩ ⟨"TeaCabinet", "set", "()I"⟩ ∈ lw_tbl := sm_in4 (i := 43) rfl
theorem mw87 : sm_PW mm87 := ⟨ww862, ww99, rfl, plainFor_of_name sm_pn0, ⟨sm_ne0, sm_pd0⟩, (fun h => absurd h (by decide)), (fun _ => ⟨ww860, ww861⟩), (fun h => absurd h (by decide))⟩
theorem ww866 : Jvm.Cond.code ⟨"TeaCabinet$Votes", "leastBeatingSet", "()I"⟩ prog_8_method_10_code 3 (some .int) ∈ lw_tbl := sm_in4 (i := 48) rfl
theorem ww864 : Jvm.Cond.instanceMethod ⟨"TeaCabinet$Votes", "leastBeatingSet", "()I"⟩ ∈ lw_tbl := sm_in4 (i := 46) rfl
theorem ww865 : Jvm.Cond.selects "TeaCabinet$Votes" ⟨"TeaCabinet$Votes", "leastBeatingSet", "()I"⟩ ⟨"TeaCabinet$Votes", "leastBeatingSet", "()I"⟩ ∈ lw_tbl := sm_in4 (i := 47) rfl
theorem mw88 : sm_PW mm88 := ⟨ww866, ww103, rfl, plainFor_of_name sm_pn7, ⟨sm_ne7, sm_pd0⟩, (fun h => absurd h (by decide)), (fun _ => ⟨ww864, ww865⟩), (fun h => absurd h (by decide))⟩
theorem ww871 : Jvm.Cond.code ⟨"TeaCabinet$Votes", "beatsTheRest", "(I)Z"⟩ prog_8_method_11_code 4 (some .boolean) ∈ lw_tbl := sm_in4 (i := 53) rfl
theorem ww870 : Jvm.Cond.instanceMethod ⟨"TeaCabinet$Votes", "beatsTheRest", "(I)Z"⟩ ∈ lw_tbl := sm_in4 (i := 52) rfl
theorem wp21 : Jvm.Cond.selects "TeaCabinet$Votes" ⟨"TeaCabinet$Votes", "beatsTheRest", "(I)Z"⟩ ⟨"TeaCabinet$Votes", "beatsTheRest", "(I)Z"⟩ ∈ lw_tbl := sm_inp (i := 21) rfl
theorem mw89 : sm_PW mm89 := ⟨ww871, ww103, rfl, plainFor_of_name sm_pn7, ⟨sm_ne7, sm_pd6⟩, (fun h => absurd h (by decide)), (fun _ => ⟨ww870, wp21⟩), (fun h => absurd h (by decide))⟩
theorem ww875 : Jvm.Cond.code ⟨"TeaCabinet", "widest", "(II)I"⟩ prog_1_method_19_code 3 (some .int) ∈ lw_tbl := sm_in4 (i := 57) rfl
theorem ww873 : Jvm.Cond.instanceMethod ⟨"TeaCabinet", "widest", "(II)I"⟩ ∈ lw_tbl := sm_in4 (i := 55) rfl
theorem ww874 : Jvm.Cond.selects "TeaCabinet" ⟨"TeaCabinet", "widest", "(II)I"⟩ ⟨"TeaCabinet", "widest", "(II)I"⟩ ∈ lw_tbl := sm_in4 (i := 56) rfl
theorem mw90 : sm_PW mm90 := ⟨ww875, ww99, rfl, plainFor_of_name sm_pn0, ⟨sm_ne0, sm_pd7⟩, (fun h => absurd h (by decide)), (fun _ => ⟨ww873, ww874⟩), (fun h => absurd h (by decide))⟩
theorem ww879 : Jvm.Cond.code ⟨"TeaCabinet$Votes", "widenPaths", "()V"⟩ prog_8_method_12_code 5 (none) ∈ lw_tbl := sm_in4 (i := 61) rfl
theorem ww877 : Jvm.Cond.instanceMethod ⟨"TeaCabinet$Votes", "widenPaths", "()V"⟩ ∈ lw_tbl := sm_in4 (i := 59) rfl
theorem ww878 : Jvm.Cond.selects "TeaCabinet$Votes" ⟨"TeaCabinet$Votes", "widenPaths", "()V"⟩ ⟨"TeaCabinet$Votes", "widenPaths", "()V"⟩ ∈ lw_tbl := sm_in4 (i := 60) rfl
theorem mw91 : sm_PW mm91 := ⟨ww879, ww103, rfl, plainFor_of_name sm_pn7, ⟨sm_ne7, sm_pd2⟩, (fun h => absurd h (by decide)), (fun _ => ⟨ww877, ww878⟩), (fun h => absurd h (by decide))⟩
theorem ww883 : Jvm.Cond.code ⟨"TeaCabinet$Votes", "widen", "(III)V"⟩ prog_8_method_13_code 6 (none) ∈ lw_tbl := sm_in4 (i := 65) rfl
theorem ww882 : Jvm.Cond.instanceMethod ⟨"TeaCabinet$Votes", "widen", "(III)V"⟩ ∈ lw_tbl := sm_in4 (i := 64) rfl
theorem wp22 : Jvm.Cond.selects "TeaCabinet$Votes" ⟨"TeaCabinet$Votes", "widen", "(III)V"⟩ ⟨"TeaCabinet$Votes", "widen", "(III)V"⟩ ∈ lw_tbl := sm_inp (i := 22) rfl
theorem mw92 : sm_PW mm92 := ⟨ww883, ww103, rfl, plainFor_of_name sm_pn7, ⟨sm_ne7, sm_pd11⟩, (fun h => absurd h (by decide)), (fun _ => ⟨ww882, wp22⟩), (fun h => absurd h (by decide))⟩
theorem ww889 : Jvm.Cond.code ⟨"TeaCabinet", "pathWinners", "()I"⟩ prog_1_method_20_code 3 (some .int) ∈ lw_tbl := sm_in4 (i := 71) rfl
theorem ww887 : Jvm.Cond.instanceMethod ⟨"TeaCabinet", "pathWinners", "()I"⟩ ∈ lw_tbl := sm_in4 (i := 69) rfl
theorem ww888 : Jvm.Cond.selects "TeaCabinet" ⟨"TeaCabinet", "pathWinners", "()I"⟩ ⟨"TeaCabinet", "pathWinners", "()I"⟩ ∈ lw_tbl := sm_in4 (i := 70) rfl
theorem mw93 : sm_PW mm93 := ⟨ww889, ww99, rfl, plainFor_of_name sm_pn0, ⟨sm_ne0, sm_pd0⟩, (fun h => absurd h (by decide)), (fun _ => ⟨ww887, ww888⟩), (fun h => absurd h (by decide))⟩
theorem ww893 : Jvm.Cond.code ⟨"TeaCabinet$Votes", "winsPaths", "(I)Z"⟩ prog_8_method_14_code 3 (some .boolean) ∈ lw_tbl := sm_in4 (i := 75) rfl
theorem ww891 : Jvm.Cond.instanceMethod ⟨"TeaCabinet$Votes", "winsPaths", "(I)Z"⟩ ∈ lw_tbl := sm_in4 (i := 73) rfl
theorem ww892 : Jvm.Cond.selects "TeaCabinet$Votes" ⟨"TeaCabinet$Votes", "winsPaths", "(I)Z"⟩ ⟨"TeaCabinet$Votes", "winsPaths", "(I)Z"⟩ ∈ lw_tbl := sm_in4 (i := 74) rfl
theorem mw94 : sm_PW mm94 := ⟨ww893, ww103, rfl, plainFor_of_name sm_pn7, ⟨sm_ne7, sm_pd6⟩, (fun h => absurd h (by decide)), (fun _ => ⟨ww891, ww892⟩), (fun h => absurd h (by decide))⟩
theorem ww897 : Jvm.Cond.code ⟨"TeaCabinet", "agenda", "(I)I"⟩ prog_1_method_21_code 3 (some .int) ∈ lw_tbl := sm_in4 (i := 79) rfl
theorem ww895 : Jvm.Cond.instanceMethod ⟨"TeaCabinet", "agenda", "(I)I"⟩ ∈ lw_tbl := sm_in4 (i := 77) rfl
theorem ww896 : Jvm.Cond.selects "TeaCabinet" ⟨"TeaCabinet", "agenda", "(I)I"⟩ ⟨"TeaCabinet", "agenda", "(I)I"⟩ ∈ lw_tbl := sm_in4 (i := 78) rfl
theorem mw95 : sm_PW mm95 := ⟨ww897, ww99, rfl, plainFor_of_name sm_pn0, ⟨sm_ne0, sm_pd4⟩, (fun h => absurd h (by decide)), (fun _ => ⟨ww895, ww896⟩), (fun h => absurd h (by decide))⟩
theorem ww901 : Jvm.Cond.code ⟨"TeaCabinet$AgendaReader", "readAgenda", "(I)I"⟩ prog_2_method_2_code 3 (some .int) ∈ lw_tbl := sm_in4 (i := 83) rfl
theorem ww899 : Jvm.Cond.instanceMethod ⟨"TeaCabinet$AgendaReader", "readAgenda", "(I)I"⟩ ∈ lw_tbl := sm_in4 (i := 81) rfl
theorem ww900 : Jvm.Cond.selects "TeaCabinet$AgendaReader" ⟨"TeaCabinet$AgendaReader", "readAgenda", "(I)I"⟩ ⟨"TeaCabinet$AgendaReader", "readAgenda", "(I)I"⟩ ∈ lw_tbl := sm_in4 (i := 82) rfl
theorem mw96 : sm_PW mm96 := ⟨ww901, ww106, rfl, plainFor_of_name sm_pn1, ⟨sm_ne1, sm_pd4⟩, (fun h => absurd h (by decide)), (fun _ => ⟨ww899, ww900⟩), (fun h => absurd h (by decide))⟩
theorem ww905 : Jvm.Cond.code ⟨"TeaCabinet$AgendaReader", "winnerOf", "(II)I"⟩ prog_2_method_3_code 6 (some .int) ∈ lw_tbl := sm_in4 (i := 87) rfl
theorem ww904 : Jvm.Cond.instanceMethod ⟨"TeaCabinet$AgendaReader", "winnerOf", "(II)I"⟩ ∈ lw_tbl := sm_in4 (i := 86) rfl
theorem wp23 : Jvm.Cond.selects "TeaCabinet$AgendaReader" ⟨"TeaCabinet$AgendaReader", "winnerOf", "(II)I"⟩ ⟨"TeaCabinet$AgendaReader", "winnerOf", "(II)I"⟩ ∈ lw_tbl := sm_inp (i := 23) rfl
theorem mw97 : sm_PW mm97 := ⟨ww905, ww106, rfl, plainFor_of_name sm_pn1, ⟨sm_ne1, sm_pd7⟩, (fun h => absurd h (by decide)), (fun _ => ⟨ww904, wp23⟩), (fun h => absurd h (by decide))⟩
theorem ww913 : Jvm.Cond.code ⟨"TeaCabinet$Votes", "winnerOf", "(II)I"⟩ prog_8_method_9_code 3 (some .int) ∈ lw_tbl := sm_in4 (i := 95) rfl
theorem ww911 : Jvm.Cond.instanceMethod ⟨"TeaCabinet$Votes", "winnerOf", "(II)I"⟩ ∈ lw_tbl := sm_in4 (i := 93) rfl
theorem ww912 : Jvm.Cond.selects "TeaCabinet$Votes" ⟨"TeaCabinet$Votes", "winnerOf", "(II)I"⟩ ⟨"TeaCabinet$Votes", "winnerOf", "(II)I"⟩ ∈ lw_tbl := sm_in4 (i := 94) rfl
theorem mw98 : sm_PW mm98 := ⟨ww913, ww103, rfl, plainFor_of_name sm_pn7, ⟨sm_ne7, sm_pd7⟩, (fun h => absurd h (by decide)), (fun _ => ⟨ww911, ww912⟩), (fun h => absurd h (by decide))⟩
theorem ww918 : Jvm.Cond.code ⟨"TeaCabinet", "orders", "(II)I"⟩ prog_1_method_22_code 4 (some .int) ∈ lw_tbl := sm_in4 (i := 100) rfl
theorem ww916 : Jvm.Cond.instanceMethod ⟨"TeaCabinet", "orders", "(II)I"⟩ ∈ lw_tbl := sm_in4 (i := 98) rfl
theorem ww917 : Jvm.Cond.selects "TeaCabinet" ⟨"TeaCabinet", "orders", "(II)I"⟩ ⟨"TeaCabinet", "orders", "(II)I"⟩ ∈ lw_tbl := sm_in4 (i := 99) rfl
theorem mw99 : sm_PW mm99 := ⟨ww918, ww99, rfl, plainFor_of_name sm_pn0, ⟨sm_ne0, sm_pd7⟩, (fun h => absurd h (by decide)), (fun _ => ⟨ww916, ww917⟩), (fun h => absurd h (by decide))⟩
theorem ww922 : Jvm.Cond.code ⟨"TeaCabinet$Votes", "countOrders", "(I)I"⟩ prog_8_method_15_code 5 (some .int) ∈ lw_tbl := sm_in4 (i := 104) rfl
theorem ww920 : Jvm.Cond.instanceMethod ⟨"TeaCabinet$Votes", "countOrders", "(I)I"⟩ ∈ lw_tbl := sm_in4 (i := 102) rfl
theorem ww921 : Jvm.Cond.selects "TeaCabinet$Votes" ⟨"TeaCabinet$Votes", "countOrders", "(I)I"⟩ ⟨"TeaCabinet$Votes", "countOrders", "(I)I"⟩ ∈ lw_tbl := sm_in4 (i := 103) rfl
theorem mw100 : sm_PW mm100 := ⟨ww922, ww103, rfl, plainFor_of_name sm_pn7, ⟨sm_ne7, sm_pd4⟩, (fun h => absurd h (by decide)), (fun _ => ⟨ww920, ww921⟩), (fun h => absurd h (by decide))⟩
theorem ww926 : Jvm.Cond.code ⟨"TeaCabinet$Votes", "waysOn", "(II)I"⟩ prog_8_method_16_code 5 (some .int) ∈ lw_tbl := sm_in4 (i := 108) rfl
theorem ww925 : Jvm.Cond.instanceMethod ⟨"TeaCabinet$Votes", "waysOn", "(II)I"⟩ ∈ lw_tbl := sm_in4 (i := 107) rfl
theorem wp24 : Jvm.Cond.selects "TeaCabinet$Votes" ⟨"TeaCabinet$Votes", "waysOn", "(II)I"⟩ ⟨"TeaCabinet$Votes", "waysOn", "(II)I"⟩ ∈ lw_tbl := sm_inp (i := 24) rfl
theorem mw101 : sm_PW mm101 := ⟨ww926, ww103, rfl, plainFor_of_name sm_pn7, ⟨sm_ne7, sm_pd7⟩, (fun h => absurd h (by decide)), (fun _ => ⟨ww925, wp24⟩), (fun h => absurd h (by decide))⟩
theorem ww931 : Jvm.Cond.code ⟨"TeaCabinet$Votes", "findLeastOrder", "()V"⟩ prog_8_method_17_code 7 (none) ∈ lw_tbl := sm_in4 (i := 113) rfl
theorem ww929 : Jvm.Cond.instanceMethod ⟨"TeaCabinet$Votes", "findLeastOrder", "()V"⟩ ∈ lw_tbl := sm_in4 (i := 111) rfl
theorem ww930 : Jvm.Cond.selects "TeaCabinet$Votes" ⟨"TeaCabinet$Votes", "findLeastOrder", "()V"⟩ ⟨"TeaCabinet$Votes", "findLeastOrder", "()V"⟩ ∈ lw_tbl := sm_in4 (i := 112) rfl
theorem mw102 : sm_PW mm102 := ⟨ww931, ww103, rfl, plainFor_of_name sm_pn7, ⟨sm_ne7, sm_pd2⟩, (fun h => absurd h (by decide)), (fun _ => ⟨ww929, ww930⟩), (fun h => absurd h (by decide))⟩
theorem ww935 : Jvm.Cond.code ⟨"TeaCabinet", "power", "(II)I"⟩ prog_1_method_23_code 3 (some .int) ∈ lw_tbl := sm_in4 (i := 117) rfl
theorem ww933 : Jvm.Cond.instanceMethod ⟨"TeaCabinet", "power", "(II)I"⟩ ∈ lw_tbl := sm_in4 (i := 115) rfl
theorem ww934 : Jvm.Cond.selects "TeaCabinet" ⟨"TeaCabinet", "power", "(II)I"⟩ ⟨"TeaCabinet", "power", "(II)I"⟩ ∈ lw_tbl := sm_in4 (i := 116) rfl
theorem mw103 : sm_PW mm103 := ⟨ww935, ww99, rfl, plainFor_of_name sm_pn0, ⟨sm_ne0, sm_pd7⟩, (fun h => absurd h (by decide)), (fun _ => ⟨ww933, ww934⟩), (fun h => absurd h (by decide))⟩
theorem ww939 : Jvm.Cond.code ⟨"TeaCabinet$Votes", "winningSets", "()I"⟩ prog_8_method_22_code 4 (some .int) ∈ lw_tbl := sm_in4 (i := 121) rfl
theorem ww937 : Jvm.Cond.instanceMethod ⟨"TeaCabinet$Votes", "winningSets", "()I"⟩ ∈ lw_tbl := sm_in4 (i := 119) rfl
theorem ww938 : Jvm.Cond.selects "TeaCabinet$Votes" ⟨"TeaCabinet$Votes", "winningSets", "()I"⟩ ⟨"TeaCabinet$Votes", "winningSets", "()I"⟩ ∈ lw_tbl := sm_in4 (i := 120) rfl
theorem mw104 : sm_PW mm104 := ⟨ww939, ww103, rfl, plainFor_of_name sm_pn7, ⟨sm_ne7, sm_pd0⟩, (fun h => absurd h (by decide)), (fun _ => ⟨ww937, ww938⟩), (fun h => absurd h (by decide))⟩
theorem ww943 : Jvm.Cond.code ⟨"TeaCabinet$Votes", "beginSets", "()V"⟩ prog_8_method_18_code 1 (none) ∈ lw_tbl := sm_in4 (i := 125) rfl
theorem ww942 : Jvm.Cond.instanceMethod ⟨"TeaCabinet$Votes", "beginSets", "()V"⟩ ∈ lw_tbl := sm_in4 (i := 124) rfl
theorem wp25 : Jvm.Cond.selects "TeaCabinet$Votes" ⟨"TeaCabinet$Votes", "beginSets", "()V"⟩ ⟨"TeaCabinet$Votes", "beginSets", "()V"⟩ ∈ lw_tbl := sm_inp (i := 25) rfl
theorem mw105 : sm_PW mm105 := ⟨ww943, ww103, rfl, plainFor_of_name sm_pn7, ⟨sm_ne7, sm_pd2⟩, (fun h => absurd h (by decide)), (fun _ => ⟨ww942, wp25⟩), (fun h => absurd h (by decide))⟩
theorem ww947 : Jvm.Cond.code ⟨"TeaCabinet$Votes", "joinSets", "(I)V"⟩ prog_8_method_19_code 3 (none) ∈ lw_tbl := sm_in4 (i := 129) rfl
theorem ww946 : Jvm.Cond.instanceMethod ⟨"TeaCabinet$Votes", "joinSets", "(I)V"⟩ ∈ lw_tbl := sm_in4 (i := 128) rfl
theorem wp26 : Jvm.Cond.selects "TeaCabinet$Votes" ⟨"TeaCabinet$Votes", "joinSets", "(I)V"⟩ ⟨"TeaCabinet$Votes", "joinSets", "(I)V"⟩ ∈ lw_tbl := sm_inp (i := 26) rfl
theorem mw106 : sm_PW mm106 := ⟨ww947, ww103, rfl, plainFor_of_name sm_pn7, ⟨sm_ne7, sm_pd5⟩, (fun h => absurd h (by decide)), (fun _ => ⟨ww946, wp26⟩), (fun h => absurd h (by decide))⟩
theorem ww951 : Jvm.Cond.code ⟨"TeaCabinet$Table", "allBiscuits", "()I"⟩ prog_6_method_13_code 3 (some .int) ∈ lw_tbl := sm_in4 (i := 133) rfl
theorem ww949 : Jvm.Cond.instanceMethod ⟨"TeaCabinet$Table", "allBiscuits", "()I"⟩ ∈ lw_tbl := sm_in4 (i := 131) rfl
theorem ww950 : Jvm.Cond.selects "TeaCabinet$Table" ⟨"TeaCabinet$Table", "allBiscuits", "()I"⟩ ⟨"TeaCabinet$Table", "allBiscuits", "()I"⟩ ∈ lw_tbl := sm_in4 (i := 132) rfl
theorem mw107 : sm_PW mm107 := ⟨ww951, ww101, rfl, plainFor_of_name sm_pn5, ⟨sm_ne5, sm_pd0⟩, (fun h => absurd h (by decide)), (fun _ => ⟨ww949, ww950⟩), (fun h => absurd h (by decide))⟩
theorem ww955 : Jvm.Cond.code ⟨"TeaCabinet$Votes", "leastWinningSets", "()I"⟩ prog_8_method_23_code 4 (some .int) ∈ lw_tbl := sm_in4 (i := 137) rfl
theorem ww953 : Jvm.Cond.instanceMethod ⟨"TeaCabinet$Votes", "leastWinningSets", "()I"⟩ ∈ lw_tbl := sm_in4 (i := 135) rfl
theorem ww954 : Jvm.Cond.selects "TeaCabinet$Votes" ⟨"TeaCabinet$Votes", "leastWinningSets", "()I"⟩ ⟨"TeaCabinet$Votes", "leastWinningSets", "()I"⟩ ∈ lw_tbl := sm_in4 (i := 136) rfl
theorem mw108 : sm_PW mm108 := ⟨ww955, ww103, rfl, plainFor_of_name sm_pn7, ⟨sm_ne7, sm_pd0⟩, (fun h => absurd h (by decide)), (fun _ => ⟨ww953, ww954⟩), (fun h => absurd h (by decide))⟩
theorem ww959 : Jvm.Cond.code ⟨"TeaCabinet$Votes", "setsTurnedBy", "(I)I"⟩ prog_8_method_20_code 5 (some .int) ∈ lw_tbl := sm_in4 (i := 141) rfl
theorem ww958 : Jvm.Cond.instanceMethod ⟨"TeaCabinet$Votes", "setsTurnedBy", "(I)I"⟩ ∈ lw_tbl := sm_in4 (i := 140) rfl
theorem wp27 : Jvm.Cond.selects "TeaCabinet$Votes" ⟨"TeaCabinet$Votes", "setsTurnedBy", "(I)I"⟩ ⟨"TeaCabinet$Votes", "setsTurnedBy", "(I)I"⟩ ∈ lw_tbl := sm_inp (i := 27) rfl
theorem mw109 : sm_PW mm109 := ⟨ww959, ww103, rfl, plainFor_of_name sm_pn7, ⟨sm_ne7, sm_pd4⟩, (fun h => absurd h (by decide)), (fun _ => ⟨ww958, wp27⟩), (fun h => absurd h (by decide))⟩
theorem ww963 : Jvm.Cond.code ⟨"TeaCabinet$Votes", "setsSwungBy", "(I)I"⟩ prog_8_method_21_code 3 (some .int) ∈ lw_tbl := sm_in4 (i := 145) rfl
theorem ww961 : Jvm.Cond.instanceMethod ⟨"TeaCabinet$Votes", "setsSwungBy", "(I)I"⟩ ∈ lw_tbl := sm_in4 (i := 143) rfl
theorem ww962 : Jvm.Cond.selects "TeaCabinet$Votes" ⟨"TeaCabinet$Votes", "setsSwungBy", "(I)I"⟩ ⟨"TeaCabinet$Votes", "setsSwungBy", "(I)I"⟩ ∈ lw_tbl := sm_in4 (i := 144) rfl
theorem mw110 : sm_PW mm110 := ⟨ww963, ww103, rfl, plainFor_of_name sm_pn7, ⟨sm_ne7, sm_pd4⟩, (fun h => absurd h (by decide)), (fun _ => ⟨ww961, ww962⟩), (fun h => absurd h (by decide))⟩
theorem ww967 : Jvm.Cond.code ⟨"TeaCabinet", "wonOver", "(II)I"⟩ prog_1_method_24_code 4 (some .int) ∈ lw_tbl := sm_in4 (i := 149) rfl
theorem ww965 : Jvm.Cond.instanceMethod ⟨"TeaCabinet", "wonOver", "(II)I"⟩ ∈ lw_tbl := sm_in4 (i := 147) rfl
theorem ww966 : Jvm.Cond.selects "TeaCabinet" ⟨"TeaCabinet", "wonOver", "(II)I"⟩ ⟨"TeaCabinet", "wonOver", "(II)I"⟩ ∈ lw_tbl := sm_in4 (i := 148) rfl
theorem mw111 : sm_PW mm111 := ⟨ww967, ww99, rfl, plainFor_of_name sm_pn0, ⟨sm_ne0, sm_pd7⟩, (fun h => absurd h (by decide)), (fun _ => ⟨ww965, ww966⟩), (fun h => absurd h (by decide))⟩
theorem ww971 : Jvm.Cond.code ⟨"TeaCabinet$Votes", "fewestToWin", "(I)I"⟩ prog_8_method_24_code 6 (some .int) ∈ lw_tbl := sm_in4 (i := 153) rfl
theorem ww969 : Jvm.Cond.instanceMethod ⟨"TeaCabinet$Votes", "fewestToWin", "(I)I"⟩ ∈ lw_tbl := sm_in4 (i := 151) rfl
theorem ww970 : Jvm.Cond.selects "TeaCabinet$Votes" ⟨"TeaCabinet$Votes", "fewestToWin", "(I)I"⟩ ⟨"TeaCabinet$Votes", "fewestToWin", "(I)I"⟩ ∈ lw_tbl := sm_in4 (i := 152) rfl
theorem mw112 : sm_PW mm112 := ⟨ww971, ww103, rfl, plainFor_of_name sm_pn7, ⟨sm_ne7, sm_pd4⟩, (fun h => absurd h (by decide)), (fun _ => ⟨ww969, ww970⟩), (fun h => absurd h (by decide))⟩
theorem ww976 : Jvm.Cond.code ⟨"TeaCabinet$Votes", "winsWith", "(II)Z"⟩ prog_8_method_25_code 4 (some .boolean) ∈ lw_tbl := sm_in4 (i := 158) rfl
theorem ww975 : Jvm.Cond.instanceMethod ⟨"TeaCabinet$Votes", "winsWith", "(II)Z"⟩ ∈ lw_tbl := sm_in4 (i := 157) rfl
theorem wp28 : Jvm.Cond.selects "TeaCabinet$Votes" ⟨"TeaCabinet$Votes", "winsWith", "(II)Z"⟩ ⟨"TeaCabinet$Votes", "winsWith", "(II)Z"⟩ ∈ lw_tbl := sm_inp (i := 28) rfl
theorem mw113 : sm_PW mm113 := ⟨ww976, ww103, rfl, plainFor_of_name sm_pn7, ⟨sm_ne7, sm_pd9⟩, (fun h => absurd h (by decide)), (fun _ => ⟨ww975, wp28⟩), (fun h => absurd h (by decide))⟩
theorem ww980 : Jvm.Cond.code ⟨"TeaCabinet", "lie", "(II)I"⟩ prog_1_method_25_code 4 (some .int) ∈ lw_tbl := sm_in4 (i := 162) rfl
theorem ww978 : Jvm.Cond.instanceMethod ⟨"TeaCabinet", "lie", "(II)I"⟩ ∈ lw_tbl := sm_in4 (i := 160) rfl
theorem ww979 : Jvm.Cond.selects "TeaCabinet" ⟨"TeaCabinet", "lie", "(II)I"⟩ ⟨"TeaCabinet", "lie", "(II)I"⟩ ∈ lw_tbl := sm_in4 (i := 161) rfl
theorem mw114 : sm_PW mm114 := ⟨ww980, ww99, rfl, plainFor_of_name sm_pn0, ⟨sm_ne0, sm_pd7⟩, (fun h => absurd h (by decide)), (fun _ => ⟨ww978, ww979⟩), (fun h => absurd h (by decide))⟩
theorem ww984 : Jvm.Cond.code ⟨"TeaCabinet$Votes", "countLies", "(I)I"⟩ prog_8_method_26_code 5 (some .int) ∈ lw_tbl := sm_in4 (i := 166) rfl
theorem ww982 : Jvm.Cond.instanceMethod ⟨"TeaCabinet$Votes", "countLies", "(I)I"⟩ ∈ lw_tbl := sm_in4 (i := 164) rfl
theorem ww983 : Jvm.Cond.selects "TeaCabinet$Votes" ⟨"TeaCabinet$Votes", "countLies", "(I)I"⟩ ⟨"TeaCabinet$Votes", "countLies", "(I)I"⟩ ∈ lw_tbl := sm_in4 (i := 165) rfl
theorem mw115 : sm_PW mm115 := ⟨ww984, ww103, rfl, plainFor_of_name sm_pn7, ⟨sm_ne7, sm_pd4⟩, (fun h => absurd h (by decide)), (fun _ => ⟨ww982, ww983⟩), (fun h => absurd h (by decide))⟩
theorem ww989 : Jvm.Cond.code ⟨"TeaCabinet$Votes", "lastLeft", "(I)I"⟩ prog_8_method_27_code 5 (some .int) ∈ lw_tbl := sm_in4 (i := 171) rfl
theorem ww988 : Jvm.Cond.instanceMethod ⟨"TeaCabinet$Votes", "lastLeft", "(I)I"⟩ ∈ lw_tbl := sm_in4 (i := 170) rfl
theorem wp29 : Jvm.Cond.selects "TeaCabinet$Votes" ⟨"TeaCabinet$Votes", "lastLeft", "(I)I"⟩ ⟨"TeaCabinet$Votes", "lastLeft", "(I)I"⟩ ∈ lw_tbl := sm_inp (i := 29) rfl
theorem mw116 : sm_PW mm116 := ⟨ww989, ww103, rfl, plainFor_of_name sm_pn7, ⟨sm_ne7, sm_pd4⟩, (fun h => absurd h (by decide)), (fun _ => ⟨ww988, wp29⟩), (fun h => absurd h (by decide))⟩
theorem ww993 : Jvm.Cond.code ⟨"TeaCabinet$Votes", "firstInRow", "(I)I"⟩ prog_8_method_28_code 3 (some .int) ∈ lw_tbl := sm_in4 (i := 175) rfl
theorem ww992 : Jvm.Cond.instanceMethod ⟨"TeaCabinet$Votes", "firstInRow", "(I)I"⟩ ∈ lw_tbl := sm_in4 (i := 174) rfl
theorem wp30 : Jvm.Cond.selects "TeaCabinet$Votes" ⟨"TeaCabinet$Votes", "firstInRow", "(I)I"⟩ ⟨"TeaCabinet$Votes", "firstInRow", "(I)I"⟩ ∈ lw_tbl := sm_inp (i := 30) rfl
theorem mw117 : sm_PW mm117 := ⟨ww993, ww103, rfl, plainFor_of_name sm_pn7, ⟨sm_ne7, sm_pd4⟩, (fun h => absurd h (by decide)), (fun _ => ⟨ww992, wp30⟩), (fun h => absurd h (by decide))⟩
theorem ww997 : Jvm.Cond.code ⟨"TeaCabinet$Votes", "nextRow", "()Z"⟩ prog_8_method_29_code 6 (some .boolean) ∈ lw_tbl := sm_in4 (i := 179) rfl
theorem ww996 : Jvm.Cond.instanceMethod ⟨"TeaCabinet$Votes", "nextRow", "()Z"⟩ ∈ lw_tbl := sm_in4 (i := 178) rfl
theorem wp31 : Jvm.Cond.selects "TeaCabinet$Votes" ⟨"TeaCabinet$Votes", "nextRow", "()Z"⟩ ⟨"TeaCabinet$Votes", "nextRow", "()Z"⟩ ∈ lw_tbl := sm_inp (i := 31) rfl
theorem mw118 : sm_PW mm118 := ⟨ww997, ww103, rfl, plainFor_of_name sm_pn7, ⟨sm_ne7, sm_pd3⟩, (fun h => absurd h (by decide)), (fun _ => ⟨ww996, wp31⟩), (fun h => absurd h (by decide))⟩
theorem ww1001 : Jvm.Cond.code ⟨"TeaCabinet$Votes", "swapInRow", "(II)V"⟩ prog_8_method_30_code 4 (none) ∈ lw_tbl := sm_in4 (i := 183) rfl
theorem ww1000 : Jvm.Cond.instanceMethod ⟨"TeaCabinet$Votes", "swapInRow", "(II)V"⟩ ∈ lw_tbl := sm_in4 (i := 182) rfl
theorem wp32 : Jvm.Cond.selects "TeaCabinet$Votes" ⟨"TeaCabinet$Votes", "swapInRow", "(II)V"⟩ ⟨"TeaCabinet$Votes", "swapInRow", "(II)V"⟩ ∈ lw_tbl := sm_inp (i := 32) rfl
theorem mw119 : sm_PW mm119 := ⟨ww1001, ww103, rfl, plainFor_of_name sm_pn7, ⟨sm_ne7, sm_pd8⟩, (fun h => absurd h (by decide)), (fun _ => ⟨ww1000, wp32⟩), (fun h => absurd h (by decide))⟩
theorem ww1005 : Jvm.Cond.code ⟨"TeaCabinet", "sure", "(II)I"⟩ prog_1_method_26_code 4 (some .int) ∈ lw_tbl := sm_in4 (i := 187) rfl
theorem ww1003 : Jvm.Cond.instanceMethod ⟨"TeaCabinet", "sure", "(II)I"⟩ ∈ lw_tbl := sm_in4 (i := 185) rfl
theorem ww1004 : Jvm.Cond.selects "TeaCabinet" ⟨"TeaCabinet", "sure", "(II)I"⟩ ⟨"TeaCabinet", "sure", "(II)I"⟩ ∈ lw_tbl := sm_in4 (i := 186) rfl
theorem mw120 : sm_PW mm120 := ⟨ww1005, ww99, rfl, plainFor_of_name sm_pn0, ⟨sm_ne0, sm_pd7⟩, (fun h => absurd h (by decide)), (fun _ => ⟨ww1003, ww1004⟩), (fun h => absurd h (by decide))⟩
theorem ww1009 : Jvm.Cond.code ⟨"TeaCabinet$Votes", "possibleWinners", "(I)I"⟩ prog_8_method_31_code 5 (some .int) ∈ lw_tbl := sm_in4 (i := 191) rfl
theorem ww1007 : Jvm.Cond.instanceMethod ⟨"TeaCabinet$Votes", "possibleWinners", "(I)I"⟩ ∈ lw_tbl := sm_in4 (i := 189) rfl
theorem ww1008 : Jvm.Cond.selects "TeaCabinet$Votes" ⟨"TeaCabinet$Votes", "possibleWinners", "(I)I"⟩ ⟨"TeaCabinet$Votes", "possibleWinners", "(I)I"⟩ ∈ lw_tbl := sm_in4 (i := 190) rfl
theorem mw121 : sm_PW mm121 := ⟨ww1009, ww103, rfl, plainFor_of_name sm_pn7, ⟨sm_ne7, sm_pd4⟩, (fun h => absurd h (by decide)), (fun _ => ⟨ww1007, ww1008⟩), (fun h => absurd h (by decide))⟩
theorem ww1014 : Jvm.Cond.code ⟨"TeaCabinet", "cup", "(I)I"⟩ prog_1_method_27_code 4 (some .int) ∈ lw_tbl := sm_in4 (i := 196) rfl
theorem ww1012 : Jvm.Cond.instanceMethod ⟨"TeaCabinet", "cup", "(I)I"⟩ ∈ lw_tbl := sm_in4 (i := 194) rfl
theorem ww1013 : Jvm.Cond.selects "TeaCabinet" ⟨"TeaCabinet", "cup", "(I)I"⟩ ⟨"TeaCabinet", "cup", "(I)I"⟩ ∈ lw_tbl := sm_in4 (i := 195) rfl
theorem mw122 : sm_PW mm122 := ⟨ww1014, ww99, rfl, plainFor_of_name sm_pn0, ⟨sm_ne0, sm_pd4⟩, (fun h => absurd h (by decide)), (fun _ => ⟨ww1012, ww1013⟩), (fun h => absurd h (by decide))⟩
theorem ww1019 : Jvm.Cond.code ⟨"TeaCabinet$Table", "toldBetween", "(II)I"⟩ prog_6_method_9_code 6 (some .int) ∈ lw_tbl := sm_in4 (i := 201) rfl
theorem ww1017 : Jvm.Cond.instanceMethod ⟨"TeaCabinet$Table", "toldBetween", "(II)I"⟩ ∈ lw_tbl := sm_in4 (i := 199) rfl
theorem ww1018 : Jvm.Cond.selects "TeaCabinet$Table" ⟨"TeaCabinet$Table", "toldBetween", "(II)I"⟩ ⟨"TeaCabinet$Table", "toldBetween", "(II)I"⟩ ∈ lw_tbl := sm_in4 (i := 200) rfl
theorem mw123 : sm_PW mm123 := ⟨ww1019, ww101, rfl, plainFor_of_name sm_pn5, ⟨sm_ne5, sm_pd7⟩, (fun h => absurd h (by decide)), (fun _ => ⟨ww1017, ww1018⟩), (fun h => absurd h (by decide))⟩
theorem ww1025 : Jvm.Cond.code ⟨"TeaCabinet", "where", "(I)I"⟩ prog_1_method_28_code 2 (some .int) ∈ lw_tbl := sm_in4 (i := 207) rfl
theorem ww1023 : Jvm.Cond.instanceMethod ⟨"TeaCabinet", "where", "(I)I"⟩ ∈ lw_tbl := sm_in4 (i := 205) rfl
theorem ww1024 : Jvm.Cond.selects "TeaCabinet" ⟨"TeaCabinet", "where", "(I)I"⟩ ⟨"TeaCabinet", "where", "(I)I"⟩ ∈ lw_tbl := sm_in4 (i := 206) rfl
theorem mw124 : sm_PW mm124 := ⟨ww1025, ww99, rfl, plainFor_of_name sm_pn0, ⟨sm_ne0, sm_pd4⟩, (fun h => absurd h (by decide)), (fun _ => ⟨ww1023, ww1024⟩), (fun h => absurd h (by decide))⟩
theorem ww1029 : Jvm.Cond.code ⟨"TeaCabinet$Service", "bestSeat", "(LTeaCabinet$Table;I)I"⟩ prog_5_method_4_code 9 (some .int) ∈ lw_tbl := sm_in4 (i := 211) rfl
theorem ww1027 : Jvm.Cond.instanceMethod ⟨"TeaCabinet$Service", "bestSeat", "(LTeaCabinet$Table;I)I"⟩ ∈ lw_tbl := sm_in4 (i := 209) rfl
theorem ww1028 : Jvm.Cond.selects "TeaCabinet$Service" ⟨"TeaCabinet$Service", "bestSeat", "(LTeaCabinet$Table;I)I"⟩ ⟨"TeaCabinet$Service", "bestSeat", "(LTeaCabinet$Table;I)I"⟩ ∈ lw_tbl := sm_in4 (i := 210) rfl
theorem mw125 : sm_PW mm125 := ⟨ww1029, ww107, rfl, plainFor_of_name sm_pn4, ⟨sm_ne4, sm_pd20⟩, (fun h => absurd h (by decide)), (fun _ => ⟨ww1027, ww1028⟩), (fun h => absurd h (by decide))⟩
theorem ww1035 : Jvm.Cond.code ⟨"TeaCabinet", "end", "(II)I"⟩ prog_1_method_29_code 6 (some .int) ∈ lw_tbl := sm_in4 (i := 217) rfl
theorem ww1033 : Jvm.Cond.instanceMethod ⟨"TeaCabinet", "end", "(II)I"⟩ ∈ lw_tbl := sm_in4 (i := 215) rfl
theorem ww1034 : Jvm.Cond.selects "TeaCabinet" ⟨"TeaCabinet", "end", "(II)I"⟩ ⟨"TeaCabinet", "end", "(II)I"⟩ ∈ lw_tbl := sm_in4 (i := 216) rfl
theorem mw126 : sm_PW mm126 := ⟨ww1035, ww99, rfl, plainFor_of_name sm_pn0, ⟨sm_ne0, sm_pd7⟩, (fun h => absurd h (by decide)), (fun _ => ⟨ww1033, ww1034⟩), (fun h => absurd h (by decide))⟩
theorem ww1040 : Jvm.Cond.code ⟨"TeaCabinet", "left", "(II)I"⟩ prog_1_method_30_code 5 (some .int) ∈ lw_tbl := sm_in4 (i := 222) rfl
theorem ww1038 : Jvm.Cond.instanceMethod ⟨"TeaCabinet", "left", "(II)I"⟩ ∈ lw_tbl := sm_in4 (i := 220) rfl
theorem ww1039 : Jvm.Cond.selects "TeaCabinet" ⟨"TeaCabinet", "left", "(II)I"⟩ ⟨"TeaCabinet", "left", "(II)I"⟩ ∈ lw_tbl := sm_in4 (i := 221) rfl
theorem mw127 : sm_PW mm127 := ⟨ww1040, ww99, rfl, plainFor_of_name sm_pn0, ⟨sm_ne0, sm_pd7⟩, (fun h => absurd h (by decide)), (fun _ => ⟨ww1038, ww1039⟩), (fun h => absurd h (by decide))⟩
theorem ww1045 : Jvm.Cond.code ⟨"TeaCabinet", "parted", "(I)I"⟩ prog_1_method_31_code 6 (some .int) ∈ lw_tbl := sm_in4 (i := 227) rfl
theorem ww1043 : Jvm.Cond.instanceMethod ⟨"TeaCabinet", "parted", "(I)I"⟩ ∈ lw_tbl := sm_in4 (i := 225) rfl
theorem ww1044 : Jvm.Cond.selects "TeaCabinet" ⟨"TeaCabinet", "parted", "(I)I"⟩ ⟨"TeaCabinet", "parted", "(I)I"⟩ ∈ lw_tbl := sm_in4 (i := 226) rfl
theorem mw128 : sm_PW mm128 := ⟨ww1045, ww99, rfl, plainFor_of_name sm_pn0, ⟨sm_ne0, sm_pd4⟩, (fun h => absurd h (by decide)), (fun _ => ⟨ww1043, ww1044⟩), (fun h => absurd h (by decide))⟩
theorem ww1049 : Jvm.Cond.code ⟨"TeaCabinet$Table", "amountBetweenHalves", "(I)I"⟩ prog_6_method_15_code 5 (some .int) ∈ lw_tbl := sm_in4 (i := 231) rfl
theorem ww1047 : Jvm.Cond.instanceMethod ⟨"TeaCabinet$Table", "amountBetweenHalves", "(I)I"⟩ ∈ lw_tbl := sm_in4 (i := 229) rfl
theorem ww1048 : Jvm.Cond.selects "TeaCabinet$Table" ⟨"TeaCabinet$Table", "amountBetweenHalves", "(I)I"⟩ ⟨"TeaCabinet$Table", "amountBetweenHalves", "(I)I"⟩ ∈ lw_tbl := sm_in4 (i := 230) rfl
theorem mw129 : sm_PW mm129 := ⟨ww1049, ww101, rfl, plainFor_of_name sm_pn5, ⟨sm_ne5, sm_pd4⟩, (fun h => absurd h (by decide)), (fun _ => ⟨ww1047, ww1048⟩), (fun h => absurd h (by decide))⟩
theorem ww1053 : Jvm.Cond.code ⟨"java/lang/Math", "abs", "(I)I"⟩ prog_14_method_59_code 1 (some .int) ∈ lw_tbl := sm_in4 (i := 235) rfl
theorem ww1052 : Jvm.Cond.static ⟨"java/lang/Math", "abs", "(I)I"⟩ ∈ lw_tbl := sm_in4 (i := 234) rfl
theorem mw130 : sm_PW mm130 := ⟨ww1053, ww111, rfl, sm_pf130, ⟨sm_ne11, sm_pd4⟩, (fun _ => ww1052), (fun h => absurd h (by decide)), (fun h => absurd h (by decide))⟩
theorem ww1057 : Jvm.Cond.code ⟨"TeaCabinet", "alike", "(I)I"⟩ prog_1_method_32_code 2 (some .int) ∈ lw_tbl := sm_in4 (i := 239) rfl
theorem ww1055 : Jvm.Cond.instanceMethod ⟨"TeaCabinet", "alike", "(I)I"⟩ ∈ lw_tbl := sm_in4 (i := 237) rfl
theorem ww1056 : Jvm.Cond.selects "TeaCabinet" ⟨"TeaCabinet", "alike", "(I)I"⟩ ⟨"TeaCabinet", "alike", "(I)I"⟩ ∈ lw_tbl := sm_in4 (i := 238) rfl
theorem mw131 : sm_PW mm131 := ⟨ww1057, ww99, rfl, plainFor_of_name sm_pn0, ⟨sm_ne0, sm_pd4⟩, (fun h => absurd h (by decide)), (fun _ => ⟨ww1055, ww1056⟩), (fun h => absurd h (by decide))⟩
theorem ww1061 : Jvm.Cond.code ⟨"TeaCabinet$Table", "parties", "()I"⟩ prog_6_method_17_code 4 (some .int) ∈ lw_tbl := sm_in5 (i := 3) rfl
theorem ww1059 : Jvm.Cond.instanceMethod ⟨"TeaCabinet$Table", "parties", "()I"⟩ ∈ lw_tbl := sm_in5 (i := 1) rfl
theorem ww1060 : Jvm.Cond.selects "TeaCabinet$Table" ⟨"TeaCabinet$Table", "parties", "()I"⟩ ⟨"TeaCabinet$Table", "parties", "()I"⟩ ∈ lw_tbl := sm_in5 (i := 2) rfl
theorem mw132 : sm_PW mm132 := ⟨ww1061, ww101, rfl, plainFor_of_name sm_pn5, ⟨sm_ne5, sm_pd0⟩, (fun h => absurd h (by decide)), (fun _ => ⟨ww1059, ww1060⟩), (fun h => absurd h (by decide))⟩
theorem ww1065 : Jvm.Cond.code ⟨"TeaCabinet$Table", "partyOf", "(I)I"⟩ prog_6_method_16_code 4 (some .int) ∈ lw_tbl := sm_in5 (i := 7) rfl
theorem ww1063 : Jvm.Cond.instanceMethod ⟨"TeaCabinet$Table", "partyOf", "(I)I"⟩ ∈ lw_tbl := sm_in5 (i := 5) rfl
theorem ww1064 : Jvm.Cond.selects "TeaCabinet$Table" ⟨"TeaCabinet$Table", "partyOf", "(I)I"⟩ ⟨"TeaCabinet$Table", "partyOf", "(I)I"⟩ ∈ lw_tbl := sm_in5 (i := 6) rfl
theorem mw133 : sm_PW mm133 := ⟨ww1065, ww101, rfl, plainFor_of_name sm_pn5, ⟨sm_ne5, sm_pd4⟩, (fun h => absurd h (by decide)), (fun _ => ⟨ww1063, ww1064⟩), (fun h => absurd h (by decide))⟩
theorem ww1070 : Jvm.Cond.code ⟨"TeaCabinet", "seed", "(I)Z"⟩ prog_1_method_33_code 2 (some .boolean) ∈ lw_tbl := sm_in5 (i := 12) rfl
theorem ww1068 : Jvm.Cond.instanceMethod ⟨"TeaCabinet", "seed", "(I)Z"⟩ ∈ lw_tbl := sm_in5 (i := 10) rfl
theorem ww1069 : Jvm.Cond.selects "TeaCabinet" ⟨"TeaCabinet", "seed", "(I)Z"⟩ ⟨"TeaCabinet", "seed", "(I)Z"⟩ ∈ lw_tbl := sm_in5 (i := 11) rfl
theorem mw134 : sm_PW mm134 := ⟨ww1070, ww99, rfl, plainFor_of_name sm_pn0, ⟨sm_ne0, sm_pd6⟩, (fun h => absurd h (by decide)), (fun _ => ⟨ww1068, ww1069⟩), (fun h => absurd h (by decide))⟩
theorem ww1075 : Jvm.Cond.code ⟨"TeaCabinet", "keep", "()I"⟩ prog_1_method_34_code 1 (some .int) ∈ lw_tbl := sm_in5 (i := 17) rfl
theorem ww1073 : Jvm.Cond.instanceMethod ⟨"TeaCabinet", "keep", "()I"⟩ ∈ lw_tbl := sm_in5 (i := 15) rfl
theorem ww1074 : Jvm.Cond.selects "TeaCabinet" ⟨"TeaCabinet", "keep", "()I"⟩ ⟨"TeaCabinet", "keep", "()I"⟩ ∈ lw_tbl := sm_in5 (i := 16) rfl
theorem mw135 : sm_PW mm135 := ⟨ww1075, ww99, rfl, plainFor_of_name sm_pn0, ⟨sm_ne0, sm_pd0⟩, (fun h => absurd h (by decide)), (fun _ => ⟨ww1073, ww1074⟩), (fun h => absurd h (by decide))⟩
theorem ww1079 : Jvm.Cond.code ⟨"TeaCabinet", "undo", "()Z"⟩ prog_1_method_35_code 1 (some .boolean) ∈ lw_tbl := sm_in5 (i := 21) rfl
theorem ww1077 : Jvm.Cond.instanceMethod ⟨"TeaCabinet", "undo", "()Z"⟩ ∈ lw_tbl := sm_in5 (i := 19) rfl
theorem ww1078 : Jvm.Cond.selects "TeaCabinet" ⟨"TeaCabinet", "undo", "()Z"⟩ ⟨"TeaCabinet", "undo", "()Z"⟩ ∈ lw_tbl := sm_in5 (i := 20) rfl
theorem mw136 : sm_PW mm136 := ⟨ww1079, ww99, rfl, plainFor_of_name sm_pn0, ⟨sm_ne0, sm_pd3⟩, (fun h => absurd h (by decide)), (fun _ => ⟨ww1077, ww1078⟩), (fun h => absurd h (by decide))⟩
theorem ww1083 : Jvm.Cond.code ⟨"TeaCabinet", "check", "(I)I"⟩ prog_1_method_36_code 3 (some .int) ∈ lw_tbl := sm_in5 (i := 25) rfl
theorem ww1081 : Jvm.Cond.instanceMethod ⟨"TeaCabinet", "check", "(I)I"⟩ ∈ lw_tbl := sm_in5 (i := 23) rfl
theorem ww1082 : Jvm.Cond.selects "TeaCabinet" ⟨"TeaCabinet", "check", "(I)I"⟩ ⟨"TeaCabinet", "check", "(I)I"⟩ ∈ lw_tbl := sm_in5 (i := 24) rfl
theorem mw137 : sm_PW mm137 := ⟨ww1083, ww99, rfl, plainFor_of_name sm_pn0, ⟨sm_ne0, sm_pd4⟩, (fun h => absurd h (by decide)), (fun _ => ⟨ww1081, ww1082⟩), (fun h => absurd h (by decide))⟩
theorem ww1087 : Jvm.Cond.code ⟨"TeaCabinet", "count", "(I)I"⟩ prog_1_method_37_code 2 (some .int) ∈ lw_tbl := sm_in5 (i := 29) rfl
theorem ww1085 : Jvm.Cond.instanceMethod ⟨"TeaCabinet", "count", "(I)I"⟩ ∈ lw_tbl := sm_in5 (i := 27) rfl
theorem ww1086 : Jvm.Cond.selects "TeaCabinet" ⟨"TeaCabinet", "count", "(I)I"⟩ ⟨"TeaCabinet", "count", "(I)I"⟩ ∈ lw_tbl := sm_in5 (i := 28) rfl
theorem mw138 : sm_PW mm138 := ⟨ww1087, ww99, rfl, plainFor_of_name sm_pn0, ⟨sm_ne0, sm_pd4⟩, (fun h => absurd h (by decide)), (fun _ => ⟨ww1085, ww1086⟩), (fun h => absurd h (by decide))⟩
theorem ww1093 : Jvm.Cond.code ⟨"TeaCabinetModel", "<init>", "()V"⟩ prog_10_method_1_code 1 (none) ∈ lw_tbl := sm_in5 (i := 35) rfl
theorem ww108 : Jvm.Cond.initialized "TeaCabinetModel" ∈ lw_tbl := sm_in1 (i := 10) rfl
theorem ww1092 : Jvm.Cond.instanceMethod ⟨"TeaCabinetModel", "<init>", "()V"⟩ ∈ lw_tbl := sm_in5 (i := 34) rfl
theorem mw139 : sm_PW mm139 := ⟨ww1093, ww108, rfl, plainFor_of_name sm_pn8, ⟨sm_ne8, sm_pd2⟩, (fun h => absurd h (by decide)), (fun h => absurd h (by decide)), (fun _ => ⟨ww1092, rfl, rfl⟩)⟩
theorem ww1240 : Jvm.Cond.code ⟨"TeaCabinetModel", "measures", "(I)Z"⟩ prog_10_method_17_code 3 (some .boolean) ∈ lw_tbl := sm_in5 (i := 182) rfl
theorem ww1238 : Jvm.Cond.instanceMethod ⟨"TeaCabinetModel", "measures", "(I)Z"⟩ ∈ lw_tbl := sm_in5 (i := 180) rfl
theorem ww1239 : Jvm.Cond.selects "TeaCabinetModel" ⟨"TeaCabinetModel", "measures", "(I)Z"⟩ ⟨"TeaCabinetModel", "measures", "(I)Z"⟩ ∈ lw_tbl := sm_in5 (i := 181) rfl
theorem mw140 : sm_PW mm140 := ⟨ww1240, ww108, rfl, plainFor_of_name sm_pn8, ⟨sm_ne8, sm_pd6⟩, (fun h => absurd h (by decide)), (fun _ => ⟨ww1238, ww1239⟩), (fun h => absurd h (by decide))⟩
theorem ww1243 : Jvm.Cond.code ⟨"TeaCabinetModel", "in", "(III)Z"⟩ prog_10_method_2_code 3 (some .boolean) ∈ lw_tbl := sm_in5 (i := 185) rfl
theorem ww1242 : Jvm.Cond.static ⟨"TeaCabinetModel", "in", "(III)Z"⟩ ∈ lw_tbl := sm_in5 (i := 184) rfl
theorem mw141 : sm_PW mm141 := ⟨ww1243, ww108, rfl, plainFor_of_name sm_pn8, ⟨sm_ne8, sm_pd12⟩, (fun _ => ww1242), (fun h => absurd h (by decide)), (fun h => absurd h (by decide))⟩
theorem ww1247 : Jvm.Cond.code ⟨"TeaCabinetModel", "ranksNone", "(I)V"⟩ prog_10_method_16_code 3 (none) ∈ lw_tbl := sm_in5 (i := 189) rfl
theorem ww1246 : Jvm.Cond.instanceMethod ⟨"TeaCabinetModel", "ranksNone", "(I)V"⟩ ∈ lw_tbl := sm_in5 (i := 188) rfl
theorem wp33 : Jvm.Cond.selects "TeaCabinetModel" ⟨"TeaCabinetModel", "ranksNone", "(I)V"⟩ ⟨"TeaCabinetModel", "ranksNone", "(I)V"⟩ ∈ lw_tbl := sm_inp (i := 33) rfl
theorem mw142 : sm_PW mm142 := ⟨ww1247, ww108, rfl, plainFor_of_name sm_pn8, ⟨sm_ne8, sm_pd5⟩, (fun h => absurd h (by decide)), (fun _ => ⟨ww1246, wp33⟩), (fun h => absurd h (by decide))⟩
theorem ww1251 : Jvm.Cond.code ⟨"TeaCabinetModel", "guest", "(IIIII)Z"⟩ prog_10_method_18_code 6 (some .boolean) ∈ lw_tbl := sm_in5 (i := 193) rfl
theorem ww1249 : Jvm.Cond.instanceMethod ⟨"TeaCabinetModel", "guest", "(IIIII)Z"⟩ ∈ lw_tbl := sm_in5 (i := 191) rfl
theorem ww1250 : Jvm.Cond.selects "TeaCabinetModel" ⟨"TeaCabinetModel", "guest", "(IIIII)Z"⟩ ⟨"TeaCabinetModel", "guest", "(IIIII)Z"⟩ ∈ lw_tbl := sm_in5 (i := 192) rfl
theorem mw143 : sm_PW mm143 := ⟨ww1251, ww108, rfl, plainFor_of_name sm_pn8, ⟨sm_ne8, sm_pd14⟩, (fun h => absurd h (by decide)), (fun _ => ⟨ww1249, ww1250⟩), (fun h => absurd h (by decide))⟩
theorem ww1255 : Jvm.Cond.code ⟨"TeaCabinetModel", "atSeat", "(I)I"⟩ prog_10_method_13_code 3 (some .int) ∈ lw_tbl := sm_in5 (i := 197) rfl
theorem ww1254 : Jvm.Cond.instanceMethod ⟨"TeaCabinetModel", "atSeat", "(I)I"⟩ ∈ lw_tbl := sm_in5 (i := 196) rfl
theorem wp34 : Jvm.Cond.selects "TeaCabinetModel" ⟨"TeaCabinetModel", "atSeat", "(I)I"⟩ ⟨"TeaCabinetModel", "atSeat", "(I)I"⟩ ∈ lw_tbl := sm_inp (i := 34) rfl
theorem mw144 : sm_PW mm144 := ⟨ww1255, ww108, rfl, plainFor_of_name sm_pn8, ⟨sm_ne8, sm_pd4⟩, (fun h => absurd h (by decide)), (fun _ => ⟨ww1254, wp34⟩), (fun h => absurd h (by decide))⟩
theorem ww1259 : Jvm.Cond.code ⟨"TeaCabinetModel", "isGuest", "(I)Z"⟩ prog_10_method_9_code 2 (some .boolean) ∈ lw_tbl := sm_in5 (i := 201) rfl
theorem ww1258 : Jvm.Cond.instanceMethod ⟨"TeaCabinetModel", "isGuest", "(I)Z"⟩ ∈ lw_tbl := sm_in5 (i := 200) rfl
theorem wp35 : Jvm.Cond.selects "TeaCabinetModel" ⟨"TeaCabinetModel", "isGuest", "(I)Z"⟩ ⟨"TeaCabinetModel", "isGuest", "(I)Z"⟩ ∈ lw_tbl := sm_inp (i := 35) rfl
theorem mw145 : sm_PW mm145 := ⟨ww1259, ww108, rfl, plainFor_of_name sm_pn8, ⟨sm_ne8, sm_pd6⟩, (fun h => absurd h (by decide)), (fun _ => ⟨ww1258, wp35⟩), (fun h => absurd h (by decide))⟩
theorem ww1262 : Jvm.Cond.code ⟨"TeaCabinetModel", "has", "(II)Z"⟩ prog_10_method_6_code 2 (some .boolean) ∈ lw_tbl := sm_in5 (i := 204) rfl
theorem ww1261 : Jvm.Cond.static ⟨"TeaCabinetModel", "has", "(II)Z"⟩ ∈ lw_tbl := sm_in5 (i := 203) rfl
theorem mw146 : sm_PW mm146 := ⟨ww1262, ww108, rfl, plainFor_of_name sm_pn8, ⟨sm_ne8, sm_pd9⟩, (fun _ => ww1261), (fun h => absurd h (by decide)), (fun h => absurd h (by decide))⟩
theorem ww1266 : Jvm.Cond.code ⟨"TeaCabinetModel", "pot", "(II)Z"⟩ prog_10_method_19_code 3 (some .boolean) ∈ lw_tbl := sm_in5 (i := 208) rfl
theorem ww1264 : Jvm.Cond.instanceMethod ⟨"TeaCabinetModel", "pot", "(II)Z"⟩ ∈ lw_tbl := sm_in5 (i := 206) rfl
theorem ww1265 : Jvm.Cond.selects "TeaCabinetModel" ⟨"TeaCabinetModel", "pot", "(II)Z"⟩ ⟨"TeaCabinetModel", "pot", "(II)Z"⟩ ∈ lw_tbl := sm_in5 (i := 207) rfl
theorem mw147 : sm_PW mm147 := ⟨ww1266, ww108, rfl, plainFor_of_name sm_pn8, ⟨sm_ne8, sm_pd9⟩, (fun h => absurd h (by decide)), (fun _ => ⟨ww1264, ww1265⟩), (fun h => absurd h (by decide))⟩
theorem ww1270 : Jvm.Cond.code ⟨"TeaCabinetModel", "mother", "(I)Z"⟩ prog_10_method_20_code 2 (some .boolean) ∈ lw_tbl := sm_in5 (i := 212) rfl
theorem ww1268 : Jvm.Cond.instanceMethod ⟨"TeaCabinetModel", "mother", "(I)Z"⟩ ∈ lw_tbl := sm_in5 (i := 210) rfl
theorem ww1269 : Jvm.Cond.selects "TeaCabinetModel" ⟨"TeaCabinetModel", "mother", "(I)Z"⟩ ⟨"TeaCabinetModel", "mother", "(I)Z"⟩ ∈ lw_tbl := sm_in5 (i := 211) rfl
theorem mw148 : sm_PW mm148 := ⟨ww1270, ww108, rfl, plainFor_of_name sm_pn8, ⟨sm_ne8, sm_pd6⟩, (fun h => absurd h (by decide)), (fun _ => ⟨ww1268, ww1269⟩), (fun h => absurd h (by decide))⟩
theorem ww1274 : Jvm.Cond.code ⟨"TeaCabinetModel", "feed", "(IIIII)I"⟩ prog_10_method_22_code 6 (some .int) ∈ lw_tbl := sm_in5 (i := 216) rfl
theorem ww1272 : Jvm.Cond.instanceMethod ⟨"TeaCabinetModel", "feed", "(IIIII)I"⟩ ∈ lw_tbl := sm_in5 (i := 214) rfl
theorem ww1273 : Jvm.Cond.selects "TeaCabinetModel" ⟨"TeaCabinetModel", "feed", "(IIIII)I"⟩ ⟨"TeaCabinetModel", "feed", "(IIIII)I"⟩ ∈ lw_tbl := sm_in5 (i := 215) rfl
theorem mw149 : sm_PW mm149 := ⟨ww1274, ww108, rfl, plainFor_of_name sm_pn8, ⟨sm_ne8, sm_pd13⟩, (fun h => absurd h (by decide)), (fun _ => ⟨ww1272, ww1273⟩), (fun h => absurd h (by decide))⟩
theorem ww1278 : Jvm.Cond.code ⟨"TeaCabinetModel", "types", "(I)V"⟩ prog_10_method_21_code 3 (none) ∈ lw_tbl := sm_in5 (i := 220) rfl
theorem ww1277 : Jvm.Cond.instanceMethod ⟨"TeaCabinetModel", "types", "(I)V"⟩ ∈ lw_tbl := sm_in5 (i := 219) rfl
theorem wp36 : Jvm.Cond.selects "TeaCabinetModel" ⟨"TeaCabinetModel", "types", "(I)V"⟩ ⟨"TeaCabinetModel", "types", "(I)V"⟩ ∈ lw_tbl := sm_inp (i := 36) rfl
theorem mw150 : sm_PW mm150 := ⟨ww1278, ww108, rfl, plainFor_of_name sm_pn8, ⟨sm_ne8, sm_pd5⟩, (fun h => absurd h (by decide)), (fun _ => ⟨ww1277, wp36⟩), (fun h => absurd h (by decide))⟩
theorem ww1282 : Jvm.Cond.code ⟨"TeaCabinetModel", "law", "(I)I"⟩ prog_10_method_43_code 4 (some .int) ∈ lw_tbl := sm_in5 (i := 224) rfl
theorem ww1280 : Jvm.Cond.instanceMethod ⟨"TeaCabinetModel", "law", "(I)I"⟩ ∈ lw_tbl := sm_in5 (i := 222) rfl
theorem ww1281 : Jvm.Cond.selects "TeaCabinetModel" ⟨"TeaCabinetModel", "law", "(I)I"⟩ ⟨"TeaCabinetModel", "law", "(I)I"⟩ ∈ lw_tbl := sm_in5 (i := 223) rfl
theorem mw151 : sm_PW mm151 := ⟨ww1282, ww108, rfl, plainFor_of_name sm_pn8, ⟨sm_ne8, sm_pd4⟩, (fun h => absurd h (by decide)), (fun _ => ⟨ww1280, ww1281⟩), (fun h => absurd h (by decide))⟩
theorem ww1286 : Jvm.Cond.code ⟨"TeaCabinetModel", "readsRule", "()Z"⟩ prog_10_method_42_code 2 (some .boolean) ∈ lw_tbl := sm_in5 (i := 228) rfl
theorem ww1285 : Jvm.Cond.instanceMethod ⟨"TeaCabinetModel", "readsRule", "()Z"⟩ ∈ lw_tbl := sm_in5 (i := 227) rfl
theorem wp37 : Jvm.Cond.selects "TeaCabinetModel" ⟨"TeaCabinetModel", "readsRule", "()Z"⟩ ⟨"TeaCabinetModel", "readsRule", "()Z"⟩ ∈ lw_tbl := sm_inp (i := 37) rfl
theorem mw152 : sm_PW mm152 := ⟨ww1286, ww108, rfl, plainFor_of_name sm_pn8, ⟨sm_ne8, sm_pd3⟩, (fun h => absurd h (by decide)), (fun _ => ⟨ww1285, wp37⟩), (fun h => absurd h (by decide))⟩
theorem ww1290 : Jvm.Cond.code ⟨"TeaCabinetModel", "here", "()I"⟩ prog_10_method_23_code 1 (some .int) ∈ lw_tbl := sm_in5 (i := 232) rfl
theorem ww1289 : Jvm.Cond.instanceMethod ⟨"TeaCabinetModel", "here", "()I"⟩ ∈ lw_tbl := sm_in5 (i := 231) rfl
theorem wp38 : Jvm.Cond.selects "TeaCabinetModel" ⟨"TeaCabinetModel", "here", "()I"⟩ ⟨"TeaCabinetModel", "here", "()I"⟩ ∈ lw_tbl := sm_inp (i := 38) rfl
theorem mw153 : sm_PW mm153 := ⟨ww1290, ww108, rfl, plainFor_of_name sm_pn8, ⟨sm_ne8, sm_pd0⟩, (fun h => absurd h (by decide)), (fun _ => ⟨ww1289, wp38⟩), (fun h => absurd h (by decide))⟩
theorem ww1294 : Jvm.Cond.code ⟨"TeaCabinetModel", "wrongAt", "(II)Z"⟩ prog_10_method_25_code 3 (some .boolean) ∈ lw_tbl := sm_in5 (i := 236) rfl
theorem ww1293 : Jvm.Cond.instanceMethod ⟨"TeaCabinetModel", "wrongAt", "(II)Z"⟩ ∈ lw_tbl := sm_in5 (i := 235) rfl
theorem wp39 : Jvm.Cond.selects "TeaCabinetModel" ⟨"TeaCabinetModel", "wrongAt", "(II)Z"⟩ ⟨"TeaCabinetModel", "wrongAt", "(II)Z"⟩ ∈ lw_tbl := sm_inp (i := 39) rfl
theorem mw154 : sm_PW mm154 := ⟨ww1294, ww108, rfl, plainFor_of_name sm_pn8, ⟨sm_ne8, sm_pd9⟩, (fun h => absurd h (by decide)), (fun _ => ⟨ww1293, wp39⟩), (fun h => absurd h (by decide))⟩
theorem ww1298 : Jvm.Cond.code ⟨"TeaCabinetModel", "readsSum", "()Z"⟩ prog_10_method_36_code 3 (some .boolean) ∈ lw_tbl := sm_in6 (i := 0) rfl
theorem ww1297 : Jvm.Cond.instanceMethod ⟨"TeaCabinetModel", "readsSum", "()Z"⟩ ∈ lw_tbl := sm_in5 (i := 239) rfl
theorem wp40 : Jvm.Cond.selects "TeaCabinetModel" ⟨"TeaCabinetModel", "readsSum", "()Z"⟩ ⟨"TeaCabinetModel", "readsSum", "()Z"⟩ ∈ lw_tbl := sm_inp (i := 40) rfl
theorem mw155 : sm_PW mm155 := ⟨ww1298, ww108, rfl, plainFor_of_name sm_pn8, ⟨sm_ne8, sm_pd3⟩, (fun h => absurd h (by decide)), (fun _ => ⟨ww1297, wp40⟩), (fun h => absurd h (by decide))⟩
theorem ww1302 : Jvm.Cond.code ⟨"TeaCabinetModel", "readsFactor", "()Z"⟩ prog_10_method_34_code 2 (some .boolean) ∈ lw_tbl := sm_in6 (i := 4) rfl
theorem ww1301 : Jvm.Cond.instanceMethod ⟨"TeaCabinetModel", "readsFactor", "()Z"⟩ ∈ lw_tbl := sm_in6 (i := 3) rfl
theorem wp41 : Jvm.Cond.selects "TeaCabinetModel" ⟨"TeaCabinetModel", "readsFactor", "()Z"⟩ ⟨"TeaCabinetModel", "readsFactor", "()Z"⟩ ∈ lw_tbl := sm_inp (i := 41) rfl
theorem mw156 : sm_PW mm156 := ⟨ww1302, ww108, rfl, plainFor_of_name sm_pn8, ⟨sm_ne8, sm_pd3⟩, (fun h => absurd h (by decide)), (fun _ => ⟨ww1301, wp41⟩), (fun h => absurd h (by decide))⟩
theorem ww1306 : Jvm.Cond.code ⟨"TeaCabinetModel", "opens", "(I)Z"⟩ prog_10_method_29_code 2 (some .boolean) ∈ lw_tbl := sm_in6 (i := 8) rfl
theorem ww1305 : Jvm.Cond.instanceMethod ⟨"TeaCabinetModel", "opens", "(I)Z"⟩ ∈ lw_tbl := sm_in6 (i := 7) rfl
theorem wp42 : Jvm.Cond.selects "TeaCabinetModel" ⟨"TeaCabinetModel", "opens", "(I)Z"⟩ ⟨"TeaCabinetModel", "opens", "(I)Z"⟩ ∈ lw_tbl := sm_inp (i := 42) rfl
theorem mw157 : sm_PW mm157 := ⟨ww1306, ww108, rfl, plainFor_of_name sm_pn8, ⟨sm_ne8, sm_pd6⟩, (fun h => absurd h (by decide)), (fun _ => ⟨ww1305, wp42⟩), (fun h => absurd h (by decide))⟩
theorem ww1311 : Jvm.Cond.code ⟨"TeaCabinetModel", "isDigit", "()Z"⟩ prog_10_method_24_code 1 (some .boolean) ∈ lw_tbl := sm_in6 (i := 13) rfl
theorem ww1310 : Jvm.Cond.instanceMethod ⟨"TeaCabinetModel", "isDigit", "()Z"⟩ ∈ lw_tbl := sm_in6 (i := 12) rfl
theorem wp43 : Jvm.Cond.selects "TeaCabinetModel" ⟨"TeaCabinetModel", "isDigit", "()Z"⟩ ⟨"TeaCabinetModel", "isDigit", "()Z"⟩ ∈ lw_tbl := sm_inp (i := 43) rfl
theorem mw158 : sm_PW mm158 := ⟨ww1311, ww108, rfl, plainFor_of_name sm_pn8, ⟨sm_ne8, sm_pd3⟩, (fun h => absurd h (by decide)), (fun _ => ⟨ww1310, wp43⟩), (fun h => absurd h (by decide))⟩
theorem ww1315 : Jvm.Cond.code ⟨"TeaCabinetModel", "readsNumber", "()Z"⟩ prog_10_method_27_code 2 (some .boolean) ∈ lw_tbl := sm_in6 (i := 17) rfl
theorem ww1314 : Jvm.Cond.instanceMethod ⟨"TeaCabinetModel", "readsNumber", "()Z"⟩ ∈ lw_tbl := sm_in6 (i := 16) rfl
theorem wp44 : Jvm.Cond.selects "TeaCabinetModel" ⟨"TeaCabinetModel", "readsNumber", "()Z"⟩ ⟨"TeaCabinetModel", "readsNumber", "()Z"⟩ ∈ lw_tbl := sm_inp (i := 44) rfl
theorem mw159 : sm_PW mm159 := ⟨ww1315, ww108, rfl, plainFor_of_name sm_pn8, ⟨sm_ne8, sm_pd3⟩, (fun h => absurd h (by decide)), (fun _ => ⟨ww1314, wp44⟩), (fun h => absurd h (by decide))⟩
theorem ww1319 : Jvm.Cond.code ⟨"TeaCabinetModel", "notes", "(II)V"⟩ prog_10_method_28_code 3 (none) ∈ lw_tbl := sm_in6 (i := 21) rfl
theorem ww1318 : Jvm.Cond.instanceMethod ⟨"TeaCabinetModel", "notes", "(II)V"⟩ ∈ lw_tbl := sm_in6 (i := 20) rfl
theorem wp45 : Jvm.Cond.selects "TeaCabinetModel" ⟨"TeaCabinetModel", "notes", "(II)V"⟩ ⟨"TeaCabinetModel", "notes", "(II)V"⟩ ∈ lw_tbl := sm_inp (i := 45) rfl
theorem mw160 : sm_PW mm160 := ⟨ww1319, ww108, rfl, plainFor_of_name sm_pn8, ⟨sm_ne8, sm_pd8⟩, (fun h => absurd h (by decide)), (fun _ => ⟨ww1318, wp45⟩), (fun h => absurd h (by decide))⟩
theorem ww1322 : Jvm.Cond.code ⟨"TeaCabinetModel", "factOf", "(I)I"⟩ prog_10_method_31_code 1 (some .int) ∈ lw_tbl := sm_in6 (i := 24) rfl
theorem ww1321 : Jvm.Cond.static ⟨"TeaCabinetModel", "factOf", "(I)I"⟩ ∈ lw_tbl := sm_in6 (i := 23) rfl
theorem mw161 : sm_PW mm161 := ⟨ww1322, ww108, rfl, plainFor_of_name sm_pn8, ⟨sm_ne8, sm_pd4⟩, (fun _ => ww1321), (fun h => absurd h (by decide)), (fun h => absurd h (by decide))⟩
theorem ww1325 : Jvm.Cond.code ⟨"TeaCabinetModel", "sumSign", "(I)I"⟩ prog_10_method_32_code 1 (some .int) ∈ lw_tbl := sm_in6 (i := 27) rfl
theorem ww1324 : Jvm.Cond.static ⟨"TeaCabinetModel", "sumSign", "(I)I"⟩ ∈ lw_tbl := sm_in6 (i := 26) rfl
theorem mw162 : sm_PW mm162 := ⟨ww1325, ww108, rfl, plainFor_of_name sm_pn8, ⟨sm_ne8, sm_pd4⟩, (fun _ => ww1324), (fun h => absurd h (by decide)), (fun h => absurd h (by decide))⟩
theorem ww1329 : Jvm.Cond.code ⟨"TeaCabinetModel", "closesSums", "(Z)V"⟩ prog_10_method_33_code 2 (none) ∈ lw_tbl := sm_in6 (i := 31) rfl
theorem ww1328 : Jvm.Cond.instanceMethod ⟨"TeaCabinetModel", "closesSums", "(Z)V"⟩ ∈ lw_tbl := sm_in6 (i := 30) rfl
theorem wp46 : Jvm.Cond.selects "TeaCabinetModel" ⟨"TeaCabinetModel", "closesSums", "(Z)V"⟩ ⟨"TeaCabinetModel", "closesSums", "(Z)V"⟩ ∈ lw_tbl := sm_inp (i := 46) rfl
theorem mw163 : sm_PW mm163 := ⟨ww1329, ww108, rfl, plainFor_of_name sm_pn8, ⟨sm_ne8, sm_pd26⟩, (fun h => absurd h (by decide)), (fun _ => ⟨ww1328, wp46⟩), (fun h => absurd h (by decide))⟩
theorem ww1333 : Jvm.Cond.code ⟨"TeaCabinetModel", "waitTop", "()I"⟩ prog_10_method_30_code 1 (some .int) ∈ lw_tbl := sm_in6 (i := 35) rfl
theorem ww1332 : Jvm.Cond.instanceMethod ⟨"TeaCabinetModel", "waitTop", "()I"⟩ ∈ lw_tbl := sm_in6 (i := 34) rfl
theorem wp47 : Jvm.Cond.selects "TeaCabinetModel" ⟨"TeaCabinetModel", "waitTop", "()I"⟩ ⟨"TeaCabinetModel", "waitTop", "()I"⟩ ∈ lw_tbl := sm_inp (i := 47) rfl
theorem mw164 : sm_PW mm164 := ⟨ww1333, ww108, rfl, plainFor_of_name sm_pn8, ⟨sm_ne8, sm_pd0⟩, (fun h => absurd h (by decide)), (fun _ => ⟨ww1332, wp47⟩), (fun h => absurd h (by decide))⟩
theorem ww1337 : Jvm.Cond.code ⟨"TeaCabinetModel", "hasOpenSum", "(I)Z"⟩ prog_10_method_35_code 3 (some .boolean) ∈ lw_tbl := sm_in6 (i := 39) rfl
theorem ww1336 : Jvm.Cond.instanceMethod ⟨"TeaCabinetModel", "hasOpenSum", "(I)Z"⟩ ∈ lw_tbl := sm_in6 (i := 38) rfl
theorem wp48 : Jvm.Cond.selects "TeaCabinetModel" ⟨"TeaCabinetModel", "hasOpenSum", "(I)Z"⟩ ⟨"TeaCabinetModel", "hasOpenSum", "(I)Z"⟩ ∈ lw_tbl := sm_inp (i := 48) rfl
theorem mw165 : sm_PW mm165 := ⟨ww1337, ww108, rfl, plainFor_of_name sm_pn8, ⟨sm_ne8, sm_pd6⟩, (fun h => absurd h (by decide)), (fun _ => ⟨ww1336, wp48⟩), (fun h => absurd h (by decide))⟩
theorem ww1341 : Jvm.Cond.code ⟨"TeaCabinetModel", "readsCondition", "()Z"⟩ prog_10_method_41_code 1 (some .boolean) ∈ lw_tbl := sm_in6 (i := 43) rfl
theorem ww1340 : Jvm.Cond.instanceMethod ⟨"TeaCabinetModel", "readsCondition", "()Z"⟩ ∈ lw_tbl := sm_in6 (i := 42) rfl
theorem wp49 : Jvm.Cond.selects "TeaCabinetModel" ⟨"TeaCabinetModel", "readsCondition", "()Z"⟩ ⟨"TeaCabinetModel", "readsCondition", "()Z"⟩ ∈ lw_tbl := sm_inp (i := 49) rfl
theorem mw166 : sm_PW mm166 := ⟨ww1341, ww108, rfl, plainFor_of_name sm_pn8, ⟨sm_ne8, sm_pd3⟩, (fun h => absurd h (by decide)), (fun _ => ⟨ww1340, wp49⟩), (fun h => absurd h (by decide))⟩
theorem ww1345 : Jvm.Cond.code ⟨"TeaCabinetModel", "readsCompared", "()Z"⟩ prog_10_method_40_code 2 (some .boolean) ∈ lw_tbl := sm_in6 (i := 47) rfl
theorem ww1344 : Jvm.Cond.instanceMethod ⟨"TeaCabinetModel", "readsCompared", "()Z"⟩ ∈ lw_tbl := sm_in6 (i := 46) rfl
theorem wp50 : Jvm.Cond.selects "TeaCabinetModel" ⟨"TeaCabinetModel", "readsCompared", "()Z"⟩ ⟨"TeaCabinetModel", "readsCompared", "()Z"⟩ ∈ lw_tbl := sm_inp (i := 50) rfl
theorem mw167 : sm_PW mm167 := ⟨ww1345, ww108, rfl, plainFor_of_name sm_pn8, ⟨sm_ne8, sm_pd3⟩, (fun h => absurd h (by decide)), (fun _ => ⟨ww1344, wp50⟩), (fun h => absurd h (by decide))⟩
theorem ww1349 : Jvm.Cond.code ⟨"TeaCabinetModel", "endsPiece", "()V"⟩ prog_10_method_37_code 1 (none) ∈ lw_tbl := sm_in6 (i := 51) rfl
theorem ww1348 : Jvm.Cond.instanceMethod ⟨"TeaCabinetModel", "endsPiece", "()V"⟩ ∈ lw_tbl := sm_in6 (i := 50) rfl
theorem wp51 : Jvm.Cond.selects "TeaCabinetModel" ⟨"TeaCabinetModel", "endsPiece", "()V"⟩ ⟨"TeaCabinetModel", "endsPiece", "()V"⟩ ∈ lw_tbl := sm_inp (i := 51) rfl
theorem mw168 : sm_PW mm168 := ⟨ww1349, ww108, rfl, plainFor_of_name sm_pn8, ⟨sm_ne8, sm_pd2⟩, (fun h => absurd h (by decide)), (fun _ => ⟨ww1348, wp51⟩), (fun h => absurd h (by decide))⟩
theorem ww1353 : Jvm.Cond.code ⟨"TeaCabinetModel", "lands", "(Z)V"⟩ prog_10_method_38_code 3 (none) ∈ lw_tbl := sm_in6 (i := 55) rfl
theorem ww1352 : Jvm.Cond.instanceMethod ⟨"TeaCabinetModel", "lands", "(Z)V"⟩ ∈ lw_tbl := sm_in6 (i := 54) rfl
theorem wp52 : Jvm.Cond.selects "TeaCabinetModel" ⟨"TeaCabinetModel", "lands", "(Z)V"⟩ ⟨"TeaCabinetModel", "lands", "(Z)V"⟩ ∈ lw_tbl := sm_inp (i := 52) rfl
theorem mw169 : sm_PW mm169 := ⟨ww1353, ww108, rfl, plainFor_of_name sm_pn8, ⟨sm_ne8, sm_pd26⟩, (fun h => absurd h (by decide)), (fun _ => ⟨ww1352, wp52⟩), (fun h => absurd h (by decide))⟩
theorem ww1357 : Jvm.Cond.code ⟨"TeaCabinetModel", "jumps", "(I)V"⟩ prog_10_method_39_code 2 (none) ∈ lw_tbl := sm_in6 (i := 59) rfl
theorem ww1356 : Jvm.Cond.instanceMethod ⟨"TeaCabinetModel", "jumps", "(I)V"⟩ ∈ lw_tbl := sm_in6 (i := 58) rfl
theorem wp53 : Jvm.Cond.selects "TeaCabinetModel" ⟨"TeaCabinetModel", "jumps", "(I)V"⟩ ⟨"TeaCabinetModel", "jumps", "(I)V"⟩ ∈ lw_tbl := sm_inp (i := 53) rfl
theorem mw170 : sm_PW mm170 := ⟨ww1357, ww108, rfl, plainFor_of_name sm_pn8, ⟨sm_ne8, sm_pd5⟩, (fun h => absurd h (by decide)), (fun _ => ⟨ww1356, wp53⟩), (fun h => absurd h (by decide))⟩
theorem ww1361 : Jvm.Cond.code ⟨"TeaCabinetModel", "takes", "(I)Z"⟩ prog_10_method_26_code 2 (some .boolean) ∈ lw_tbl := sm_in6 (i := 63) rfl
theorem ww1360 : Jvm.Cond.instanceMethod ⟨"TeaCabinetModel", "takes", "(I)Z"⟩ ∈ lw_tbl := sm_in6 (i := 62) rfl
theorem wp54 : Jvm.Cond.selects "TeaCabinetModel" ⟨"TeaCabinetModel", "takes", "(I)Z"⟩ ⟨"TeaCabinetModel", "takes", "(I)Z"⟩ ∈ lw_tbl := sm_inp (i := 54) rfl
theorem mw171 : sm_PW mm171 := ⟨ww1361, ww108, rfl, plainFor_of_name sm_pn8, ⟨sm_ne8, sm_pd6⟩, (fun h => absurd h (by decide)), (fun _ => ⟨ww1360, wp54⟩), (fun h => absurd h (by decide))⟩
theorem ww1365 : Jvm.Cond.code ⟨"TeaCabinetModel", "ranking", "(II)I"⟩ prog_10_method_54_code 9 (some .int) ∈ lw_tbl := sm_in6 (i := 67) rfl
theorem ww1363 : Jvm.Cond.instanceMethod ⟨"TeaCabinetModel", "ranking", "(II)I"⟩ ∈ lw_tbl := sm_in6 (i := 65) rfl
theorem ww1364 : Jvm.Cond.selects "TeaCabinetModel" ⟨"TeaCabinetModel", "ranking", "(II)I"⟩ ⟨"TeaCabinetModel", "ranking", "(II)I"⟩ ∈ lw_tbl := sm_in6 (i := 66) rfl
theorem mw172 : sm_PW mm172 := ⟨ww1365, ww108, rfl, plainFor_of_name sm_pn8, ⟨sm_ne8, sm_pd7⟩, (fun h => absurd h (by decide)), (fun _ => ⟨ww1363, ww1364⟩), (fun h => absurd h (by decide))⟩
theorem ww1369 : Jvm.Cond.code ⟨"TeaCabinetModel", "wrongOf", "(I)I"⟩ prog_10_method_55_code 2 (some .int) ∈ lw_tbl := sm_in6 (i := 71) rfl
theorem ww1368 : Jvm.Cond.instanceMethod ⟨"TeaCabinetModel", "wrongOf", "(I)I"⟩ ∈ lw_tbl := sm_in6 (i := 70) rfl
theorem wp55 : Jvm.Cond.selects "TeaCabinetModel" ⟨"TeaCabinetModel", "wrongOf", "(I)I"⟩ ⟨"TeaCabinetModel", "wrongOf", "(I)I"⟩ ∈ lw_tbl := sm_inp (i := 55) rfl
theorem mw173 : sm_PW mm173 := ⟨ww1369, ww108, rfl, plainFor_of_name sm_pn8, ⟨sm_ne8, sm_pd4⟩, (fun h => absurd h (by decide)), (fun _ => ⟨ww1368, wp55⟩), (fun h => absurd h (by decide))⟩
theorem ww1373 : Jvm.Cond.code ⟨"TeaCabinetModel", "isMeasure", "(I)Z"⟩ prog_10_method_10_code 2 (some .boolean) ∈ lw_tbl := sm_in6 (i := 75) rfl
theorem ww1372 : Jvm.Cond.instanceMethod ⟨"TeaCabinetModel", "isMeasure", "(I)Z"⟩ ∈ lw_tbl := sm_in6 (i := 74) rfl
theorem wp56 : Jvm.Cond.selects "TeaCabinetModel" ⟨"TeaCabinetModel", "isMeasure", "(I)Z"⟩ ⟨"TeaCabinetModel", "isMeasure", "(I)Z"⟩ ∈ lw_tbl := sm_inp (i := 56) rfl
theorem mw174 : sm_PW mm174 := ⟨ww1373, ww108, rfl, plainFor_of_name sm_pn8, ⟨sm_ne8, sm_pd6⟩, (fun h => absurd h (by decide)), (fun _ => ⟨ww1372, wp56⟩), (fun h => absurd h (by decide))⟩
theorem ww1377 : Jvm.Cond.code ⟨"TeaCabinetModel", "teas", "(I)I"⟩ prog_10_method_64_code 2 (some .int) ∈ lw_tbl := sm_in6 (i := 79) rfl
theorem ww1375 : Jvm.Cond.instanceMethod ⟨"TeaCabinetModel", "teas", "(I)I"⟩ ∈ lw_tbl := sm_in6 (i := 77) rfl
theorem ww1376 : Jvm.Cond.selects "TeaCabinetModel" ⟨"TeaCabinetModel", "teas", "(I)I"⟩ ⟨"TeaCabinetModel", "teas", "(I)I"⟩ ∈ lw_tbl := sm_in6 (i := 78) rfl
theorem mw175 : sm_PW mm175 := ⟨ww1377, ww108, rfl, plainFor_of_name sm_pn8, ⟨sm_ne8, sm_pd4⟩, (fun h => absurd h (by decide)), (fun _ => ⟨ww1375, ww1376⟩), (fun h => absurd h (by decide))⟩
theorem ww1381 : Jvm.Cond.code ⟨"TeaCabinetModel", "teasGo", "(I)I"⟩ prog_10_method_63_code 3 (some .int) ∈ lw_tbl := sm_in6 (i := 83) rfl
theorem ww1380 : Jvm.Cond.instanceMethod ⟨"TeaCabinetModel", "teasGo", "(I)I"⟩ ∈ lw_tbl := sm_in6 (i := 82) rfl
theorem wp57 : Jvm.Cond.selects "TeaCabinetModel" ⟨"TeaCabinetModel", "teasGo", "(I)I"⟩ ⟨"TeaCabinetModel", "teasGo", "(I)I"⟩ ∈ lw_tbl := sm_inp (i := 57) rfl
theorem mw176 : sm_PW mm176 := ⟨ww1381, ww108, rfl, plainFor_of_name sm_pn8, ⟨sm_ne8, sm_pd4⟩, (fun h => absurd h (by decide)), (fun _ => ⟨ww1380, wp57⟩), (fun h => absurd h (by decide))⟩
theorem ww1385 : Jvm.Cond.code ⟨"TeaCabinetModel", "teaGoes", "()Z"⟩ prog_10_method_62_code 5 (some .boolean) ∈ lw_tbl := sm_in6 (i := 87) rfl
theorem ww1384 : Jvm.Cond.instanceMethod ⟨"TeaCabinetModel", "teaGoes", "()Z"⟩ ∈ lw_tbl := sm_in6 (i := 86) rfl
theorem wp58 : Jvm.Cond.selects "TeaCabinetModel" ⟨"TeaCabinetModel", "teaGoes", "()Z"⟩ ⟨"TeaCabinetModel", "teaGoes", "()Z"⟩ ∈ lw_tbl := sm_inp (i := 58) rfl
theorem mw177 : sm_PW mm177 := ⟨ww1385, ww108, rfl, plainFor_of_name sm_pn8, ⟨sm_ne8, sm_pd3⟩, (fun h => absurd h (by decide)), (fun _ => ⟨ww1384, wp58⟩), (fun h => absurd h (by decide))⟩
theorem ww1389 : Jvm.Cond.code ⟨"TeaCabinetModel", "spillsBy", "()I"⟩ prog_10_method_53_code 1 (some .int) ∈ lw_tbl := sm_in6 (i := 91) rfl
theorem ww1388 : Jvm.Cond.instanceMethod ⟨"TeaCabinetModel", "spillsBy", "()I"⟩ ∈ lw_tbl := sm_in6 (i := 90) rfl
theorem wp59 : Jvm.Cond.selects "TeaCabinetModel" ⟨"TeaCabinetModel", "spillsBy", "()I"⟩ ⟨"TeaCabinetModel", "spillsBy", "()I"⟩ ∈ lw_tbl := sm_inp (i := 59) rfl
theorem mw178 : sm_PW mm178 := ⟨ww1389, ww108, rfl, plainFor_of_name sm_pn8, ⟨sm_ne8, sm_pd0⟩, (fun h => absurd h (by decide)), (fun _ => ⟨ww1388, wp59⟩), (fun h => absurd h (by decide))⟩
theorem ww1393 : Jvm.Cond.code ⟨"TeaCabinetModel", "feelsOne", "(I)V"⟩ prog_10_method_49_code 3 (none) ∈ lw_tbl := sm_in6 (i := 95) rfl
theorem ww1392 : Jvm.Cond.instanceMethod ⟨"TeaCabinetModel", "feelsOne", "(I)V"⟩ ∈ lw_tbl := sm_in6 (i := 94) rfl
theorem wp60 : Jvm.Cond.selects "TeaCabinetModel" ⟨"TeaCabinetModel", "feelsOne", "(I)V"⟩ ⟨"TeaCabinetModel", "feelsOne", "(I)V"⟩ ∈ lw_tbl := sm_inp (i := 60) rfl
theorem mw179 : sm_PW mm179 := ⟨ww1393, ww108, rfl, plainFor_of_name sm_pn8, ⟨sm_ne8, sm_pd5⟩, (fun h => absurd h (by decide)), (fun _ => ⟨ww1392, wp60⟩), (fun h => absurd h (by decide))⟩
theorem ww1397 : Jvm.Cond.code ⟨"TeaCabinetModel", "byLaw", "(II)I"⟩ prog_10_method_46_code 5 (some .int) ∈ lw_tbl := sm_in6 (i := 99) rfl
theorem ww1396 : Jvm.Cond.instanceMethod ⟨"TeaCabinetModel", "byLaw", "(II)I"⟩ ∈ lw_tbl := sm_in6 (i := 98) rfl
theorem wp61 : Jvm.Cond.selects "TeaCabinetModel" ⟨"TeaCabinetModel", "byLaw", "(II)I"⟩ ⟨"TeaCabinetModel", "byLaw", "(II)I"⟩ ∈ lw_tbl := sm_inp (i := 61) rfl
theorem mw180 : sm_PW mm180 := ⟨ww1397, ww108, rfl, plainFor_of_name sm_pn8, ⟨sm_ne8, sm_pd7⟩, (fun h => absurd h (by decide)), (fun _ => ⟨ww1396, wp61⟩), (fun h => absurd h (by decide))⟩
theorem ww1401 : Jvm.Cond.code ⟨"TeaCabinetModel", "comesTo", "(II)I"⟩ prog_10_method_45_code 8 (some .int) ∈ lw_tbl := sm_in6 (i := 103) rfl
theorem ww1400 : Jvm.Cond.instanceMethod ⟨"TeaCabinetModel", "comesTo", "(II)I"⟩ ∈ lw_tbl := sm_in6 (i := 102) rfl
theorem wp62 : Jvm.Cond.selects "TeaCabinetModel" ⟨"TeaCabinetModel", "comesTo", "(II)I"⟩ ⟨"TeaCabinetModel", "comesTo", "(II)I"⟩ ∈ lw_tbl := sm_inp (i := 62) rfl
theorem mw181 : sm_PW mm181 := ⟨ww1401, ww108, rfl, plainFor_of_name sm_pn8, ⟨sm_ne8, sm_pd7⟩, (fun h => absurd h (by decide)), (fun _ => ⟨ww1400, wp62⟩), (fun h => absurd h (by decide))⟩
theorem ww1404 : Jvm.Cond.code ⟨"TeaCabinetModel", "reckon", "(III)I"⟩ prog_10_method_44_code 3 (some .int) ∈ lw_tbl := sm_in6 (i := 106) rfl
theorem ww1403 : Jvm.Cond.static ⟨"TeaCabinetModel", "reckon", "(III)I"⟩ ∈ lw_tbl := sm_in6 (i := 105) rfl
theorem mw182 : sm_PW mm182 := ⟨ww1404, ww108, rfl, plainFor_of_name sm_pn8, ⟨sm_ne8, sm_pd10⟩, (fun _ => ww1403), (fun h => absurd h (by decide)), (fun h => absurd h (by decide))⟩
theorem ww1408 : Jvm.Cond.code ⟨"TeaCabinetModel", "coolsBy", "()I"⟩ prog_10_method_52_code 1 (some .int) ∈ lw_tbl := sm_in6 (i := 110) rfl
theorem ww1407 : Jvm.Cond.instanceMethod ⟨"TeaCabinetModel", "coolsBy", "()I"⟩ ∈ lw_tbl := sm_in6 (i := 109) rfl
theorem wp63 : Jvm.Cond.selects "TeaCabinetModel" ⟨"TeaCabinetModel", "coolsBy", "()I"⟩ ⟨"TeaCabinetModel", "coolsBy", "()I"⟩ ∈ lw_tbl := sm_inp (i := 63) rfl
theorem mw183 : sm_PW mm183 := ⟨ww1408, ww108, rfl, plainFor_of_name sm_pn8, ⟨sm_ne8, sm_pd0⟩, (fun h => absurd h (by decide)), (fun _ => ⟨ww1407, wp63⟩), (fun h => absurd h (by decide))⟩
theorem ww1412 : Jvm.Cond.code ⟨"TeaCabinetModel", "pours", "(I)I"⟩ prog_10_method_61_code 4 (some .int) ∈ lw_tbl := sm_in6 (i := 114) rfl
theorem ww1411 : Jvm.Cond.instanceMethod ⟨"TeaCabinetModel", "pours", "(I)I"⟩ ∈ lw_tbl := sm_in6 (i := 113) rfl
theorem wp64 : Jvm.Cond.selects "TeaCabinetModel" ⟨"TeaCabinetModel", "pours", "(I)I"⟩ ⟨"TeaCabinetModel", "pours", "(I)I"⟩ ∈ lw_tbl := sm_inp (i := 64) rfl
theorem mw184 : sm_PW mm184 := ⟨ww1412, ww108, rfl, plainFor_of_name sm_pn8, ⟨sm_ne8, sm_pd4⟩, (fun h => absurd h (by decide)), (fun _ => ⟨ww1411, wp64⟩), (fun h => absurd h (by decide))⟩
theorem ww1416 : Jvm.Cond.code ⟨"TeaCabinetModel", "cupOf", "(I)I"⟩ prog_10_method_56_code 5 (some .int) ∈ lw_tbl := sm_in6 (i := 118) rfl
theorem ww1415 : Jvm.Cond.instanceMethod ⟨"TeaCabinetModel", "cupOf", "(I)I"⟩ ∈ lw_tbl := sm_in6 (i := 117) rfl
theorem wp65 : Jvm.Cond.selects "TeaCabinetModel" ⟨"TeaCabinetModel", "cupOf", "(I)I"⟩ ⟨"TeaCabinetModel", "cupOf", "(I)I"⟩ ∈ lw_tbl := sm_inp (i := 65) rfl
theorem mw185 : sm_PW mm185 := ⟨ww1416, ww108, rfl, plainFor_of_name sm_pn8, ⟨sm_ne8, sm_pd4⟩, (fun h => absurd h (by decide)), (fun _ => ⟨ww1415, wp65⟩), (fun h => absurd h (by decide))⟩
theorem ww1420 : Jvm.Cond.code ⟨"TeaCabinetModel", "leftOf", "(II)I"⟩ prog_10_method_14_code 3 (some .int) ∈ lw_tbl := sm_in6 (i := 122) rfl
theorem ww1419 : Jvm.Cond.instanceMethod ⟨"TeaCabinetModel", "leftOf", "(II)I"⟩ ∈ lw_tbl := sm_in6 (i := 121) rfl
theorem wp66 : Jvm.Cond.selects "TeaCabinetModel" ⟨"TeaCabinetModel", "leftOf", "(II)I"⟩ ⟨"TeaCabinetModel", "leftOf", "(II)I"⟩ ∈ lw_tbl := sm_inp (i := 66) rfl
theorem mw186 : sm_PW mm186 := ⟨ww1420, ww108, rfl, plainFor_of_name sm_pn8, ⟨sm_ne8, sm_pd7⟩, (fun h => absurd h (by decide)), (fun _ => ⟨ww1419, wp66⟩), (fun h => absurd h (by decide))⟩
theorem ww1423 : Jvm.Cond.code ⟨"TeaCabinetModel", "max", "(II)I"⟩ prog_10_method_4_code 2 (some .int) ∈ lw_tbl := sm_in6 (i := 125) rfl
theorem ww1422 : Jvm.Cond.static ⟨"TeaCabinetModel", "max", "(II)I"⟩ ∈ lw_tbl := sm_in6 (i := 124) rfl
theorem mw187 : sm_PW mm187 := ⟨ww1423, ww108, rfl, plainFor_of_name sm_pn8, ⟨sm_ne8, sm_pd7⟩, (fun _ => ww1422), (fun h => absurd h (by decide)), (fun h => absurd h (by decide))⟩
theorem ww1428 : Jvm.Cond.code ⟨"TeaCabinetModel", "nextLeft", "(I)I"⟩ prog_10_method_57_code 5 (some .int) ∈ lw_tbl := sm_in6 (i := 130) rfl
theorem ww1427 : Jvm.Cond.instanceMethod ⟨"TeaCabinetModel", "nextLeft", "(I)I"⟩ ∈ lw_tbl := sm_in6 (i := 129) rfl
theorem wp67 : Jvm.Cond.selects "TeaCabinetModel" ⟨"TeaCabinetModel", "nextLeft", "(I)I"⟩ ⟨"TeaCabinetModel", "nextLeft", "(I)I"⟩ ∈ lw_tbl := sm_inp (i := 67) rfl
theorem mw188 : sm_PW mm188 := ⟨ww1428, ww108, rfl, plainFor_of_name sm_pn8, ⟨sm_ne8, sm_pd4⟩, (fun h => absurd h (by decide)), (fun _ => ⟨ww1427, wp67⟩), (fun h => absurd h (by decide))⟩
theorem ww1432 : Jvm.Cond.code ⟨"TeaCabinetModel", "areTwo", "(II)Z"⟩ prog_10_method_11_code 3 (some .boolean) ∈ lw_tbl := sm_in6 (i := 134) rfl
theorem ww1431 : Jvm.Cond.instanceMethod ⟨"TeaCabinetModel", "areTwo", "(II)Z"⟩ ∈ lw_tbl := sm_in6 (i := 133) rfl
theorem wp68 : Jvm.Cond.selects "TeaCabinetModel" ⟨"TeaCabinetModel", "areTwo", "(II)Z"⟩ ⟨"TeaCabinetModel", "areTwo", "(II)Z"⟩ ∈ lw_tbl := sm_inp (i := 68) rfl
theorem mw189 : sm_PW mm189 := ⟨ww1432, ww108, rfl, plainFor_of_name sm_pn8, ⟨sm_ne8, sm_pd9⟩, (fun h => absurd h (by decide)), (fun _ => ⟨ww1431, wp68⟩), (fun h => absurd h (by decide))⟩
theorem ww1436 : Jvm.Cond.code ⟨"TeaCabinetModel", "decides", "()V"⟩ prog_10_method_59_code 2 (none) ∈ lw_tbl := sm_in6 (i := 138) rfl
theorem ww1435 : Jvm.Cond.instanceMethod ⟨"TeaCabinetModel", "decides", "()V"⟩ ∈ lw_tbl := sm_in6 (i := 137) rfl
theorem wp69 : Jvm.Cond.selects "TeaCabinetModel" ⟨"TeaCabinetModel", "decides", "()V"⟩ ⟨"TeaCabinetModel", "decides", "()V"⟩ ∈ lw_tbl := sm_inp (i := 69) rfl
theorem mw190 : sm_PW mm190 := ⟨ww1436, ww108, rfl, plainFor_of_name sm_pn8, ⟨sm_ne8, sm_pd2⟩, (fun h => absurd h (by decide)), (fun _ => ⟨ww1435, wp69⟩), (fun h => absurd h (by decide))⟩
theorem ww1440 : Jvm.Cond.code ⟨"TeaCabinetModel", "highestOf", "(II)I"⟩ prog_10_method_58_code 5 (some .int) ∈ lw_tbl := sm_in6 (i := 142) rfl
theorem ww1439 : Jvm.Cond.instanceMethod ⟨"TeaCabinetModel", "highestOf", "(II)I"⟩ ∈ lw_tbl := sm_in6 (i := 141) rfl
theorem wp70 : Jvm.Cond.selects "TeaCabinetModel" ⟨"TeaCabinetModel", "highestOf", "(II)I"⟩ ⟨"TeaCabinetModel", "highestOf", "(II)I"⟩ ∈ lw_tbl := sm_inp (i := 70) rfl
theorem mw191 : sm_PW mm191 := ⟨ww1440, ww108, rfl, plainFor_of_name sm_pn8, ⟨sm_ne8, sm_pd7⟩, (fun h => absurd h (by decide)), (fun _ => ⟨ww1439, wp70⟩), (fun h => absurd h (by decide))⟩
theorem ww1444 : Jvm.Cond.code ⟨"TeaCabinetModel", "placeOf", "(II)I"⟩ prog_10_method_12_code 3 (some .int) ∈ lw_tbl := sm_in6 (i := 146) rfl
theorem ww1443 : Jvm.Cond.instanceMethod ⟨"TeaCabinetModel", "placeOf", "(II)I"⟩ ∈ lw_tbl := sm_in6 (i := 145) rfl
theorem wp71 : Jvm.Cond.selects "TeaCabinetModel" ⟨"TeaCabinetModel", "placeOf", "(II)I"⟩ ⟨"TeaCabinetModel", "placeOf", "(II)I"⟩ ∈ lw_tbl := sm_inp (i := 71) rfl
theorem mw192 : sm_PW mm192 := ⟨ww1444, ww108, rfl, plainFor_of_name sm_pn8, ⟨sm_ne8, sm_pd7⟩, (fun h => absurd h (by decide)), (fun _ => ⟨ww1443, wp71⟩), (fun h => absurd h (by decide))⟩
theorem ww1448 : Jvm.Cond.code ⟨"TeaCabinetModel", "changesMother", "(I)V"⟩ prog_10_method_60_code 7 (none) ∈ lw_tbl := sm_in6 (i := 150) rfl
theorem ww1447 : Jvm.Cond.instanceMethod ⟨"TeaCabinetModel", "changesMother", "(I)V"⟩ ∈ lw_tbl := sm_in6 (i := 149) rfl
theorem wp72 : Jvm.Cond.selects "TeaCabinetModel" ⟨"TeaCabinetModel", "changesMother", "(I)V"⟩ ⟨"TeaCabinetModel", "changesMother", "(I)V"⟩ ∈ lw_tbl := sm_inp (i := 72) rfl
theorem mw193 : sm_PW mm193 := ⟨ww1448, ww108, rfl, plainFor_of_name sm_pn8, ⟨sm_ne8, sm_pd5⟩, (fun h => absurd h (by decide)), (fun _ => ⟨ww1447, wp72⟩), (fun h => absurd h (by decide))⟩
theorem ww1452 : Jvm.Cond.code ⟨"TeaCabinetModel", "asks", "(I)I"⟩ prog_10_method_51_code 6 (some .int) ∈ lw_tbl := sm_in6 (i := 154) rfl
theorem ww1451 : Jvm.Cond.instanceMethod ⟨"TeaCabinetModel", "asks", "(I)I"⟩ ∈ lw_tbl := sm_in6 (i := 153) rfl
theorem wp73 : Jvm.Cond.selects "TeaCabinetModel" ⟨"TeaCabinetModel", "asks", "(I)I"⟩ ⟨"TeaCabinetModel", "asks", "(I)I"⟩ ∈ lw_tbl := sm_inp (i := 73) rfl
theorem mw194 : sm_PW mm194 := ⟨ww1452, ww108, rfl, plainFor_of_name sm_pn8, ⟨sm_ne8, sm_pd4⟩, (fun h => absurd h (by decide)), (fun _ => ⟨ww1451, wp73⟩), (fun h => absurd h (by decide))⟩
theorem ww1456 : Jvm.Cond.code ⟨"TeaCabinetModel", "likesBy", "(II)I"⟩ prog_10_method_50_code 3 (some .int) ∈ lw_tbl := sm_in6 (i := 158) rfl
theorem ww1455 : Jvm.Cond.instanceMethod ⟨"TeaCabinetModel", "likesBy", "(II)I"⟩ ∈ lw_tbl := sm_in6 (i := 157) rfl
theorem wp74 : Jvm.Cond.selects "TeaCabinetModel" ⟨"TeaCabinetModel", "likesBy", "(II)I"⟩ ⟨"TeaCabinetModel", "likesBy", "(II)I"⟩ ∈ lw_tbl := sm_inp (i := 74) rfl
theorem mw195 : sm_PW mm195 := ⟨ww1456, ww108, rfl, plainFor_of_name sm_pn8, ⟨sm_ne8, sm_pd7⟩, (fun h => absurd h (by decide)), (fun _ => ⟨ww1455, wp74⟩), (fun h => absurd h (by decide))⟩
theorem ww1460 : Jvm.Cond.code ⟨"TeaCabinetModel", "mindOf", "(II)I"⟩ prog_10_method_48_code 7 (some .int) ∈ lw_tbl := sm_in6 (i := 162) rfl
theorem ww1459 : Jvm.Cond.instanceMethod ⟨"TeaCabinetModel", "mindOf", "(II)I"⟩ ∈ lw_tbl := sm_in6 (i := 161) rfl
theorem wp75 : Jvm.Cond.selects "TeaCabinetModel" ⟨"TeaCabinetModel", "mindOf", "(II)I"⟩ ⟨"TeaCabinetModel", "mindOf", "(II)I"⟩ ∈ lw_tbl := sm_inp (i := 75) rfl
theorem mw196 : sm_PW mm196 := ⟨ww1460, ww108, rfl, plainFor_of_name sm_pn8, ⟨sm_ne8, sm_pd7⟩, (fun h => absurd h (by decide)), (fun _ => ⟨ww1459, wp75⟩), (fun h => absurd h (by decide))⟩
theorem ww1464 : Jvm.Cond.code ⟨"TeaCabinetModel", "holdsAny", "(I)Z"⟩ prog_10_method_47_code 3 (some .boolean) ∈ lw_tbl := sm_in6 (i := 166) rfl
theorem ww1463 : Jvm.Cond.instanceMethod ⟨"TeaCabinetModel", "holdsAny", "(I)Z"⟩ ∈ lw_tbl := sm_in6 (i := 165) rfl
theorem wp76 : Jvm.Cond.selects "TeaCabinetModel" ⟨"TeaCabinetModel", "holdsAny", "(I)Z"⟩ ⟨"TeaCabinetModel", "holdsAny", "(I)Z"⟩ ∈ lw_tbl := sm_inp (i := 76) rfl
theorem mw197 : sm_PW mm197 := ⟨ww1464, ww108, rfl, plainFor_of_name sm_pn8, ⟨sm_ne8, sm_pd6⟩, (fun h => absurd h (by decide)), (fun _ => ⟨ww1463, wp76⟩), (fun h => absurd h (by decide))⟩
theorem ww1468 : Jvm.Cond.code ⟨"TeaCabinetModel", "tried", "(II)I"⟩ prog_10_method_65_code 4 (some .int) ∈ lw_tbl := sm_in6 (i := 170) rfl
theorem ww1466 : Jvm.Cond.instanceMethod ⟨"TeaCabinetModel", "tried", "(II)I"⟩ ∈ lw_tbl := sm_in6 (i := 168) rfl
theorem ww1467 : Jvm.Cond.selects "TeaCabinetModel" ⟨"TeaCabinetModel", "tried", "(II)I"⟩ ⟨"TeaCabinetModel", "tried", "(II)I"⟩ ∈ lw_tbl := sm_in6 (i := 169) rfl
theorem mw198 : sm_PW mm198 := ⟨ww1468, ww108, rfl, plainFor_of_name sm_pn8, ⟨sm_ne8, sm_pd7⟩, (fun h => absurd h (by decide)), (fun _ => ⟨ww1466, ww1467⟩), (fun h => absurd h (by decide))⟩
theorem ww1471 : Jvm.Cond.code ⟨"TeaCabinetModel", "copies", "([I[I)V"⟩ prog_10_method_8_code 3 (none) ∈ lw_tbl := sm_in6 (i := 173) rfl
theorem ww1470 : Jvm.Cond.static ⟨"TeaCabinetModel", "copies", "([I[I)V"⟩ ∈ lw_tbl := sm_in6 (i := 172) rfl
theorem mw199 : sm_PW mm199 := ⟨ww1471, ww108, rfl, plainFor_of_name sm_pn8, ⟨sm_ne8, sm_pd29⟩, (fun _ => ww1470), (fun h => absurd h (by decide)), (fun h => absurd h (by decide))⟩
theorem ww1475 : Jvm.Cond.code ⟨"TeaCabinetModel", "guestIs", "(II)I"⟩ prog_10_method_66_code 3 (some .int) ∈ lw_tbl := sm_in6 (i := 177) rfl
theorem ww1473 : Jvm.Cond.instanceMethod ⟨"TeaCabinetModel", "guestIs", "(II)I"⟩ ∈ lw_tbl := sm_in6 (i := 175) rfl
theorem ww1474 : Jvm.Cond.selects "TeaCabinetModel" ⟨"TeaCabinetModel", "guestIs", "(II)I"⟩ ⟨"TeaCabinetModel", "guestIs", "(II)I"⟩ ∈ lw_tbl := sm_in6 (i := 176) rfl
theorem mw200 : sm_PW mm200 := ⟨ww1475, ww108, rfl, plainFor_of_name sm_pn8, ⟨sm_ne8, sm_pd7⟩, (fun h => absurd h (by decide)), (fun _ => ⟨ww1473, ww1474⟩), (fun h => absurd h (by decide))⟩
theorem ww1479 : Jvm.Cond.code ⟨"TeaCabinetModel", "likes", "(II)I"⟩ prog_10_method_67_code 3 (some .int) ∈ lw_tbl := sm_in6 (i := 181) rfl
theorem ww1477 : Jvm.Cond.instanceMethod ⟨"TeaCabinetModel", "likes", "(II)I"⟩ ∈ lw_tbl := sm_in6 (i := 179) rfl
theorem ww1478 : Jvm.Cond.selects "TeaCabinetModel" ⟨"TeaCabinetModel", "likes", "(II)I"⟩ ⟨"TeaCabinetModel", "likes", "(II)I"⟩ ∈ lw_tbl := sm_in6 (i := 180) rfl
theorem mw201 : sm_PW mm201 := ⟨ww1479, ww108, rfl, plainFor_of_name sm_pn8, ⟨sm_ne8, sm_pd7⟩, (fun h => absurd h (by decide)), (fun _ => ⟨ww1477, ww1478⟩), (fun h => absurd h (by decide))⟩
theorem ww1483 : Jvm.Cond.code ⟨"TeaCabinetModel", "pair", "(II)I"⟩ prog_10_method_70_code 3 (some .int) ∈ lw_tbl := sm_in6 (i := 185) rfl
theorem ww1481 : Jvm.Cond.instanceMethod ⟨"TeaCabinetModel", "pair", "(II)I"⟩ ∈ lw_tbl := sm_in6 (i := 183) rfl
theorem ww1482 : Jvm.Cond.selects "TeaCabinetModel" ⟨"TeaCabinetModel", "pair", "(II)I"⟩ ⟨"TeaCabinetModel", "pair", "(II)I"⟩ ∈ lw_tbl := sm_in6 (i := 184) rfl
theorem mw202 : sm_PW mm202 := ⟨ww1483, ww108, rfl, plainFor_of_name sm_pn8, ⟨sm_ne8, sm_pd7⟩, (fun h => absurd h (by decide)), (fun _ => ⟨ww1481, ww1482⟩), (fun h => absurd h (by decide))⟩
theorem ww1487 : Jvm.Cond.code ⟨"TeaCabinetModel", "pairOf", "(II)I"⟩ prog_10_method_68_code 5 (some .int) ∈ lw_tbl := sm_in6 (i := 189) rfl
theorem ww1486 : Jvm.Cond.instanceMethod ⟨"TeaCabinetModel", "pairOf", "(II)I"⟩ ∈ lw_tbl := sm_in6 (i := 188) rfl
theorem wp77 : Jvm.Cond.selects "TeaCabinetModel" ⟨"TeaCabinetModel", "pairOf", "(II)I"⟩ ⟨"TeaCabinetModel", "pairOf", "(II)I"⟩ ∈ lw_tbl := sm_inp (i := 77) rfl
theorem mw203 : sm_PW mm203 := ⟨ww1487, ww108, rfl, plainFor_of_name sm_pn8, ⟨sm_ne8, sm_pd7⟩, (fun h => absurd h (by decide)), (fun _ => ⟨ww1486, wp77⟩), (fun h => absurd h (by decide))⟩
theorem ww1491 : Jvm.Cond.code ⟨"TeaCabinetModel", "firsts", "(I)I"⟩ prog_10_method_74_code 2 (some .int) ∈ lw_tbl := sm_in6 (i := 193) rfl
theorem ww1489 : Jvm.Cond.instanceMethod ⟨"TeaCabinetModel", "firsts", "(I)I"⟩ ∈ lw_tbl := sm_in6 (i := 191) rfl
theorem ww1490 : Jvm.Cond.selects "TeaCabinetModel" ⟨"TeaCabinetModel", "firsts", "(I)I"⟩ ⟨"TeaCabinetModel", "firsts", "(I)I"⟩ ∈ lw_tbl := sm_in6 (i := 192) rfl
theorem mw204 : sm_PW mm204 := ⟨ww1491, ww108, rfl, plainFor_of_name sm_pn8, ⟨sm_ne8, sm_pd4⟩, (fun h => absurd h (by decide)), (fun _ => ⟨ww1489, ww1490⟩), (fun h => absurd h (by decide))⟩
theorem ww1495 : Jvm.Cond.code ⟨"TeaCabinetModel", "allMeasures", "()I"⟩ prog_10_method_72_code 1 (some .int) ∈ lw_tbl := sm_in6 (i := 197) rfl
theorem ww1494 : Jvm.Cond.instanceMethod ⟨"TeaCabinetModel", "allMeasures", "()I"⟩ ∈ lw_tbl := sm_in6 (i := 196) rfl
theorem wp78 : Jvm.Cond.selects "TeaCabinetModel" ⟨"TeaCabinetModel", "allMeasures", "()I"⟩ ⟨"TeaCabinetModel", "allMeasures", "()I"⟩ ∈ lw_tbl := sm_inp (i := 78) rfl
theorem mw205 : sm_PW mm205 := ⟨ww1495, ww108, rfl, plainFor_of_name sm_pn8, ⟨sm_ne8, sm_pd0⟩, (fun h => absurd h (by decide)), (fun _ => ⟨ww1494, wp78⟩), (fun h => absurd h (by decide))⟩
theorem ww1499 : Jvm.Cond.code ⟨"TeaCabinetModel", "laysFirsts", "(II)V"⟩ prog_10_method_71_code 5 (none) ∈ lw_tbl := sm_in6 (i := 201) rfl
theorem ww1498 : Jvm.Cond.instanceMethod ⟨"TeaCabinetModel", "laysFirsts", "(II)V"⟩ ∈ lw_tbl := sm_in6 (i := 200) rfl
theorem wp79 : Jvm.Cond.selects "TeaCabinetModel" ⟨"TeaCabinetModel", "laysFirsts", "(II)V"⟩ ⟨"TeaCabinetModel", "laysFirsts", "(II)V"⟩ ∈ lw_tbl := sm_inp (i := 79) rfl
theorem mw206 : sm_PW mm206 := ⟨ww1499, ww108, rfl, plainFor_of_name sm_pn8, ⟨sm_ne8, sm_pd8⟩, (fun h => absurd h (by decide)), (fun _ => ⟨ww1498, wp79⟩), (fun h => absurd h (by decide))⟩
theorem ww1503 : Jvm.Cond.code ⟨"TeaCabinetModel", "mostVotes", "([I)I"⟩ prog_10_method_73_code 4 (some .int) ∈ lw_tbl := sm_in6 (i := 205) rfl
theorem ww1502 : Jvm.Cond.instanceMethod ⟨"TeaCabinetModel", "mostVotes", "([I)I"⟩ ∈ lw_tbl := sm_in6 (i := 204) rfl
theorem wp80 : Jvm.Cond.selects "TeaCabinetModel" ⟨"TeaCabinetModel", "mostVotes", "([I)I"⟩ ⟨"TeaCabinetModel", "mostVotes", "([I)I"⟩ ∈ lw_tbl := sm_inp (i := 80) rfl
theorem mw207 : sm_PW mm207 := ⟨ww1503, ww108, rfl, plainFor_of_name sm_pn8, ⟨sm_ne8, sm_pd27⟩, (fun h => absurd h (by decide)), (fun _ => ⟨ww1502, wp80⟩), (fun h => absurd h (by decide))⟩
theorem ww1507 : Jvm.Cond.code ⟨"TeaCabinetModel", "points", "(I)I"⟩ prog_10_method_75_code 4 (some .int) ∈ lw_tbl := sm_in6 (i := 209) rfl
theorem ww1505 : Jvm.Cond.instanceMethod ⟨"TeaCabinetModel", "points", "(I)I"⟩ ∈ lw_tbl := sm_in6 (i := 207) rfl
theorem ww1506 : Jvm.Cond.selects "TeaCabinetModel" ⟨"TeaCabinetModel", "points", "(I)I"⟩ ⟨"TeaCabinetModel", "points", "(I)I"⟩ ∈ lw_tbl := sm_in6 (i := 208) rfl
theorem mw208 : sm_PW mm208 := ⟨ww1507, ww108, rfl, plainFor_of_name sm_pn8, ⟨sm_ne8, sm_pd4⟩, (fun h => absurd h (by decide)), (fun _ => ⟨ww1505, ww1506⟩), (fun h => absurd h (by decide))⟩
theorem ww1511 : Jvm.Cond.code ⟨"TeaCabinetModel", "runOff", "(I)I"⟩ prog_10_method_77_code 3 (some .int) ∈ lw_tbl := sm_in6 (i := 213) rfl
theorem ww1509 : Jvm.Cond.instanceMethod ⟨"TeaCabinetModel", "runOff", "(I)I"⟩ ∈ lw_tbl := sm_in6 (i := 211) rfl
theorem ww1510 : Jvm.Cond.selects "TeaCabinetModel" ⟨"TeaCabinetModel", "runOff", "(I)I"⟩ ⟨"TeaCabinetModel", "runOff", "(I)I"⟩ ∈ lw_tbl := sm_in6 (i := 212) rfl
theorem mw209 : sm_PW mm209 := ⟨ww1511, ww108, rfl, plainFor_of_name sm_pn8, ⟨sm_ne8, sm_pd4⟩, (fun h => absurd h (by decide)), (fun _ => ⟨ww1509, ww1510⟩), (fun h => absurd h (by decide))⟩
theorem ww1515 : Jvm.Cond.code ⟨"TeaCabinetModel", "runsOff", "()I"⟩ prog_10_method_76_code 5 (some .int) ∈ lw_tbl := sm_in6 (i := 217) rfl
theorem ww1514 : Jvm.Cond.instanceMethod ⟨"TeaCabinetModel", "runsOff", "()I"⟩ ∈ lw_tbl := sm_in6 (i := 216) rfl
theorem wp81 : Jvm.Cond.selects "TeaCabinetModel" ⟨"TeaCabinetModel", "runsOff", "()I"⟩ ⟨"TeaCabinetModel", "runsOff", "()I"⟩ ∈ lw_tbl := sm_inp (i := 81) rfl
theorem mw210 : sm_PW mm210 := ⟨ww1515, ww108, rfl, plainFor_of_name sm_pn8, ⟨sm_ne8, sm_pd0⟩, (fun h => absurd h (by decide)), (fun _ => ⟨ww1514, wp81⟩), (fun h => absurd h (by decide))⟩
theorem ww1519 : Jvm.Cond.code ⟨"TeaCabinetModel", "best", "()I"⟩ prog_10_method_79_code 2 (some .int) ∈ lw_tbl := sm_in6 (i := 221) rfl
theorem ww1517 : Jvm.Cond.instanceMethod ⟨"TeaCabinetModel", "best", "()I"⟩ ∈ lw_tbl := sm_in6 (i := 219) rfl
theorem ww1518 : Jvm.Cond.selects "TeaCabinetModel" ⟨"TeaCabinetModel", "best", "()I"⟩ ⟨"TeaCabinetModel", "best", "()I"⟩ ∈ lw_tbl := sm_in6 (i := 220) rfl
theorem mw211 : sm_PW mm211 := ⟨ww1519, ww108, rfl, plainFor_of_name sm_pn8, ⟨sm_ne8, sm_pd0⟩, (fun h => absurd h (by decide)), (fun _ => ⟨ww1517, ww1518⟩), (fun h => absurd h (by decide))⟩
theorem ww1523 : Jvm.Cond.code ⟨"TeaCabinetModel", "beatsAll", "(II)Z"⟩ prog_10_method_78_code 4 (some .boolean) ∈ lw_tbl := sm_in6 (i := 225) rfl
theorem ww1522 : Jvm.Cond.instanceMethod ⟨"TeaCabinetModel", "beatsAll", "(II)Z"⟩ ∈ lw_tbl := sm_in6 (i := 224) rfl
theorem wp82 : Jvm.Cond.selects "TeaCabinetModel" ⟨"TeaCabinetModel", "beatsAll", "(II)Z"⟩ ⟨"TeaCabinetModel", "beatsAll", "(II)Z"⟩ ∈ lw_tbl := sm_inp (i := 82) rfl
theorem mw212 : sm_PW mm212 := ⟨ww1523, ww108, rfl, plainFor_of_name sm_pn8, ⟨sm_ne8, sm_pd9⟩, (fun h => absurd h (by decide)), (fun _ => ⟨ww1522, wp82⟩), (fun h => absurd h (by decide))⟩
theorem ww1527 : Jvm.Cond.code ⟨"TeaCabinetModel", "beats", "(II)Z"⟩ prog_10_method_69_code 3 (some .boolean) ∈ lw_tbl := sm_in6 (i := 229) rfl
theorem ww1526 : Jvm.Cond.instanceMethod ⟨"TeaCabinetModel", "beats", "(II)Z"⟩ ∈ lw_tbl := sm_in6 (i := 228) rfl
theorem wp83 : Jvm.Cond.selects "TeaCabinetModel" ⟨"TeaCabinetModel", "beats", "(II)Z"⟩ ⟨"TeaCabinetModel", "beats", "(II)Z"⟩ ∈ lw_tbl := sm_inp (i := 83) rfl
theorem mw213 : sm_PW mm213 := ⟨ww1527, ww108, rfl, plainFor_of_name sm_pn8, ⟨sm_ne8, sm_pd9⟩, (fun h => absurd h (by decide)), (fun _ => ⟨ww1526, wp83⟩), (fun h => absurd h (by decide))⟩
theorem ww1531 : Jvm.Cond.code ⟨"TeaCabinetModel", "set", "()I"⟩ prog_10_method_81_code 3 (some .int) ∈ lw_tbl := sm_in6 (i := 233) rfl
theorem ww1529 : Jvm.Cond.instanceMethod ⟨"TeaCabinetModel", "set", "()I"⟩ ∈ lw_tbl := sm_in6 (i := 231) rfl
theorem ww1530 : Jvm.Cond.selects "TeaCabinetModel" ⟨"TeaCabinetModel", "set", "()I"⟩ ⟨"TeaCabinetModel", "set", "()I"⟩ ∈ lw_tbl := sm_in6 (i := 232) rfl
theorem mw214 : sm_PW mm214 := ⟨ww1531, ww108, rfl, plainFor_of_name sm_pn8, ⟨sm_ne8, sm_pd0⟩, (fun h => absurd h (by decide)), (fun _ => ⟨ww1529, ww1530⟩), (fun h => absurd h (by decide))⟩
theorem ww1534 : Jvm.Cond.code ⟨"TeaCabinetModel", "bits", "(I)I"⟩ prog_10_method_7_code 3 (some .int) ∈ lw_tbl := sm_in6 (i := 236) rfl
theorem ww1533 : Jvm.Cond.static ⟨"TeaCabinetModel", "bits", "(I)I"⟩ ∈ lw_tbl := sm_in6 (i := 235) rfl
theorem mw215 : sm_PW mm215 := ⟨ww1534, ww108, rfl, plainFor_of_name sm_pn8, ⟨sm_ne8, sm_pd4⟩, (fun _ => ww1533), (fun h => absurd h (by decide)), (fun h => absurd h (by decide))⟩
theorem ww1538 : Jvm.Cond.code ⟨"TeaCabinetModel", "isSet", "(I)Z"⟩ prog_10_method_80_code 3 (some .boolean) ∈ lw_tbl := sm_in7 (i := 0) rfl
theorem ww1537 : Jvm.Cond.instanceMethod ⟨"TeaCabinetModel", "isSet", "(I)Z"⟩ ∈ lw_tbl := sm_in6 (i := 239) rfl
theorem wp84 : Jvm.Cond.selects "TeaCabinetModel" ⟨"TeaCabinetModel", "isSet", "(I)Z"⟩ ⟨"TeaCabinetModel", "isSet", "(I)Z"⟩ ∈ lw_tbl := sm_inp (i := 84) rfl
theorem mw216 : sm_PW mm216 := ⟨ww1538, ww108, rfl, plainFor_of_name sm_pn8, ⟨sm_ne8, sm_pd6⟩, (fun h => absurd h (by decide)), (fun _ => ⟨ww1537, wp84⟩), (fun h => absurd h (by decide))⟩
theorem ww1542 : Jvm.Cond.code ⟨"TeaCabinetModel", "widest", "(II)I"⟩ prog_10_method_83_code 3 (some .int) ∈ lw_tbl := sm_in7 (i := 4) rfl
theorem ww1540 : Jvm.Cond.instanceMethod ⟨"TeaCabinetModel", "widest", "(II)I"⟩ ∈ lw_tbl := sm_in7 (i := 2) rfl
theorem ww1541 : Jvm.Cond.selects "TeaCabinetModel" ⟨"TeaCabinetModel", "widest", "(II)I"⟩ ⟨"TeaCabinetModel", "widest", "(II)I"⟩ ∈ lw_tbl := sm_in7 (i := 3) rfl
theorem mw217 : sm_PW mm217 := ⟨ww1542, ww108, rfl, plainFor_of_name sm_pn8, ⟨sm_ne8, sm_pd7⟩, (fun h => absurd h (by decide)), (fun _ => ⟨ww1540, ww1541⟩), (fun h => absurd h (by decide))⟩
theorem ww1546 : Jvm.Cond.code ⟨"TeaCabinetModel", "laysWide", "()V"⟩ prog_10_method_82_code 4 (none) ∈ lw_tbl := sm_in7 (i := 8) rfl
theorem ww1545 : Jvm.Cond.instanceMethod ⟨"TeaCabinetModel", "laysWide", "()V"⟩ ∈ lw_tbl := sm_in7 (i := 7) rfl
theorem wp85 : Jvm.Cond.selects "TeaCabinetModel" ⟨"TeaCabinetModel", "laysWide", "()V"⟩ ⟨"TeaCabinetModel", "laysWide", "()V"⟩ ∈ lw_tbl := sm_inp (i := 85) rfl
theorem mw218 : sm_PW mm218 := ⟨ww1546, ww108, rfl, plainFor_of_name sm_pn8, ⟨sm_ne8, sm_pd2⟩, (fun h => absurd h (by decide)), (fun _ => ⟨ww1545, wp85⟩), (fun h => absurd h (by decide))⟩
theorem ww1549 : Jvm.Cond.code ⟨"TeaCabinetModel", "min", "(II)I"⟩ prog_10_method_3_code 2 (some .int) ∈ lw_tbl := sm_in7 (i := 11) rfl
theorem ww1548 : Jvm.Cond.static ⟨"TeaCabinetModel", "min", "(II)I"⟩ ∈ lw_tbl := sm_in7 (i := 10) rfl
theorem mw219 : sm_PW mm219 := ⟨ww1549, ww108, rfl, plainFor_of_name sm_pn8, ⟨sm_ne8, sm_pd7⟩, (fun _ => ww1548), (fun h => absurd h (by decide)), (fun h => absurd h (by decide))⟩
theorem ww1553 : Jvm.Cond.code ⟨"TeaCabinetModel", "pathWinners", "()I"⟩ prog_10_method_84_code 5 (some .int) ∈ lw_tbl := sm_in7 (i := 15) rfl
theorem ww1551 : Jvm.Cond.instanceMethod ⟨"TeaCabinetModel", "pathWinners", "()I"⟩ ∈ lw_tbl := sm_in7 (i := 13) rfl
theorem ww1552 : Jvm.Cond.selects "TeaCabinetModel" ⟨"TeaCabinetModel", "pathWinners", "()I"⟩ ⟨"TeaCabinetModel", "pathWinners", "()I"⟩ ∈ lw_tbl := sm_in7 (i := 14) rfl
theorem mw220 : sm_PW mm220 := ⟨ww1553, ww108, rfl, plainFor_of_name sm_pn8, ⟨sm_ne8, sm_pd0⟩, (fun h => absurd h (by decide)), (fun _ => ⟨ww1551, ww1552⟩), (fun h => absurd h (by decide))⟩
theorem ww1557 : Jvm.Cond.code ⟨"TeaCabinetModel", "agenda", "(I)I"⟩ prog_10_method_86_code 4 (some .int) ∈ lw_tbl := sm_in7 (i := 19) rfl
theorem ww1555 : Jvm.Cond.instanceMethod ⟨"TeaCabinetModel", "agenda", "(I)I"⟩ ∈ lw_tbl := sm_in7 (i := 17) rfl
theorem ww1556 : Jvm.Cond.selects "TeaCabinetModel" ⟨"TeaCabinetModel", "agenda", "(I)I"⟩ ⟨"TeaCabinetModel", "agenda", "(I)I"⟩ ∈ lw_tbl := sm_in7 (i := 18) rfl
theorem mw221 : sm_PW mm221 := ⟨ww1557, ww108, rfl, plainFor_of_name sm_pn8, ⟨sm_ne8, sm_pd4⟩, (fun h => absurd h (by decide)), (fun _ => ⟨ww1555, ww1556⟩), (fun h => absurd h (by decide))⟩
theorem ww1561 : Jvm.Cond.code ⟨"TeaCabinetModel", "winsOf", "(II)I"⟩ prog_10_method_85_code 3 (some .int) ∈ lw_tbl := sm_in7 (i := 23) rfl
theorem ww1560 : Jvm.Cond.instanceMethod ⟨"TeaCabinetModel", "winsOf", "(II)I"⟩ ∈ lw_tbl := sm_in7 (i := 22) rfl
theorem wp86 : Jvm.Cond.selects "TeaCabinetModel" ⟨"TeaCabinetModel", "winsOf", "(II)I"⟩ ⟨"TeaCabinetModel", "winsOf", "(II)I"⟩ ∈ lw_tbl := sm_inp (i := 86) rfl
theorem mw222 : sm_PW mm222 := ⟨ww1561, ww108, rfl, plainFor_of_name sm_pn8, ⟨sm_ne8, sm_pd7⟩, (fun h => absurd h (by decide)), (fun _ => ⟨ww1560, wp86⟩), (fun h => absurd h (by decide))⟩
theorem ww1565 : Jvm.Cond.code ⟨"TeaCabinetModel", "orders", "(II)I"⟩ prog_10_method_91_code 7 (some .int) ∈ lw_tbl := sm_in7 (i := 27) rfl
theorem ww1563 : Jvm.Cond.instanceMethod ⟨"TeaCabinetModel", "orders", "(II)I"⟩ ∈ lw_tbl := sm_in7 (i := 25) rfl
theorem ww1564 : Jvm.Cond.selects "TeaCabinetModel" ⟨"TeaCabinetModel", "orders", "(II)I"⟩ ⟨"TeaCabinetModel", "orders", "(II)I"⟩ ∈ lw_tbl := sm_in7 (i := 26) rfl
theorem mw223 : sm_PW mm223 := ⟨ww1565, ww108, rfl, plainFor_of_name sm_pn8, ⟨sm_ne8, sm_pd7⟩, (fun h => absurd h (by decide)), (fun _ => ⟨ww1563, ww1564⟩), (fun h => absurd h (by decide))⟩
theorem ww1569 : Jvm.Cond.code ⟨"TeaCabinetModel", "beginsRows", "()V"⟩ prog_10_method_89_code 2 (none) ∈ lw_tbl := sm_in7 (i := 31) rfl
theorem ww1568 : Jvm.Cond.instanceMethod ⟨"TeaCabinetModel", "beginsRows", "()V"⟩ ∈ lw_tbl := sm_in7 (i := 30) rfl
theorem wp87 : Jvm.Cond.selects "TeaCabinetModel" ⟨"TeaCabinetModel", "beginsRows", "()V"⟩ ⟨"TeaCabinetModel", "beginsRows", "()V"⟩ ∈ lw_tbl := sm_inp (i := 87) rfl
theorem mw224 : sm_PW mm224 := ⟨ww1569, ww108, rfl, plainFor_of_name sm_pn8, ⟨sm_ne8, sm_pd2⟩, (fun h => absurd h (by decide)), (fun _ => ⟨ww1568, wp87⟩), (fun h => absurd h (by decide))⟩
theorem ww1573 : Jvm.Cond.code ⟨"TeaCabinetModel", "keepsRow", "()V"⟩ prog_10_method_90_code 2 (none) ∈ lw_tbl := sm_in7 (i := 35) rfl
theorem ww1572 : Jvm.Cond.instanceMethod ⟨"TeaCabinetModel", "keepsRow", "()V"⟩ ∈ lw_tbl := sm_in7 (i := 34) rfl
theorem wp88 : Jvm.Cond.selects "TeaCabinetModel" ⟨"TeaCabinetModel", "keepsRow", "()V"⟩ ⟨"TeaCabinetModel", "keepsRow", "()V"⟩ ∈ lw_tbl := sm_inp (i := 88) rfl
theorem mw225 : sm_PW mm225 := ⟨ww1573, ww108, rfl, plainFor_of_name sm_pn8, ⟨sm_ne8, sm_pd2⟩, (fun h => absurd h (by decide)), (fun _ => ⟨ww1572, wp88⟩), (fun h => absurd h (by decide))⟩
theorem ww1577 : Jvm.Cond.code ⟨"TeaCabinetModel", "goesNext", "(I)Z"⟩ prog_10_method_87_code 6 (some .boolean) ∈ lw_tbl := sm_in7 (i := 39) rfl
theorem ww1576 : Jvm.Cond.instanceMethod ⟨"TeaCabinetModel", "goesNext", "(I)Z"⟩ ∈ lw_tbl := sm_in7 (i := 38) rfl
theorem wp89 : Jvm.Cond.selects "TeaCabinetModel" ⟨"TeaCabinetModel", "goesNext", "(I)Z"⟩ ⟨"TeaCabinetModel", "goesNext", "(I)Z"⟩ ∈ lw_tbl := sm_inp (i := 89) rfl
theorem mw226 : sm_PW mm226 := ⟨ww1577, ww108, rfl, plainFor_of_name sm_pn8, ⟨sm_ne8, sm_pd6⟩, (fun h => absurd h (by decide)), (fun _ => ⟨ww1576, wp89⟩), (fun h => absurd h (by decide))⟩
theorem ww1581 : Jvm.Cond.code ⟨"TeaCabinetModel", "changes", "(II)V"⟩ prog_10_method_88_code 4 (none) ∈ lw_tbl := sm_in7 (i := 43) rfl
theorem ww1580 : Jvm.Cond.instanceMethod ⟨"TeaCabinetModel", "changes", "(II)V"⟩ ∈ lw_tbl := sm_in7 (i := 42) rfl
theorem wp90 : Jvm.Cond.selects "TeaCabinetModel" ⟨"TeaCabinetModel", "changes", "(II)V"⟩ ⟨"TeaCabinetModel", "changes", "(II)V"⟩ ∈ lw_tbl := sm_inp (i := 90) rfl
theorem mw227 : sm_PW mm227 := ⟨ww1581, ww108, rfl, plainFor_of_name sm_pn8, ⟨sm_ne8, sm_pd8⟩, (fun h => absurd h (by decide)), (fun _ => ⟨ww1580, wp90⟩), (fun h => absurd h (by decide))⟩
theorem ww1585 : Jvm.Cond.code ⟨"TeaCabinetModel", "power", "(II)I"⟩ prog_10_method_94_code 6 (some .int) ∈ lw_tbl := sm_in7 (i := 47) rfl
theorem ww1583 : Jvm.Cond.instanceMethod ⟨"TeaCabinetModel", "power", "(II)I"⟩ ∈ lw_tbl := sm_in7 (i := 45) rfl
theorem ww1584 : Jvm.Cond.selects "TeaCabinetModel" ⟨"TeaCabinetModel", "power", "(II)I"⟩ ⟨"TeaCabinetModel", "power", "(II)I"⟩ ∈ lw_tbl := sm_in7 (i := 46) rfl
theorem mw228 : sm_PW mm228 := ⟨ww1585, ww108, rfl, plainFor_of_name sm_pn8, ⟨sm_ne8, sm_pd7⟩, (fun h => absurd h (by decide)), (fun _ => ⟨ww1583, ww1584⟩), (fun h => absurd h (by decide))⟩
theorem ww1589 : Jvm.Cond.code ⟨"TeaCabinetModel", "isMore", "(I)Z"⟩ prog_10_method_92_code 2 (some .boolean) ∈ lw_tbl := sm_in7 (i := 51) rfl
theorem ww1588 : Jvm.Cond.instanceMethod ⟨"TeaCabinetModel", "isMore", "(I)Z"⟩ ∈ lw_tbl := sm_in7 (i := 50) rfl
theorem wp91 : Jvm.Cond.selects "TeaCabinetModel" ⟨"TeaCabinetModel", "isMore", "(I)Z"⟩ ⟨"TeaCabinetModel", "isMore", "(I)Z"⟩ ∈ lw_tbl := sm_inp (i := 91) rfl
theorem mw229 : sm_PW mm229 := ⟨ww1589, ww108, rfl, plainFor_of_name sm_pn8, ⟨sm_ne8, sm_pd6⟩, (fun h => absurd h (by decide)), (fun _ => ⟨ww1588, wp91⟩), (fun h => absurd h (by decide))⟩
theorem ww1593 : Jvm.Cond.code ⟨"TeaCabinetModel", "biscuitsOf", "(I)I"⟩ prog_10_method_15_code 4 (some .int) ∈ lw_tbl := sm_in7 (i := 55) rfl
theorem ww1592 : Jvm.Cond.instanceMethod ⟨"TeaCabinetModel", "biscuitsOf", "(I)I"⟩ ∈ lw_tbl := sm_in7 (i := 54) rfl
theorem wp92 : Jvm.Cond.selects "TeaCabinetModel" ⟨"TeaCabinetModel", "biscuitsOf", "(I)I"⟩ ⟨"TeaCabinetModel", "biscuitsOf", "(I)I"⟩ ∈ lw_tbl := sm_inp (i := 92) rfl
theorem mw230 : sm_PW mm230 := ⟨ww1593, ww108, rfl, plainFor_of_name sm_pn8, ⟨sm_ne8, sm_pd4⟩, (fun h => absurd h (by decide)), (fun _ => ⟨ww1592, wp92⟩), (fun h => absurd h (by decide))⟩
theorem ww1597 : Jvm.Cond.code ⟨"TeaCabinetModel", "isLeast", "(I)Z"⟩ prog_10_method_93_code 3 (some .boolean) ∈ lw_tbl := sm_in7 (i := 59) rfl
theorem ww1596 : Jvm.Cond.instanceMethod ⟨"TeaCabinetModel", "isLeast", "(I)Z"⟩ ∈ lw_tbl := sm_in7 (i := 58) rfl
theorem wp93 : Jvm.Cond.selects "TeaCabinetModel" ⟨"TeaCabinetModel", "isLeast", "(I)Z"⟩ ⟨"TeaCabinetModel", "isLeast", "(I)Z"⟩ ∈ lw_tbl := sm_inp (i := 93) rfl
theorem mw231 : sm_PW mm231 := ⟨ww1597, ww108, rfl, plainFor_of_name sm_pn8, ⟨sm_ne8, sm_pd6⟩, (fun h => absurd h (by decide)), (fun _ => ⟨ww1596, wp93⟩), (fun h => absurd h (by decide))⟩
theorem ww1601 : Jvm.Cond.code ⟨"TeaCabinetModel", "wonOver", "(II)I"⟩ prog_10_method_96_code 5 (some .int) ∈ lw_tbl := sm_in7 (i := 63) rfl
theorem ww1599 : Jvm.Cond.instanceMethod ⟨"TeaCabinetModel", "wonOver", "(II)I"⟩ ∈ lw_tbl := sm_in7 (i := 61) rfl
theorem ww1600 : Jvm.Cond.selects "TeaCabinetModel" ⟨"TeaCabinetModel", "wonOver", "(II)I"⟩ ⟨"TeaCabinetModel", "wonOver", "(II)I"⟩ ∈ lw_tbl := sm_in7 (i := 62) rfl
theorem mw232 : sm_PW mm232 := ⟨ww1601, ww108, rfl, plainFor_of_name sm_pn8, ⟨sm_ne8, sm_pd7⟩, (fun h => absurd h (by decide)), (fun _ => ⟨ww1599, ww1600⟩), (fun h => absurd h (by decide))⟩
theorem ww1605 : Jvm.Cond.code ⟨"TeaCabinetModel", "isWon", "(II)Z"⟩ prog_10_method_95_code 4 (some .boolean) ∈ lw_tbl := sm_in7 (i := 67) rfl
theorem ww1604 : Jvm.Cond.instanceMethod ⟨"TeaCabinetModel", "isWon", "(II)Z"⟩ ∈ lw_tbl := sm_in7 (i := 66) rfl
theorem wp94 : Jvm.Cond.selects "TeaCabinetModel" ⟨"TeaCabinetModel", "isWon", "(II)Z"⟩ ⟨"TeaCabinetModel", "isWon", "(II)Z"⟩ ∈ lw_tbl := sm_inp (i := 94) rfl
theorem mw233 : sm_PW mm233 := ⟨ww1605, ww108, rfl, plainFor_of_name sm_pn8, ⟨sm_ne8, sm_pd9⟩, (fun h => absurd h (by decide)), (fun _ => ⟨ww1604, wp94⟩), (fun h => absurd h (by decide))⟩
theorem ww1609 : Jvm.Cond.code ⟨"TeaCabinetModel", "lie", "(II)I"⟩ prog_10_method_97_code 7 (some .int) ∈ lw_tbl := sm_in7 (i := 71) rfl
theorem ww1607 : Jvm.Cond.instanceMethod ⟨"TeaCabinetModel", "lie", "(II)I"⟩ ∈ lw_tbl := sm_in7 (i := 69) rfl
theorem ww1608 : Jvm.Cond.selects "TeaCabinetModel" ⟨"TeaCabinetModel", "lie", "(II)I"⟩ ⟨"TeaCabinetModel", "lie", "(II)I"⟩ ∈ lw_tbl := sm_in7 (i := 70) rfl
theorem mw234 : sm_PW mm234 := ⟨ww1609, ww108, rfl, plainFor_of_name sm_pn8, ⟨sm_ne8, sm_pd7⟩, (fun h => absurd h (by decide)), (fun _ => ⟨ww1607, ww1608⟩), (fun h => absurd h (by decide))⟩
theorem ww1613 : Jvm.Cond.code ⟨"TeaCabinetModel", "sure", "(II)I"⟩ prog_10_method_98_code 9 (some .int) ∈ lw_tbl := sm_in7 (i := 75) rfl
theorem ww1611 : Jvm.Cond.instanceMethod ⟨"TeaCabinetModel", "sure", "(II)I"⟩ ∈ lw_tbl := sm_in7 (i := 73) rfl
theorem ww1612 : Jvm.Cond.selects "TeaCabinetModel" ⟨"TeaCabinetModel", "sure", "(II)I"⟩ ⟨"TeaCabinetModel", "sure", "(II)I"⟩ ∈ lw_tbl := sm_in7 (i := 74) rfl
theorem mw235 : sm_PW mm235 := ⟨ww1613, ww108, rfl, plainFor_of_name sm_pn8, ⟨sm_ne8, sm_pd7⟩, (fun h => absurd h (by decide)), (fun _ => ⟨ww1611, ww1612⟩), (fun h => absurd h (by decide))⟩
theorem ww1617 : Jvm.Cond.code ⟨"TeaCabinetModel", "cup", "(I)I"⟩ prog_10_method_99_code 2 (some .int) ∈ lw_tbl := sm_in7 (i := 79) rfl
theorem ww1615 : Jvm.Cond.instanceMethod ⟨"TeaCabinetModel", "cup", "(I)I"⟩ ∈ lw_tbl := sm_in7 (i := 77) rfl
theorem ww1616 : Jvm.Cond.selects "TeaCabinetModel" ⟨"TeaCabinetModel", "cup", "(I)I"⟩ ⟨"TeaCabinetModel", "cup", "(I)I"⟩ ∈ lw_tbl := sm_in7 (i := 78) rfl
theorem mw236 : sm_PW mm236 := ⟨ww1617, ww108, rfl, plainFor_of_name sm_pn8, ⟨sm_ne8, sm_pd4⟩, (fun h => absurd h (by decide)), (fun _ => ⟨ww1615, ww1616⟩), (fun h => absurd h (by decide))⟩
theorem ww1621 : Jvm.Cond.code ⟨"TeaCabinetModel", "where", "(I)I"⟩ prog_10_method_100_code 7 (some .int) ∈ lw_tbl := sm_in7 (i := 83) rfl
theorem ww1619 : Jvm.Cond.instanceMethod ⟨"TeaCabinetModel", "where", "(I)I"⟩ ∈ lw_tbl := sm_in7 (i := 81) rfl
theorem ww1620 : Jvm.Cond.selects "TeaCabinetModel" ⟨"TeaCabinetModel", "where", "(I)I"⟩ ⟨"TeaCabinetModel", "where", "(I)I"⟩ ∈ lw_tbl := sm_in7 (i := 82) rfl
theorem mw237 : sm_PW mm237 := ⟨ww1621, ww108, rfl, plainFor_of_name sm_pn8, ⟨sm_ne8, sm_pd4⟩, (fun h => absurd h (by decide)), (fun _ => ⟨ww1619, ww1620⟩), (fun h => absurd h (by decide))⟩
theorem ww1626 : Jvm.Cond.code ⟨"TeaCabinetModel", "end", "(II)I"⟩ prog_10_method_101_code 5 (some .int) ∈ lw_tbl := sm_in7 (i := 88) rfl
theorem ww1624 : Jvm.Cond.instanceMethod ⟨"TeaCabinetModel", "end", "(II)I"⟩ ∈ lw_tbl := sm_in7 (i := 86) rfl
theorem ww1625 : Jvm.Cond.selects "TeaCabinetModel" ⟨"TeaCabinetModel", "end", "(II)I"⟩ ⟨"TeaCabinetModel", "end", "(II)I"⟩ ∈ lw_tbl := sm_in7 (i := 87) rfl
theorem mw238 : sm_PW mm238 := ⟨ww1626, ww108, rfl, plainFor_of_name sm_pn8, ⟨sm_ne8, sm_pd7⟩, (fun h => absurd h (by decide)), (fun _ => ⟨ww1624, ww1625⟩), (fun h => absurd h (by decide))⟩
theorem ww1630 : Jvm.Cond.code ⟨"TeaCabinetModel", "left", "(II)I"⟩ prog_10_method_102_code 5 (some .int) ∈ lw_tbl := sm_in7 (i := 92) rfl
theorem ww1628 : Jvm.Cond.instanceMethod ⟨"TeaCabinetModel", "left", "(II)I"⟩ ∈ lw_tbl := sm_in7 (i := 90) rfl
theorem ww1629 : Jvm.Cond.selects "TeaCabinetModel" ⟨"TeaCabinetModel", "left", "(II)I"⟩ ⟨"TeaCabinetModel", "left", "(II)I"⟩ ∈ lw_tbl := sm_in7 (i := 91) rfl
theorem mw239 : sm_PW mm239 := ⟨ww1630, ww108, rfl, plainFor_of_name sm_pn8, ⟨sm_ne8, sm_pd7⟩, (fun h => absurd h (by decide)), (fun _ => ⟨ww1628, ww1629⟩), (fun h => absurd h (by decide))⟩
theorem ww1634 : Jvm.Cond.code ⟨"TeaCabinetModel", "parted", "(I)I"⟩ prog_10_method_104_code 4 (some .int) ∈ lw_tbl := sm_in7 (i := 96) rfl
theorem ww1632 : Jvm.Cond.instanceMethod ⟨"TeaCabinetModel", "parted", "(I)I"⟩ ∈ lw_tbl := sm_in7 (i := 94) rfl
theorem ww1633 : Jvm.Cond.selects "TeaCabinetModel" ⟨"TeaCabinetModel", "parted", "(I)I"⟩ ⟨"TeaCabinetModel", "parted", "(I)I"⟩ ∈ lw_tbl := sm_in7 (i := 95) rfl
theorem mw240 : sm_PW mm240 := ⟨ww1634, ww108, rfl, plainFor_of_name sm_pn8, ⟨sm_ne8, sm_pd4⟩, (fun h => absurd h (by decide)), (fun _ => ⟨ww1632, ww1633⟩), (fun h => absurd h (by decide))⟩
theorem ww1638 : Jvm.Cond.code ⟨"TeaCabinetModel", "apartBy", "(I)I"⟩ prog_10_method_103_code 5 (some .int) ∈ lw_tbl := sm_in7 (i := 100) rfl
theorem ww1637 : Jvm.Cond.instanceMethod ⟨"TeaCabinetModel", "apartBy", "(I)I"⟩ ∈ lw_tbl := sm_in7 (i := 99) rfl
theorem wp95 : Jvm.Cond.selects "TeaCabinetModel" ⟨"TeaCabinetModel", "apartBy", "(I)I"⟩ ⟨"TeaCabinetModel", "apartBy", "(I)I"⟩ ∈ lw_tbl := sm_inp (i := 95) rfl
theorem mw241 : sm_PW mm241 := ⟨ww1638, ww108, rfl, plainFor_of_name sm_pn8, ⟨sm_ne8, sm_pd4⟩, (fun h => absurd h (by decide)), (fun _ => ⟨ww1637, wp95⟩), (fun h => absurd h (by decide))⟩
theorem ww1641 : Jvm.Cond.code ⟨"TeaCabinetModel", "size", "(I)I"⟩ prog_10_method_5_code 1 (some .int) ∈ lw_tbl := sm_in7 (i := 103) rfl
theorem ww1640 : Jvm.Cond.static ⟨"TeaCabinetModel", "size", "(I)I"⟩ ∈ lw_tbl := sm_in7 (i := 102) rfl
theorem mw242 : sm_PW mm242 := ⟨ww1641, ww108, rfl, plainFor_of_name sm_pn8, ⟨sm_ne8, sm_pd4⟩, (fun _ => ww1640), (fun h => absurd h (by decide)), (fun h => absurd h (by decide))⟩
theorem ww1645 : Jvm.Cond.code ⟨"TeaCabinetModel", "alike", "(I)I"⟩ prog_10_method_107_code 5 (some .int) ∈ lw_tbl := sm_in7 (i := 107) rfl
theorem ww1643 : Jvm.Cond.instanceMethod ⟨"TeaCabinetModel", "alike", "(I)I"⟩ ∈ lw_tbl := sm_in7 (i := 105) rfl
theorem ww1644 : Jvm.Cond.selects "TeaCabinetModel" ⟨"TeaCabinetModel", "alike", "(I)I"⟩ ⟨"TeaCabinetModel", "alike", "(I)I"⟩ ∈ lw_tbl := sm_in7 (i := 106) rfl
theorem mw243 : sm_PW mm243 := ⟨ww1645, ww108, rfl, plainFor_of_name sm_pn8, ⟨sm_ne8, sm_pd4⟩, (fun h => absurd h (by decide)), (fun _ => ⟨ww1643, ww1644⟩), (fun h => absurd h (by decide))⟩
theorem ww1649 : Jvm.Cond.code ⟨"TeaCabinetModel", "partyOf", "(I)I"⟩ prog_10_method_106_code 4 (some .int) ∈ lw_tbl := sm_in7 (i := 111) rfl
theorem ww1648 : Jvm.Cond.instanceMethod ⟨"TeaCabinetModel", "partyOf", "(I)I"⟩ ∈ lw_tbl := sm_in7 (i := 110) rfl
theorem wp96 : Jvm.Cond.selects "TeaCabinetModel" ⟨"TeaCabinetModel", "partyOf", "(I)I"⟩ ⟨"TeaCabinetModel", "partyOf", "(I)I"⟩ ∈ lw_tbl := sm_inp (i := 96) rfl
theorem mw244 : sm_PW mm244 := ⟨ww1649, ww108, rfl, plainFor_of_name sm_pn8, ⟨sm_ne8, sm_pd4⟩, (fun h => absurd h (by decide)), (fun _ => ⟨ww1648, wp96⟩), (fun h => absurd h (by decide))⟩
theorem ww1653 : Jvm.Cond.code ⟨"TeaCabinetModel", "areOfOneMind", "(II)Z"⟩ prog_10_method_105_code 4 (some .boolean) ∈ lw_tbl := sm_in7 (i := 115) rfl
theorem ww1652 : Jvm.Cond.instanceMethod ⟨"TeaCabinetModel", "areOfOneMind", "(II)Z"⟩ ∈ lw_tbl := sm_in7 (i := 114) rfl
theorem wp97 : Jvm.Cond.selects "TeaCabinetModel" ⟨"TeaCabinetModel", "areOfOneMind", "(II)Z"⟩ ⟨"TeaCabinetModel", "areOfOneMind", "(II)Z"⟩ ∈ lw_tbl := sm_inp (i := 97) rfl
theorem mw245 : sm_PW mm245 := ⟨ww1653, ww108, rfl, plainFor_of_name sm_pn8, ⟨sm_ne8, sm_pd9⟩, (fun h => absurd h (by decide)), (fun _ => ⟨ww1652, wp97⟩), (fun h => absurd h (by decide))⟩
theorem ww1657 : Jvm.Cond.code ⟨"TeaCabinetModel", "seed", "(I)Z"⟩ prog_10_method_108_code 2 (some .boolean) ∈ lw_tbl := sm_in7 (i := 119) rfl
theorem ww1655 : Jvm.Cond.instanceMethod ⟨"TeaCabinetModel", "seed", "(I)Z"⟩ ∈ lw_tbl := sm_in7 (i := 117) rfl
theorem ww1656 : Jvm.Cond.selects "TeaCabinetModel" ⟨"TeaCabinetModel", "seed", "(I)Z"⟩ ⟨"TeaCabinetModel", "seed", "(I)Z"⟩ ∈ lw_tbl := sm_in7 (i := 118) rfl
theorem mw246 : sm_PW mm246 := ⟨ww1657, ww108, rfl, plainFor_of_name sm_pn8, ⟨sm_ne8, sm_pd6⟩, (fun h => absurd h (by decide)), (fun _ => ⟨ww1655, ww1656⟩), (fun h => absurd h (by decide))⟩
theorem ww1662 : Jvm.Cond.code ⟨"TeaCabinetModel", "keep", "()I"⟩ prog_10_method_109_code 1 (some .int) ∈ lw_tbl := sm_in7 (i := 124) rfl
theorem ww1660 : Jvm.Cond.instanceMethod ⟨"TeaCabinetModel", "keep", "()I"⟩ ∈ lw_tbl := sm_in7 (i := 122) rfl
theorem ww1661 : Jvm.Cond.selects "TeaCabinetModel" ⟨"TeaCabinetModel", "keep", "()I"⟩ ⟨"TeaCabinetModel", "keep", "()I"⟩ ∈ lw_tbl := sm_in7 (i := 123) rfl
theorem mw247 : sm_PW mm247 := ⟨ww1662, ww108, rfl, plainFor_of_name sm_pn8, ⟨sm_ne8, sm_pd0⟩, (fun h => absurd h (by decide)), (fun _ => ⟨ww1660, ww1661⟩), (fun h => absurd h (by decide))⟩
theorem ww1666 : Jvm.Cond.code ⟨"TeaCabinetModel", "undo", "()Z"⟩ prog_10_method_110_code 1 (some .boolean) ∈ lw_tbl := sm_in7 (i := 128) rfl
theorem ww1664 : Jvm.Cond.instanceMethod ⟨"TeaCabinetModel", "undo", "()Z"⟩ ∈ lw_tbl := sm_in7 (i := 126) rfl
theorem ww1665 : Jvm.Cond.selects "TeaCabinetModel" ⟨"TeaCabinetModel", "undo", "()Z"⟩ ⟨"TeaCabinetModel", "undo", "()Z"⟩ ∈ lw_tbl := sm_in7 (i := 127) rfl
theorem mw248 : sm_PW mm248 := ⟨ww1666, ww108, rfl, plainFor_of_name sm_pn8, ⟨sm_ne8, sm_pd3⟩, (fun h => absurd h (by decide)), (fun _ => ⟨ww1664, ww1665⟩), (fun h => absurd h (by decide))⟩
theorem ww1670 : Jvm.Cond.code ⟨"TeaCabinetModel", "check", "(I)I"⟩ prog_10_method_111_code 3 (some .int) ∈ lw_tbl := sm_in7 (i := 132) rfl
theorem ww1668 : Jvm.Cond.instanceMethod ⟨"TeaCabinetModel", "check", "(I)I"⟩ ∈ lw_tbl := sm_in7 (i := 130) rfl
theorem ww1669 : Jvm.Cond.selects "TeaCabinetModel" ⟨"TeaCabinetModel", "check", "(I)I"⟩ ⟨"TeaCabinetModel", "check", "(I)I"⟩ ∈ lw_tbl := sm_in7 (i := 131) rfl
theorem mw249 : sm_PW mm249 := ⟨ww1670, ww108, rfl, plainFor_of_name sm_pn8, ⟨sm_ne8, sm_pd4⟩, (fun h => absurd h (by decide)), (fun _ => ⟨ww1668, ww1669⟩), (fun h => absurd h (by decide))⟩
theorem ww1674 : Jvm.Cond.code ⟨"TeaCabinetModel", "count", "(I)I"⟩ prog_10_method_112_code 2 (some .int) ∈ lw_tbl := sm_in7 (i := 136) rfl
theorem ww1672 : Jvm.Cond.instanceMethod ⟨"TeaCabinetModel", "count", "(I)I"⟩ ∈ lw_tbl := sm_in7 (i := 134) rfl
theorem ww1673 : Jvm.Cond.selects "TeaCabinetModel" ⟨"TeaCabinetModel", "count", "(I)I"⟩ ⟨"TeaCabinetModel", "count", "(I)I"⟩ ∈ lw_tbl := sm_in7 (i := 135) rfl
theorem mw250 : sm_PW mm250 := ⟨ww1674, ww108, rfl, plainFor_of_name sm_pn8, ⟨sm_ne8, sm_pd4⟩, (fun h => absurd h (by decide)), (fun _ => ⟨ww1672, ww1673⟩), (fun h => absurd h (by decide))⟩
noncomputable def sm_PCd (E : sm_M) : Prop := ∃ t, E.2.2.2.2.2.2.2.2 = sm_cd E.2.2.2.2.2.2.2.1 t
noncomputable def sm_PCl (a : Nat) (r : vw_C) : Prop := (∀ k, k < r.2.2 → u_lay r.1 r.2.1 k ∈ lw_tbl) ∧ Jvm.Cond.instantiable r.1 r.2.2 ∈ lw_tbl ∧ Jvm.Cond.initialized r.1 ∈ lw_tbl ∧ sm_o a = r.1 ∧ (∀ k, k < r.2.2 → parseFieldDescriptor (r.2.1 k).2.2.1 = some ((sm_fy.getD a (fun _ => .int)) k)) ∧ (∀ x, x < r.2.2 → ∀ y, y < r.2.2 → x ≠ y → (r.2.1 x).2.1 ≠ (r.2.1 y).2.1) ∧ ∀ k, k < r.2.2 → (r.2.1 k).1 = r.1
theorem ww375 : Jvm.Cond.laysFinal "TeaCabinet$AgendaReader" "TeaCabinet$AgendaReader" "text" "LTeaCabinet$Text;" ∈ lw_tbl := sm_in2 (i := 37) rfl
theorem ww377 : Jvm.Cond.laysFinal "TeaCabinet$AgendaReader" "TeaCabinet$AgendaReader" "votes" "LTeaCabinet$Votes;" ∈ lw_tbl := sm_in2 (i := 39) rfl
theorem ww368 : Jvm.Cond.instantiable "TeaCabinet$AgendaReader" 2 ∈ lw_tbl := sm_in2 (i := 30) rfl
theorem cq0 : ∀ k, k < 2 → u_lay "TeaCabinet$AgendaReader" fT0 k ∈ lw_tbl := fun k hk => match k, hk with
  | 0, _ => ww375
  | 1, _ => ww377
  | k + 2, h => absurd h (by omega)
theorem cn0 : ∀ x, x < 2 → ∀ y, y < 2 → x ≠ y → (fT0 x).2.1 ≠ (fT0 y).2.1 := by decide +kernel
theorem ct0 : ∀ k, k < 2 → parseFieldDescriptor (fT0 k).2.2.1 = some (fY0 k) := by decide +kernel
theorem cd0 : ∀ k, k < 2 → (fT0 k).1 = "TeaCabinet$AgendaReader" := fun k hk => match k, hk with
  | 0, _ => rfl
  | 1, _ => rfl
  | k + 2, h => absurd h (by omega)
theorem cl0 : sm_PCl 0 ("TeaCabinet$AgendaReader", fT0, 2) := ⟨cq0, ww368, ww106, rfl, ct0, cn0, cd0⟩
theorem ww325 : Jvm.Cond.lays "TeaCabinet$Law" "TeaCabinet$Law" "rules" "I" ∈ lw_tbl := sm_in1 (i := 227) rfl
theorem ww327 : Jvm.Cond.lays "TeaCabinet$Law" "TeaCabinet$Law" "length" "I" ∈ lw_tbl := sm_in1 (i := 229) rfl
theorem ww329 : Jvm.Cond.laysFinal "TeaCabinet$Law" "TeaCabinet$Law" "letter" "[I" ∈ lw_tbl := sm_in1 (i := 231) rfl
theorem ww331 : Jvm.Cond.laysFinal "TeaCabinet$Law" "TeaCabinet$Law" "amountFrom" "[I" ∈ lw_tbl := sm_in1 (i := 233) rfl
theorem ww333 : Jvm.Cond.laysFinal "TeaCabinet$Law" "TeaCabinet$Law" "testFrom" "[I" ∈ lw_tbl := sm_in1 (i := 235) rfl
theorem ww335 : Jvm.Cond.laysFinal "TeaCabinet$Law" "TeaCabinet$Law" "testTo" "[I" ∈ lw_tbl := sm_in1 (i := 237) rfl
theorem ww337 : Jvm.Cond.laysFinal "TeaCabinet$Law" "TeaCabinet$Law" "signs" "[I" ∈ lw_tbl := sm_in1 (i := 239) rfl
theorem ww339 : Jvm.Cond.laysFinal "TeaCabinet$Law" "TeaCabinet$Law" "operands" "[I" ∈ lw_tbl := sm_in2 (i := 1) rfl
theorem ww341 : Jvm.Cond.laysFinal "TeaCabinet$Law" "TeaCabinet$Law" "facts" "[I" ∈ lw_tbl := sm_in2 (i := 3) rfl
theorem ww343 : Jvm.Cond.laysFinal "TeaCabinet$Law" "TeaCabinet$Law" "stack" "[I" ∈ lw_tbl := sm_in2 (i := 5) rfl
theorem ww345 : Jvm.Cond.lays "TeaCabinet$Law" "TeaCabinet$Law" "refused" "Z" ∈ lw_tbl := sm_in2 (i := 7) rfl
theorem ww301 : Jvm.Cond.instantiable "TeaCabinet$Law" 11 ∈ lw_tbl := sm_in1 (i := 203) rfl
theorem cq1 : ∀ k, k < 11 → u_lay "TeaCabinet$Law" fT1 k ∈ lw_tbl := fun k hk => match k, hk with
  | 0, _ => ww325
  | 1, _ => ww327
  | 2, _ => ww329
  | 3, _ => ww331
  | 4, _ => ww333
  | 5, _ => ww335
  | 6, _ => ww337
  | 7, _ => ww339
  | 8, _ => ww341
  | 9, _ => ww343
  | 10, _ => ww345
  | k + 11, h => absurd h (by omega)
theorem cn1 : ∀ x, x < 11 → ∀ y, y < 11 → x ≠ y → (fT1 x).2.1 ≠ (fT1 y).2.1 := by decide +kernel
theorem ct1 : ∀ k, k < 11 → parseFieldDescriptor (fT1 k).2.2.1 = some (fY1 k) := by decide +kernel
theorem cd1 : ∀ k, k < 11 → (fT1 k).1 = "TeaCabinet$Law" := fun k hk => match k, hk with
  | 0, _ => rfl
  | 1, _ => rfl
  | 2, _ => rfl
  | 3, _ => rfl
  | 4, _ => rfl
  | 5, _ => rfl
  | 6, _ => rfl
  | 7, _ => rfl
  | 8, _ => rfl
  | 9, _ => rfl
  | 10, _ => rfl
  | k + 11, h => absurd h (by omega)
theorem cl1 : sm_PCl 1 ("TeaCabinet$Law", fT1, 11) := ⟨cq1, ww301, ww104, rfl, ct1, cn1, cd1⟩
theorem ww360 : Jvm.Cond.laysFinal "TeaCabinet$LawReader" "TeaCabinet$LawReader" "text" "LTeaCabinet$Text;" ∈ lw_tbl := sm_in2 (i := 22) rfl
theorem ww362 : Jvm.Cond.laysFinal "TeaCabinet$LawReader" "TeaCabinet$LawReader" "draft" "LTeaCabinet$Law;" ∈ lw_tbl := sm_in2 (i := 24) rfl
theorem ww364 : Jvm.Cond.lays "TeaCabinet$LawReader" "TeaCabinet$LawReader" "open" "I" ∈ lw_tbl := sm_in2 (i := 26) rfl
theorem ww349 : Jvm.Cond.instantiable "TeaCabinet$LawReader" 3 ∈ lw_tbl := sm_in2 (i := 11) rfl
theorem cq2 : ∀ k, k < 3 → u_lay "TeaCabinet$LawReader" fT2 k ∈ lw_tbl := fun k hk => match k, hk with
  | 0, _ => ww360
  | 1, _ => ww362
  | 2, _ => ww364
  | k + 3, h => absurd h (by omega)
theorem cn2 : ∀ x, x < 3 → ∀ y, y < 3 → x ≠ y → (fT2 x).2.1 ≠ (fT2 y).2.1 := by decide +kernel
theorem ct2 : ∀ k, k < 3 → parseFieldDescriptor (fT2 k).2.2.1 = some (fY2 k) := by decide +kernel
theorem cd2 : ∀ k, k < 3 → (fT2 k).1 = "TeaCabinet$LawReader" := fun k hk => match k, hk with
  | 0, _ => rfl
  | 1, _ => rfl
  | 2, _ => rfl
  | k + 3, h => absurd h (by omega)
theorem cl2 : sm_PCl 2 ("TeaCabinet$LawReader", fT2, 3) := ⟨cq2, ww349, ww105, rfl, ct2, cn2, cd2⟩
theorem ww392 : Jvm.Cond.laysFinal "TeaCabinet$Service" "TeaCabinet$Service" "law" "LTeaCabinet$Law;" ∈ lw_tbl := sm_in2 (i := 54) rfl
theorem ww394 : Jvm.Cond.laysFinal "TeaCabinet$Service" "TeaCabinet$Service" "asked" "[I" ∈ lw_tbl := sm_in2 (i := 56) rfl
theorem ww396 : Jvm.Cond.lays "TeaCabinet$Service" "TeaCabinet$Service" "heat" "I" ∈ lw_tbl := sm_in2 (i := 58) rfl
theorem ww398 : Jvm.Cond.lays "TeaCabinet$Service" "TeaCabinet$Service" "cups" "I" ∈ lw_tbl := sm_in2 (i := 60) rfl
theorem ww381 : Jvm.Cond.instantiable "TeaCabinet$Service" 4 ∈ lw_tbl := sm_in2 (i := 43) rfl
theorem cq3 : ∀ k, k < 4 → u_lay "TeaCabinet$Service" fT3 k ∈ lw_tbl := fun k hk => match k, hk with
  | 0, _ => ww392
  | 1, _ => ww394
  | 2, _ => ww396
  | 3, _ => ww398
  | k + 4, h => absurd h (by omega)
theorem cn3 : ∀ x, x < 4 → ∀ y, y < 4 → x ≠ y → (fT3 x).2.1 ≠ (fT3 y).2.1 := by decide +kernel
theorem ct3 : ∀ k, k < 4 → parseFieldDescriptor (fT3 k).2.2.1 = some (fY3 k) := by decide +kernel
theorem cd3 : ∀ k, k < 4 → (fT3 k).1 = "TeaCabinet$Service" := fun k hk => match k, hk with
  | 0, _ => rfl
  | 1, _ => rfl
  | 2, _ => rfl
  | 3, _ => rfl
  | k + 4, h => absurd h (by omega)
theorem cl3 : sm_PCl 3 ("TeaCabinet$Service", fT3, 4) := ⟨cq3, ww381, ww107, rfl, ct3, cn3, cd3⟩
theorem ww217 : Jvm.Cond.lays "TeaCabinet$Table" "TeaCabinet$Table" "measureCount" "I" ∈ lw_tbl := sm_in1 (i := 119) rfl
theorem ww219 : Jvm.Cond.lays "TeaCabinet$Table" "TeaCabinet$Table" "told" "I" ∈ lw_tbl := sm_in1 (i := 121) rfl
theorem ww221 : Jvm.Cond.lays "TeaCabinet$Table" "TeaCabinet$Table" "mother" "I" ∈ lw_tbl := sm_in1 (i := 123) rfl
theorem ww223 : Jvm.Cond.lays "TeaCabinet$Table" "TeaCabinet$Table" "inForce" "I" ∈ lw_tbl := sm_in1 (i := 125) rfl
theorem ww225 : Jvm.Cond.lays "TeaCabinet$Table" "TeaCabinet$Table" "tea" "I" ∈ lw_tbl := sm_in1 (i := 127) rfl
theorem ww227 : Jvm.Cond.lays "TeaCabinet$Table" "TeaCabinet$Table" "spilt" "I" ∈ lw_tbl := sm_in1 (i := 129) rfl
theorem ww229 : Jvm.Cond.lays "TeaCabinet$Table" "TeaCabinet$Table" "x" "I" ∈ lw_tbl := sm_in1 (i := 131) rfl
theorem ww231 : Jvm.Cond.laysFinal "TeaCabinet$Table" "TeaCabinet$Table" "guestAt" "[I" ∈ lw_tbl := sm_in1 (i := 133) rfl
theorem ww233 : Jvm.Cond.laysFinal "TeaCabinet$Table" "TeaCabinet$Table" "seat" "[I" ∈ lw_tbl := sm_in1 (i := 135) rfl
theorem ww235 : Jvm.Cond.laysFinal "TeaCabinet$Table" "TeaCabinet$Table" "biscuits" "[I" ∈ lw_tbl := sm_in1 (i := 137) rfl
theorem ww237 : Jvm.Cond.laysFinal "TeaCabinet$Table" "TeaCabinet$Table" "hands" "[I" ∈ lw_tbl := sm_in1 (i := 139) rfl
theorem ww239 : Jvm.Cond.laysFinal "TeaCabinet$Table" "TeaCabinet$Table" "manners" "[I" ∈ lw_tbl := sm_in1 (i := 141) rfl
theorem ww241 : Jvm.Cond.laysFinal "TeaCabinet$Table" "TeaCabinet$Table" "burnt" "[I" ∈ lw_tbl := sm_in1 (i := 143) rfl
theorem ww243 : Jvm.Cond.laysFinal "TeaCabinet$Table" "TeaCabinet$Table" "poured" "[I" ∈ lw_tbl := sm_in1 (i := 145) rfl
theorem ww245 : Jvm.Cond.laysFinal "TeaCabinet$Table" "TeaCabinet$Table" "over" "[J" ∈ lw_tbl := sm_in1 (i := 147) rfl
theorem ww158 : Jvm.Cond.instantiable "TeaCabinet$Table" 15 ∈ lw_tbl := sm_in1 (i := 60) rfl
theorem cq4 : ∀ k, k < 15 → u_lay "TeaCabinet$Table" fT4 k ∈ lw_tbl := fun k hk => match k, hk with
  | 0, _ => ww217
  | 1, _ => ww219
  | 2, _ => ww221
  | 3, _ => ww223
  | 4, _ => ww225
  | 5, _ => ww227
  | 6, _ => ww229
  | 7, _ => ww231
  | 8, _ => ww233
  | 9, _ => ww235
  | 10, _ => ww237
  | 11, _ => ww239
  | 12, _ => ww241
  | 13, _ => ww243
  | 14, _ => ww245
  | k + 15, h => absurd h (by omega)
theorem cn4 : ∀ x, x < 15 → ∀ y, y < 15 → x ≠ y → (fT4 x).2.1 ≠ (fT4 y).2.1 := by decide +kernel
theorem ct4 : ∀ k, k < 15 → parseFieldDescriptor (fT4 k).2.2.1 = some (fY4 k) := by decide +kernel
theorem cd4 : ∀ k, k < 15 → (fT4 k).1 = "TeaCabinet$Table" := fun k hk => match k, hk with
  | 0, _ => rfl
  | 1, _ => rfl
  | 2, _ => rfl
  | 3, _ => rfl
  | 4, _ => rfl
  | 5, _ => rfl
  | 6, _ => rfl
  | 7, _ => rfl
  | 8, _ => rfl
  | 9, _ => rfl
  | 10, _ => rfl
  | 11, _ => rfl
  | 12, _ => rfl
  | 13, _ => rfl
  | 14, _ => rfl
  | k + 15, h => absurd h (by omega)
theorem cl4 : sm_PCl 4 ("TeaCabinet$Table", fT4, 15) := ⟨cq4, ww158, ww101, rfl, ct4, cn4, cd4⟩
theorem ww145 : Jvm.Cond.laysFinal "TeaCabinet$Text" "TeaCabinet$Text" "bytes" "[I" ∈ lw_tbl := sm_in1 (i := 47) rfl
theorem ww147 : Jvm.Cond.lays "TeaCabinet$Text" "TeaCabinet$Text" "length" "I" ∈ lw_tbl := sm_in1 (i := 49) rfl
theorem ww149 : Jvm.Cond.lays "TeaCabinet$Text" "TeaCabinet$Text" "stop" "I" ∈ lw_tbl := sm_in1 (i := 51) rfl
theorem ww151 : Jvm.Cond.lays "TeaCabinet$Text" "TeaCabinet$Text" "at" "I" ∈ lw_tbl := sm_in1 (i := 53) rfl
theorem ww153 : Jvm.Cond.lays "TeaCabinet$Text" "TeaCabinet$Text" "fault" "I" ∈ lw_tbl := sm_in1 (i := 55) rfl
theorem ww127 : Jvm.Cond.instantiable "TeaCabinet$Text" 5 ∈ lw_tbl := sm_in1 (i := 29) rfl
theorem cq5 : ∀ k, k < 5 → u_lay "TeaCabinet$Text" fT5 k ∈ lw_tbl := fun k hk => match k, hk with
  | 0, _ => ww145
  | 1, _ => ww147
  | 2, _ => ww149
  | 3, _ => ww151
  | 4, _ => ww153
  | k + 5, h => absurd h (by omega)
theorem cn5 : ∀ x, x < 5 → ∀ y, y < 5 → x ≠ y → (fT5 x).2.1 ≠ (fT5 y).2.1 := by decide +kernel
theorem ct5 : ∀ k, k < 5 → parseFieldDescriptor (fT5 k).2.2.1 = some (fY5 k) := by decide +kernel
theorem cd5 : ∀ k, k < 5 → (fT5 k).1 = "TeaCabinet$Text" := fun k hk => match k, hk with
  | 0, _ => rfl
  | 1, _ => rfl
  | 2, _ => rfl
  | 3, _ => rfl
  | 4, _ => rfl
  | k + 5, h => absurd h (by omega)
theorem cl5 : sm_PCl 5 ("TeaCabinet$Text", fT5, 5) := ⟨cq5, ww127, ww100, rfl, ct5, cn5, cd5⟩
theorem ww273 : Jvm.Cond.laysFinal "TeaCabinet$Votes" "TeaCabinet$Votes" "table" "LTeaCabinet$Table;" ∈ lw_tbl := sm_in1 (i := 175) rfl
theorem ww275 : Jvm.Cond.laysFinal "TeaCabinet$Votes" "TeaCabinet$Votes" "counts" "[I" ∈ lw_tbl := sm_in1 (i := 177) rfl
theorem ww277 : Jvm.Cond.laysFinal "TeaCabinet$Votes" "TeaCabinet$Votes" "pairs" "[I" ∈ lw_tbl := sm_in1 (i := 179) rfl
theorem ww279 : Jvm.Cond.laysFinal "TeaCabinet$Votes" "TeaCabinet$Votes" "beaten" "[I" ∈ lw_tbl := sm_in1 (i := 181) rfl
theorem ww281 : Jvm.Cond.laysFinal "TeaCabinet$Votes" "TeaCabinet$Votes" "widths" "[I" ∈ lw_tbl := sm_in1 (i := 183) rfl
theorem ww283 : Jvm.Cond.laysFinal "TeaCabinet$Votes" "TeaCabinet$Votes" "tally" "[I" ∈ lw_tbl := sm_in1 (i := 185) rfl
theorem ww285 : Jvm.Cond.laysFinal "TeaCabinet$Votes" "TeaCabinet$Votes" "out" "[I" ∈ lw_tbl := sm_in1 (i := 187) rfl
theorem ww287 : Jvm.Cond.laysFinal "TeaCabinet$Votes" "TeaCabinet$Votes" "ways" "[I" ∈ lw_tbl := sm_in1 (i := 189) rfl
theorem ww289 : Jvm.Cond.laysFinal "TeaCabinet$Votes" "TeaCabinet$Votes" "row" "[I" ∈ lw_tbl := sm_in1 (i := 191) rfl
theorem ww291 : Jvm.Cond.laysFinal "TeaCabinet$Votes" "TeaCabinet$Votes" "least" "[I" ∈ lw_tbl := sm_in1 (i := 193) rfl
theorem ww293 : Jvm.Cond.laysFinal "TeaCabinet$Votes" "TeaCabinet$Votes" "sets" "[I" ∈ lw_tbl := sm_in1 (i := 195) rfl
theorem ww295 : Jvm.Cond.laysFinal "TeaCabinet$Votes" "TeaCabinet$Votes" "firstOne" "[I" ∈ lw_tbl := sm_in1 (i := 197) rfl
theorem ww297 : Jvm.Cond.laysFinal "TeaCabinet$Votes" "TeaCabinet$Votes" "moved" "[I" ∈ lw_tbl := sm_in1 (i := 199) rfl
theorem ww250 : Jvm.Cond.instantiable "TeaCabinet$Votes" 13 ∈ lw_tbl := sm_in1 (i := 152) rfl
theorem cq6 : ∀ k, k < 13 → u_lay "TeaCabinet$Votes" fT6 k ∈ lw_tbl := fun k hk => match k, hk with
  | 0, _ => ww273
  | 1, _ => ww275
  | 2, _ => ww277
  | 3, _ => ww279
  | 4, _ => ww281
  | 5, _ => ww283
  | 6, _ => ww285
  | 7, _ => ww287
  | 8, _ => ww289
  | 9, _ => ww291
  | 10, _ => ww293
  | 11, _ => ww295
  | 12, _ => ww297
  | k + 13, h => absurd h (by omega)
theorem cn6 : ∀ x, x < 13 → ∀ y, y < 13 → x ≠ y → (fT6 x).2.1 ≠ (fT6 y).2.1 := by decide +kernel
theorem ct6 : ∀ k, k < 13 → parseFieldDescriptor (fT6 k).2.2.1 = some (fY6 k) := by decide +kernel
theorem cd6 : ∀ k, k < 13 → (fT6 k).1 = "TeaCabinet$Votes" := fun k hk => match k, hk with
  | 0, _ => rfl
  | 1, _ => rfl
  | 2, _ => rfl
  | 3, _ => rfl
  | 4, _ => rfl
  | 5, _ => rfl
  | 6, _ => rfl
  | 7, _ => rfl
  | 8, _ => rfl
  | 9, _ => rfl
  | 10, _ => rfl
  | 11, _ => rfl
  | 12, _ => rfl
  | k + 13, h => absurd h (by omega)
theorem cl6 : sm_PCl 6 ("TeaCabinet$Votes", fT6, 13) := ⟨cq6, ww250, ww103, rfl, ct6, cn6, cd6⟩
theorem ww413 : Jvm.Cond.laysFinal "TeaCabinet" "TeaCabinet" "tape" "LTeaCabinet$Text;" ∈ lw_tbl := sm_in2 (i := 75) rfl
theorem ww415 : Jvm.Cond.laysFinal "TeaCabinet" "TeaCabinet" "table" "LTeaCabinet$Table;" ∈ lw_tbl := sm_in2 (i := 77) rfl
theorem ww417 : Jvm.Cond.laysFinal "TeaCabinet" "TeaCabinet" "kept" "LTeaCabinet$Table;" ∈ lw_tbl := sm_in2 (i := 79) rfl
theorem ww419 : Jvm.Cond.laysFinal "TeaCabinet" "TeaCabinet" "trial" "LTeaCabinet$Table;" ∈ lw_tbl := sm_in2 (i := 81) rfl
theorem ww421 : Jvm.Cond.laysFinal "TeaCabinet" "TeaCabinet" "votes" "LTeaCabinet$Votes;" ∈ lw_tbl := sm_in2 (i := 83) rfl
theorem ww423 : Jvm.Cond.laysFinal "TeaCabinet" "TeaCabinet" "law" "LTeaCabinet$Law;" ∈ lw_tbl := sm_in2 (i := 85) rfl
theorem ww425 : Jvm.Cond.laysFinal "TeaCabinet" "TeaCabinet" "lawReader" "LTeaCabinet$LawReader;" ∈ lw_tbl := sm_in2 (i := 87) rfl
theorem ww427 : Jvm.Cond.laysFinal "TeaCabinet" "TeaCabinet" "agendaReader" "LTeaCabinet$AgendaReader;" ∈ lw_tbl := sm_in2 (i := 89) rfl
theorem ww429 : Jvm.Cond.laysFinal "TeaCabinet" "TeaCabinet" "service" "LTeaCabinet$Service;" ∈ lw_tbl := sm_in2 (i := 91) rfl
theorem ww431 : Jvm.Cond.laysFinal "TeaCabinet" "TeaCabinet" "begun" "[I" ∈ lw_tbl := sm_in2 (i := 93) rfl
theorem ww433 : Jvm.Cond.laysFinal "TeaCabinet" "TeaCabinet" "decided" "[I" ∈ lw_tbl := sm_in2 (i := 95) rfl
theorem ww435 : Jvm.Cond.lays "TeaCabinet" "TeaCabinet" "hasKept" "Z" ∈ lw_tbl := sm_in2 (i := 97) rfl
theorem ww119 : Jvm.Cond.instantiable "TeaCabinet" 12 ∈ lw_tbl := sm_in1 (i := 21) rfl
theorem cq7 : ∀ k, k < 12 → u_lay "TeaCabinet" fT7 k ∈ lw_tbl := fun k hk => match k, hk with
  | 0, _ => ww413
  | 1, _ => ww415
  | 2, _ => ww417
  | 3, _ => ww419
  | 4, _ => ww421
  | 5, _ => ww423
  | 6, _ => ww425
  | 7, _ => ww427
  | 8, _ => ww429
  | 9, _ => ww431
  | 10, _ => ww433
  | 11, _ => ww435
  | k + 12, h => absurd h (by omega)
theorem cn7 : ∀ x, x < 12 → ∀ y, y < 12 → x ≠ y → (fT7 x).2.1 ≠ (fT7 y).2.1 := by decide +kernel
theorem ct7 : ∀ k, k < 12 → parseFieldDescriptor (fT7 k).2.2.1 = some (fY7 k) := by decide +kernel
theorem cd7 : ∀ k, k < 12 → (fT7 k).1 = "TeaCabinet" := fun k hk => match k, hk with
  | 0, _ => rfl
  | 1, _ => rfl
  | 2, _ => rfl
  | 3, _ => rfl
  | 4, _ => rfl
  | 5, _ => rfl
  | 6, _ => rfl
  | 7, _ => rfl
  | 8, _ => rfl
  | 9, _ => rfl
  | 10, _ => rfl
  | 11, _ => rfl
  | k + 12, h => absurd h (by omega)
theorem cl7 : sm_PCl 7 ("TeaCabinet", fT7, 12) := ⟨cq7, ww119, ww99, rfl, ct7, cn7, cd7⟩
theorem ww1142 : Jvm.Cond.laysFinal "TeaCabinetModel" "TeaCabinetModel" "now" "[I" ∈ lw_tbl := sm_in5 (i := 84) rfl
theorem ww1144 : Jvm.Cond.laysFinal "TeaCabinetModel" "TeaCabinetModel" "aside" "[I" ∈ lw_tbl := sm_in5 (i := 86) rfl
theorem ww1146 : Jvm.Cond.laysFinal "TeaCabinetModel" "TeaCabinetModel" "kept" "[I" ∈ lw_tbl := sm_in5 (i := 88) rfl
theorem ww1148 : Jvm.Cond.lays "TeaCabinetModel" "TeaCabinetModel" "many" "I" ∈ lw_tbl := sm_in5 (i := 90) rfl
theorem ww1150 : Jvm.Cond.lays "TeaCabinetModel" "TeaCabinetModel" "heat" "I" ∈ lw_tbl := sm_in5 (i := 92) rfl
theorem ww1152 : Jvm.Cond.lays "TeaCabinetModel" "TeaCabinetModel" "cups" "I" ∈ lw_tbl := sm_in5 (i := 94) rfl
theorem ww1154 : Jvm.Cond.lays "TeaCabinetModel" "TeaCabinetModel" "isKept" "Z" ∈ lw_tbl := sm_in5 (i := 96) rfl
theorem ww1156 : Jvm.Cond.laysFinal "TeaCabinetModel" "TeaCabinetModel" "tape" "[B" ∈ lw_tbl := sm_in5 (i := 98) rfl
theorem ww1158 : Jvm.Cond.lays "TeaCabinetModel" "TeaCabinetModel" "taped" "I" ∈ lw_tbl := sm_in5 (i := 100) rfl
theorem ww1160 : Jvm.Cond.lays "TeaCabinetModel" "TeaCabinetModel" "place0" "I" ∈ lw_tbl := sm_in5 (i := 102) rfl
theorem ww1162 : Jvm.Cond.lays "TeaCabinetModel" "TeaCabinetModel" "length0" "I" ∈ lw_tbl := sm_in5 (i := 104) rfl
theorem ww1164 : Jvm.Cond.lays "TeaCabinetModel" "TeaCabinetModel" "fault" "I" ∈ lw_tbl := sm_in5 (i := 106) rfl
theorem ww1166 : Jvm.Cond.lays "TeaCabinetModel" "TeaCabinetModel" "number0" "I" ∈ lw_tbl := sm_in5 (i := 108) rfl
theorem ww1168 : Jvm.Cond.lays "TeaCabinetModel" "TeaCabinetModel" "open" "I" ∈ lw_tbl := sm_in5 (i := 110) rfl
theorem ww1170 : Jvm.Cond.lays "TeaCabinetModel" "TeaCabinetModel" "codeMany" "I" ∈ lw_tbl := sm_in5 (i := 112) rfl
theorem ww1172 : Jvm.Cond.lays "TeaCabinetModel" "TeaCabinetModel" "waiting" "I" ∈ lw_tbl := sm_in5 (i := 114) rfl
theorem ww1174 : Jvm.Cond.lays "TeaCabinetModel" "TeaCabinetModel" "saidMany" "I" ∈ lw_tbl := sm_in5 (i := 116) rfl
theorem ww1176 : Jvm.Cond.lays "TeaCabinetModel" "TeaCabinetModel" "clauses" "I" ∈ lw_tbl := sm_in5 (i := 118) rfl
theorem ww1178 : Jvm.Cond.laysFinal "TeaCabinetModel" "TeaCabinetModel" "said" "[I" ∈ lw_tbl := sm_in5 (i := 120) rfl
theorem ww1180 : Jvm.Cond.laysFinal "TeaCabinetModel" "TeaCabinetModel" "waitsAt" "[I" ∈ lw_tbl := sm_in5 (i := 122) rfl
theorem ww1182 : Jvm.Cond.laysFinal "TeaCabinetModel" "TeaCabinetModel" "saidLetter" "[I" ∈ lw_tbl := sm_in5 (i := 124) rfl
theorem ww1184 : Jvm.Cond.laysFinal "TeaCabinetModel" "TeaCabinetModel" "saidFrom" "[I" ∈ lw_tbl := sm_in5 (i := 126) rfl
theorem ww1186 : Jvm.Cond.laysFinal "TeaCabinetModel" "TeaCabinetModel" "saidHalf" "[I" ∈ lw_tbl := sm_in5 (i := 128) rfl
theorem ww1188 : Jvm.Cond.laysFinal "TeaCabinetModel" "TeaCabinetModel" "saidTo" "[I" ∈ lw_tbl := sm_in5 (i := 130) rfl
theorem ww1190 : Jvm.Cond.laysFinal "TeaCabinetModel" "TeaCabinetModel" "codes" "[I" ∈ lw_tbl := sm_in5 (i := 132) rfl
theorem ww1192 : Jvm.Cond.laysFinal "TeaCabinetModel" "TeaCabinetModel" "clauseOf" "[I" ∈ lw_tbl := sm_in5 (i := 134) rfl
theorem ww1194 : Jvm.Cond.laysFinal "TeaCabinetModel" "TeaCabinetModel" "codeFrom" "[I" ∈ lw_tbl := sm_in5 (i := 136) rfl
theorem ww1196 : Jvm.Cond.laysFinal "TeaCabinetModel" "TeaCabinetModel" "codeHalf" "[I" ∈ lw_tbl := sm_in5 (i := 138) rfl
theorem ww1198 : Jvm.Cond.laysFinal "TeaCabinetModel" "TeaCabinetModel" "codeTo" "[I" ∈ lw_tbl := sm_in5 (i := 140) rfl
theorem ww1200 : Jvm.Cond.laysFinal "TeaCabinetModel" "TeaCabinetModel" "stack" "[I" ∈ lw_tbl := sm_in5 (i := 142) rfl
theorem ww1202 : Jvm.Cond.laysFinal "TeaCabinetModel" "TeaCabinetModel" "facts" "[I" ∈ lw_tbl := sm_in5 (i := 144) rfl
theorem ww1204 : Jvm.Cond.laysFinal "TeaCabinetModel" "TeaCabinetModel" "newPlace" "[I" ∈ lw_tbl := sm_in5 (i := 146) rfl
theorem ww1206 : Jvm.Cond.lays "TeaCabinetModel" "TeaCabinetModel" "burntNow" "I" ∈ lw_tbl := sm_in5 (i := 148) rfl
theorem ww1208 : Jvm.Cond.lays "TeaCabinetModel" "TeaCabinetModel" "spiltNow" "I" ∈ lw_tbl := sm_in5 (i := 150) rfl
theorem ww1210 : Jvm.Cond.laysFinal "TeaCabinetModel" "TeaCabinetModel" "askedBy" "[I" ∈ lw_tbl := sm_in5 (i := 152) rfl
theorem ww1212 : Jvm.Cond.laysFinal "TeaCabinetModel" "TeaCabinetModel" "votesOf" "[I" ∈ lw_tbl := sm_in5 (i := 154) rfl
theorem ww1214 : Jvm.Cond.laysFinal "TeaCabinetModel" "TeaCabinetModel" "pointsOf" "[I" ∈ lw_tbl := sm_in5 (i := 156) rfl
theorem ww1216 : Jvm.Cond.laysFinal "TeaCabinetModel" "TeaCabinetModel" "outAt" "[I" ∈ lw_tbl := sm_in5 (i := 158) rfl
theorem ww1218 : Jvm.Cond.laysFinal "TeaCabinetModel" "TeaCabinetModel" "wideTo" "[I" ∈ lw_tbl := sm_in5 (i := 160) rfl
theorem ww1220 : Jvm.Cond.laysFinal "TeaCabinetModel" "TeaCabinetModel" "leftWon" "[I" ∈ lw_tbl := sm_in5 (i := 162) rfl
theorem ww1222 : Jvm.Cond.laysFinal "TeaCabinetModel" "TeaCabinetModel" "rowNow" "[I" ∈ lw_tbl := sm_in5 (i := 164) rfl
theorem ww1224 : Jvm.Cond.laysFinal "TeaCabinetModel" "TeaCabinetModel" "rowBest" "[I" ∈ lw_tbl := sm_in5 (i := 166) rfl
theorem ww1226 : Jvm.Cond.laysFinal "TeaCabinetModel" "TeaCabinetModel" "ownPlace" "[I" ∈ lw_tbl := sm_in5 (i := 168) rfl
theorem ww1228 : Jvm.Cond.laysFinal "TeaCabinetModel" "TeaCabinetModel" "whoOf" "[I" ∈ lw_tbl := sm_in5 (i := 170) rfl
theorem ww1230 : Jvm.Cond.laysFinal "TeaCabinetModel" "TeaCabinetModel" "votesWith" "[I" ∈ lw_tbl := sm_in5 (i := 172) rfl
theorem ww1232 : Jvm.Cond.laysFinal "TeaCabinetModel" "TeaCabinetModel" "oftenOf" "[I" ∈ lw_tbl := sm_in5 (i := 174) rfl
theorem ww1234 : Jvm.Cond.laysFinal "TeaCabinetModel" "TeaCabinetModel" "decidedOf" "[I" ∈ lw_tbl := sm_in5 (i := 176) rfl
theorem ww1090 : Jvm.Cond.instantiable "TeaCabinetModel" 47 ∈ lw_tbl := sm_in5 (i := 32) rfl
theorem cq8 : ∀ k, k < 47 → u_lay "TeaCabinetModel" fT8 k ∈ lw_tbl := fun k hk => match k, hk with
  | 0, _ => ww1142
  | 1, _ => ww1144
  | 2, _ => ww1146
  | 3, _ => ww1148
  | 4, _ => ww1150
  | 5, _ => ww1152
  | 6, _ => ww1154
  | 7, _ => ww1156
  | 8, _ => ww1158
  | 9, _ => ww1160
  | 10, _ => ww1162
  | 11, _ => ww1164
  | 12, _ => ww1166
  | 13, _ => ww1168
  | 14, _ => ww1170
  | 15, _ => ww1172
  | 16, _ => ww1174
  | 17, _ => ww1176
  | 18, _ => ww1178
  | 19, _ => ww1180
  | 20, _ => ww1182
  | 21, _ => ww1184
  | 22, _ => ww1186
  | 23, _ => ww1188
  | 24, _ => ww1190
  | 25, _ => ww1192
  | 26, _ => ww1194
  | 27, _ => ww1196
  | 28, _ => ww1198
  | 29, _ => ww1200
  | 30, _ => ww1202
  | 31, _ => ww1204
  | 32, _ => ww1206
  | 33, _ => ww1208
  | 34, _ => ww1210
  | 35, _ => ww1212
  | 36, _ => ww1214
  | 37, _ => ww1216
  | 38, _ => ww1218
  | 39, _ => ww1220
  | 40, _ => ww1222
  | 41, _ => ww1224
  | 42, _ => ww1226
  | 43, _ => ww1228
  | 44, _ => ww1230
  | 45, _ => ww1232
  | 46, _ => ww1234
  | k + 47, h => absurd h (by omega)
theorem cn8 : ∀ x, x < 47 → ∀ y, y < 47 → x ≠ y → (fT8 x).2.1 ≠ (fT8 y).2.1 := by decide +kernel
theorem ct8 : ∀ k, k < 47 → parseFieldDescriptor (fT8 k).2.2.1 = some (fY8 k) := by decide +kernel
theorem cd8 : ∀ k, k < 47 → (fT8 k).1 = "TeaCabinetModel" := fun k hk => match k, hk with
  | 0, _ => rfl
  | 1, _ => rfl
  | 2, _ => rfl
  | 3, _ => rfl
  | 4, _ => rfl
  | 5, _ => rfl
  | 6, _ => rfl
  | 7, _ => rfl
  | 8, _ => rfl
  | 9, _ => rfl
  | 10, _ => rfl
  | 11, _ => rfl
  | 12, _ => rfl
  | 13, _ => rfl
  | 14, _ => rfl
  | 15, _ => rfl
  | 16, _ => rfl
  | 17, _ => rfl
  | 18, _ => rfl
  | 19, _ => rfl
  | 20, _ => rfl
  | 21, _ => rfl
  | 22, _ => rfl
  | 23, _ => rfl
  | 24, _ => rfl
  | 25, _ => rfl
  | 26, _ => rfl
  | 27, _ => rfl
  | 28, _ => rfl
  | 29, _ => rfl
  | 30, _ => rfl
  | 31, _ => rfl
  | 32, _ => rfl
  | 33, _ => rfl
  | 34, _ => rfl
  | 35, _ => rfl
  | 36, _ => rfl
  | 37, _ => rfl
  | 38, _ => rfl
  | 39, _ => rfl
  | 40, _ => rfl
  | 41, _ => rfl
  | 42, _ => rfl
  | 43, _ => rfl
  | 44, _ => rfl
  | 45, _ => rfl
  | 46, _ => rfl
  | k + 47, h => absurd h (by omega)
theorem cl8 : sm_PCl 8 ("TeaCabinetModel", fT8, 47) := ⟨cq8, ww1090, ww108, rfl, ct8, cn8, cd8⟩
theorem sm_CL0_ok : ∀ a r, sm_cl[a]? = some r → sm_PCl a r := fun a r h => match a, h with
  | 0, h => by cases h; exact cl0
  | 1, h => by cases h; exact cl1
  | 2, h => by cases h; exact cl2
  | 3, h => by cases h; exact cl3
  | 4, h => by cases h; exact cl4
  | 5, h => by cases h; exact cl5
  | 6, h => by cases h; exact cl6
  | 7, h => by cases h; exact cl7
  | 8, h => by cases h; exact cl8
  | a + 9, h => by cases h
theorem ww156 : Jvm.Cond.arrayClass .int ∈ lw_tbl := sm_in1 (i := 58) rfl
theorem sm_wa_int : Jvm.Cond.arrayClass .int ∈ lw_tbl := ww156
theorem ww248 : Jvm.Cond.arrayClass .long ∈ lw_tbl := sm_in1 (i := 150) rfl
theorem sm_wa_long : Jvm.Cond.arrayClass .long ∈ lw_tbl := ww248
theorem ww655 : Jvm.Cond.arrayClass .byte ∈ lw_tbl := sm_in3 (i := 77) rfl
theorem sm_wa_byte : Jvm.Cond.arrayClass .byte ∈ lw_tbl := ww655
theorem ww654 : Jvm.Cond.native arraycopyName ∈ lw_tbl := sm_in3 (i := 76) rfl
theorem sm_wnat : Jvm.Cond.native arraycopyName ∈ lw_tbl := ww654
theorem ww653 : Jvm.Cond.static arraycopyName ∈ lw_tbl := sm_in3 (i := 75) rfl
theorem sm_wacs : Jvm.Cond.static arraycopyName ∈ lw_tbl := ww653
theorem ww115 : Jvm.Cond.initialized "java/lang/System" ∈ lw_tbl := sm_in1 (i := 17) rfl
theorem sm_wsys : Jvm.Cond.initialized "java/lang/System" ∈ lw_tbl := ww115
theorem ww124 : Jvm.Cond.instanceMethod Lib.objectInit ∈ lw_tbl := sm_in1 (i := 26) rfl
theorem sm_woi : Jvm.Cond.instanceMethod Lib.objectInit ∈ lw_tbl := ww124
theorem ww125 : Jvm.Cond.code Lib.objectInit ⟨#[0xb1]⟩ 1 none ∈ lw_tbl := sm_in1 (i := 27) rfl
theorem sm_woc : Jvm.Cond.code Lib.objectInit ⟨#[0xb1]⟩ 1 none ∈ lw_tbl := ww125
noncomputable abbrev sx_ki : Nat := 114
theorem ww537 : Jvm.Cond.stringRef "TeaCabinet$LawReader" 114 "gclabmvt" ∈ lw_tbl := sm_in2 (i := 199) rfl
theorem sx_wR : Jvm.Cond.stringRef "TeaCabinet$LawReader" 114 "gclabmvt" ∈ lw_tbl := ww537
noncomputable abbrev sx_m0 : MethodName := ⟨"java/lang/String", "indexOf", "(I)I"⟩
noncomputable abbrev sx_c0 : ByteArray := prog_15_method_79_code
theorem ww541 : Jvm.Cond.code ⟨"java/lang/String", "indexOf", "(I)I"⟩ prog_15_method_79_code 2 (some .int) ∈ lw_tbl := sm_in2 (i := 203) rfl
theorem sx_wc0 : Jvm.Cond.code sx_m0 sx_c0 2 (some .int) ∈ lw_tbl := ww541
theorem ww539 : Jvm.Cond.instanceMethod ⟨"java/lang/String", "indexOf", "(I)I"⟩ ∈ lw_tbl := sm_in2 (i := 201) rfl
theorem sx_wi0 : Jvm.Cond.instanceMethod sx_m0 ∈ lw_tbl := ww539
theorem ww540 : Jvm.Cond.selects "java/lang/String" ⟨"java/lang/String", "indexOf", "(I)I"⟩ ⟨"java/lang/String", "indexOf", "(I)I"⟩ ∈ lw_tbl := sm_in2 (i := 202) rfl
theorem sx_ws0 : Jvm.Cond.selects "java/lang/String" sx_m0 sx_m0 ∈ lw_tbl := ww540
noncomputable abbrev sx_i0 : Nat := 116
theorem ww538 : Jvm.Cond.methodLink "TeaCabinet$LawReader" 116 ⟨"java/lang/String", "indexOf", "(I)I"⟩ ∈ lw_tbl := sm_in2 (i := 200) rfl
theorem sx_wl0 : Jvm.Cond.methodLink "TeaCabinet$LawReader" sx_i0 sx_m0 ∈ lw_tbl := ww538
theorem sx_d0_0 : decode sx_c0 0 = .ok (.aload_n 0, 1) := by decide +kernel
theorem sx_d0_1 : decode sx_c0 1 = .ok (.iload_n 1, 1) := by decide +kernel
theorem sx_d0_2 : decode sx_c0 2 = .ok (.iconst 0, 1) := by decide +kernel
theorem sx_d0_3 : decode sx_c0 3 = .ok (.invokevirtual 633, 3) := by decide +kernel
theorem sx_d0_6 : decode sx_c0 6 = .ok (.ireturn, 1) := by decide +kernel
noncomputable abbrev sx_m1 : MethodName := ⟨"java/lang/String", "indexOf", "(II)I"⟩
noncomputable abbrev sx_c1 : ByteArray := prog_15_method_80_code
theorem ww545 : Jvm.Cond.code ⟨"java/lang/String", "indexOf", "(II)I"⟩ prog_15_method_80_code 3 (some .int) ∈ lw_tbl := sm_in2 (i := 207) rfl
theorem sx_wc1 : Jvm.Cond.code sx_m1 sx_c1 3 (some .int) ∈ lw_tbl := ww545
theorem ww543 : Jvm.Cond.instanceMethod ⟨"java/lang/String", "indexOf", "(II)I"⟩ ∈ lw_tbl := sm_in2 (i := 205) rfl
theorem sx_wi1 : Jvm.Cond.instanceMethod sx_m1 ∈ lw_tbl := ww543
theorem ww544 : Jvm.Cond.selects "java/lang/String" ⟨"java/lang/String", "indexOf", "(II)I"⟩ ⟨"java/lang/String", "indexOf", "(II)I"⟩ ∈ lw_tbl := sm_in2 (i := 206) rfl
theorem sx_ws1 : Jvm.Cond.selects "java/lang/String" sx_m1 sx_m1 ∈ lw_tbl := ww544
noncomputable abbrev sx_i1 : Nat := 633
theorem ww542 : Jvm.Cond.methodLink "java/lang/String" 633 ⟨"java/lang/String", "indexOf", "(II)I"⟩ ∈ lw_tbl := sm_in2 (i := 204) rfl
theorem sx_wl1 : Jvm.Cond.methodLink "java/lang/String" sx_i1 sx_m1 ∈ lw_tbl := ww542
theorem sx_d1_0 : decode sx_c1 0 = .ok (.aload_n 0, 1) := by decide +kernel
theorem sx_d1_1 : decode sx_c1 1 = .ok (.invokevirtual 492, 3) := by decide +kernel
theorem sx_d1_4 : decode sx_c1 4 = .ok (.ifCond .eq 19, 3) := by decide +kernel
theorem sx_d1_7 : decode sx_c1 7 = .ok (.aload_n 0, 1) := by decide +kernel
theorem sx_d1_8 : decode sx_c1 8 = .ok (.getfield 9, 3) := by decide +kernel
theorem sx_d1_11 : decode sx_c1 11 = .ok (.iload_n 1, 1) := by decide +kernel
theorem sx_d1_12 : decode sx_c1 12 = .ok (.iload_n 2, 1) := by decide +kernel
theorem sx_d1_13 : decode sx_c1 13 = .ok (.aload_n 0, 1) := by decide +kernel
theorem sx_d1_14 : decode sx_c1 14 = .ok (.invokevirtual 505, 3) := by decide +kernel
theorem sx_d1_17 : decode sx_c1 17 = .ok (.invokestatic 637, 3) := by decide +kernel
theorem sx_d1_20 : decode sx_c1 20 = .ok (.goto 16, 3) := by decide +kernel
theorem sx_d1_23 : decode sx_c1 23 = .ok (.aload_n 0, 1) := by decide +kernel
theorem sx_d1_24 : decode sx_c1 24 = .ok (.getfield 9, 3) := by decide +kernel
theorem sx_d1_27 : decode sx_c1 27 = .ok (.iload_n 1, 1) := by decide +kernel
theorem sx_d1_28 : decode sx_c1 28 = .ok (.iload_n 2, 1) := by decide +kernel
theorem sx_d1_29 : decode sx_c1 29 = .ok (.aload_n 0, 1) := by decide +kernel
theorem sx_d1_30 : decode sx_c1 30 = .ok (.invokevirtual 505, 3) := by decide +kernel
theorem sx_d1_33 : decode sx_c1 33 = .ok (.invokestatic 640, 3) := by decide +kernel
theorem sx_d1_36 : decode sx_c1 36 = .ok (.ireturn, 1) := by decide +kernel
noncomputable abbrev sx_m2 : MethodName := ⟨"java/lang/String", "isLatin1", "()Z"⟩
noncomputable abbrev sx_c2 : ByteArray := prog_15_method_154_code
theorem ww549 : Jvm.Cond.code ⟨"java/lang/String", "isLatin1", "()Z"⟩ prog_15_method_154_code 1 (some .boolean) ∈ lw_tbl := sm_in2 (i := 211) rfl
theorem sx_wc2 : Jvm.Cond.code sx_m2 sx_c2 1 (some .boolean) ∈ lw_tbl := ww549
theorem ww547 : Jvm.Cond.instanceMethod ⟨"java/lang/String", "isLatin1", "()Z"⟩ ∈ lw_tbl := sm_in2 (i := 209) rfl
theorem sx_wi2 : Jvm.Cond.instanceMethod sx_m2 ∈ lw_tbl := ww547
theorem ww548 : Jvm.Cond.selects "java/lang/String" ⟨"java/lang/String", "isLatin1", "()Z"⟩ ⟨"java/lang/String", "isLatin1", "()Z"⟩ ∈ lw_tbl := sm_in2 (i := 210) rfl
theorem sx_ws2 : Jvm.Cond.selects "java/lang/String" sx_m2 sx_m2 ∈ lw_tbl := ww548
noncomputable abbrev sx_i2 : Nat := 492
theorem ww546 : Jvm.Cond.methodLink "java/lang/String" 492 ⟨"java/lang/String", "isLatin1", "()Z"⟩ ∈ lw_tbl := sm_in2 (i := 208) rfl
theorem sx_wl2 : Jvm.Cond.methodLink "java/lang/String" sx_i2 sx_m2 ∈ lw_tbl := ww546
theorem sx_d2_0 : decode sx_c2 0 = .ok (.getstatic 38, 3) := by decide +kernel
theorem sx_d2_3 : decode sx_c2 3 = .ok (.ifCond .eq 14, 3) := by decide +kernel
theorem sx_d2_6 : decode sx_c2 6 = .ok (.aload_n 0, 1) := by decide +kernel
theorem sx_d2_7 : decode sx_c2 7 = .ok (.getfield 15, 3) := by decide +kernel
theorem sx_d2_10 : decode sx_c2 10 = .ok (.ifCond .ne 7, 3) := by decide +kernel
theorem sx_d2_13 : decode sx_c2 13 = .ok (.iconst 1, 1) := by decide +kernel
theorem sx_d2_14 : decode sx_c2 14 = .ok (.goto 4, 3) := by decide +kernel
theorem sx_d2_17 : decode sx_c2 17 = .ok (.iconst 0, 1) := by decide +kernel
theorem sx_d2_18 : decode sx_c2 18 = .ok (.ireturn, 1) := by decide +kernel
noncomputable abbrev sx_m3 : MethodName := ⟨"java/lang/String", "length", "()I"⟩
noncomputable abbrev sx_c3 : ByteArray := prog_15_method_54_code
theorem ww555 : Jvm.Cond.code ⟨"java/lang/String", "length", "()I"⟩ prog_15_method_54_code 1 (some .int) ∈ lw_tbl := sm_in2 (i := 217) rfl
theorem sx_wc3 : Jvm.Cond.code sx_m3 sx_c3 1 (some .int) ∈ lw_tbl := ww555
theorem ww553 : Jvm.Cond.instanceMethod ⟨"java/lang/String", "length", "()I"⟩ ∈ lw_tbl := sm_in2 (i := 215) rfl
theorem sx_wi3 : Jvm.Cond.instanceMethod sx_m3 ∈ lw_tbl := ww553
theorem ww554 : Jvm.Cond.selects "java/lang/String" ⟨"java/lang/String", "length", "()I"⟩ ⟨"java/lang/String", "length", "()I"⟩ ∈ lw_tbl := sm_in2 (i := 216) rfl
theorem sx_ws3 : Jvm.Cond.selects "java/lang/String" sx_m3 sx_m3 ∈ lw_tbl := ww554
noncomputable abbrev sx_i3 : Nat := 505
theorem ww552 : Jvm.Cond.methodLink "java/lang/String" 505 ⟨"java/lang/String", "length", "()I"⟩ ∈ lw_tbl := sm_in2 (i := 214) rfl
theorem sx_wl3 : Jvm.Cond.methodLink "java/lang/String" sx_i3 sx_m3 ∈ lw_tbl := ww552
theorem sx_d3_0 : decode sx_c3 0 = .ok (.aload_n 0, 1) := by decide +kernel
theorem sx_d3_1 : decode sx_c3 1 = .ok (.getfield 9, 3) := by decide +kernel
theorem sx_d3_4 : decode sx_c3 4 = .ok (.arraylength, 1) := by decide +kernel
theorem sx_d3_5 : decode sx_c3 5 = .ok (.aload_n 0, 1) := by decide +kernel
theorem sx_d3_6 : decode sx_c3 6 = .ok (.invokevirtual 335, 3) := by decide +kernel
theorem sx_d3_9 : decode sx_c3 9 = .ok (.ishr, 1) := by decide +kernel
theorem sx_d3_10 : decode sx_c3 10 = .ok (.ireturn, 1) := by decide +kernel
noncomputable abbrev sx_m4 : MethodName := ⟨"java/lang/String", "coder", "()B"⟩
noncomputable abbrev sx_c4 : ByteArray := prog_15_method_152_code
theorem ww559 : Jvm.Cond.code ⟨"java/lang/String", "coder", "()B"⟩ prog_15_method_152_code 1 (some .byte) ∈ lw_tbl := sm_in2 (i := 221) rfl
theorem sx_wc4 : Jvm.Cond.code sx_m4 sx_c4 1 (some .byte) ∈ lw_tbl := ww559
theorem ww557 : Jvm.Cond.instanceMethod ⟨"java/lang/String", "coder", "()B"⟩ ∈ lw_tbl := sm_in2 (i := 219) rfl
theorem sx_wi4 : Jvm.Cond.instanceMethod sx_m4 ∈ lw_tbl := ww557
theorem ww558 : Jvm.Cond.selects "java/lang/String" ⟨"java/lang/String", "coder", "()B"⟩ ⟨"java/lang/String", "coder", "()B"⟩ ∈ lw_tbl := sm_in2 (i := 220) rfl
theorem sx_ws4 : Jvm.Cond.selects "java/lang/String" sx_m4 sx_m4 ∈ lw_tbl := ww558
noncomputable abbrev sx_i4 : Nat := 335
theorem ww556 : Jvm.Cond.methodLink "java/lang/String" 335 ⟨"java/lang/String", "coder", "()B"⟩ ∈ lw_tbl := sm_in2 (i := 218) rfl
theorem sx_wl4 : Jvm.Cond.methodLink "java/lang/String" sx_i4 sx_m4 ∈ lw_tbl := ww556
theorem sx_d4_0 : decode sx_c4 0 = .ok (.getstatic 38, 3) := by decide +kernel
theorem sx_d4_3 : decode sx_c4 3 = .ok (.ifCond .eq 10, 3) := by decide +kernel
theorem sx_d4_6 : decode sx_c4 6 = .ok (.aload_n 0, 1) := by decide +kernel
theorem sx_d4_7 : decode sx_c4 7 = .ok (.getfield 15, 3) := by decide +kernel
theorem sx_d4_10 : decode sx_c4 10 = .ok (.goto 4, 3) := by decide +kernel
theorem sx_d4_13 : decode sx_c4 13 = .ok (.iconst 1, 1) := by decide +kernel
theorem sx_d4_14 : decode sx_c4 14 = .ok (.ireturn, 1) := by decide +kernel
noncomputable abbrev sx_m5 : MethodName := ⟨"java/lang/StringLatin1", "indexOf", "([BIII)I"⟩
noncomputable abbrev sx_c5 : ByteArray := prog_16_method_22_code
theorem ww562 : Jvm.Cond.code ⟨"java/lang/StringLatin1", "indexOf", "([BIII)I"⟩ prog_16_method_22_code 4 (some .int) ∈ lw_tbl := sm_in2 (i := 224) rfl
theorem sx_wc5 : Jvm.Cond.code sx_m5 sx_c5 4 (some .int) ∈ lw_tbl := ww562
theorem ww561 : Jvm.Cond.static ⟨"java/lang/StringLatin1", "indexOf", "([BIII)I"⟩ ∈ lw_tbl := sm_in2 (i := 223) rfl
theorem sx_wi5 : Jvm.Cond.static sx_m5 ∈ lw_tbl := ww561
noncomputable abbrev sx_i5 : Nat := 637
theorem ww560 : Jvm.Cond.methodLink "java/lang/String" 637 ⟨"java/lang/StringLatin1", "indexOf", "([BIII)I"⟩ ∈ lw_tbl := sm_in2 (i := 222) rfl
theorem sx_wl5 : Jvm.Cond.methodLink "java/lang/String" sx_i5 sx_m5 ∈ lw_tbl := ww560
theorem sx_d5_0 : decode sx_c5 0 = .ok (.iload_n 1, 1) := by decide +kernel
theorem sx_d5_1 : decode sx_c5 1 = .ok (.invokestatic 88, 3) := by decide +kernel
theorem sx_d5_4 : decode sx_c5 4 = .ok (.ifCond .ne 5, 3) := by decide +kernel
theorem sx_d5_7 : decode sx_c5 7 = .ok (.iconst (-1), 1) := by decide +kernel
theorem sx_d5_8 : decode sx_c5 8 = .ok (.ireturn, 1) := by decide +kernel
theorem sx_d5_9 : decode sx_c5 9 = .ok (.iload_n 2, 1) := by decide +kernel
theorem sx_d5_10 : decode sx_c5 10 = .ok (.iconst 0, 1) := by decide +kernel
theorem sx_d5_11 : decode sx_c5 11 = .ok (.invokestatic 92, 3) := by decide +kernel
theorem sx_d5_14 : decode sx_c5 14 = .ok (.istore_n 2, 1) := by decide +kernel
theorem sx_d5_15 : decode sx_c5 15 = .ok (.iload_n 3, 1) := by decide +kernel
theorem sx_d5_16 : decode sx_c5 16 = .ok (.aload_n 0, 1) := by decide +kernel
theorem sx_d5_17 : decode sx_c5 17 = .ok (.arraylength, 1) := by decide +kernel
theorem sx_d5_18 : decode sx_c5 18 = .ok (.invokestatic 38, 3) := by decide +kernel
theorem sx_d5_21 : decode sx_c5 21 = .ok (.istore_n 3, 1) := by decide +kernel
theorem sx_d5_22 : decode sx_c5 22 = .ok (.iload_n 2, 1) := by decide +kernel
theorem sx_d5_23 : decode sx_c5 23 = .ok (.iload_n 3, 1) := by decide +kernel
theorem sx_d5_24 : decode sx_c5 24 = .ok (.if_icmp .lt 5, 3) := by decide +kernel
theorem sx_d5_27 : decode sx_c5 27 = .ok (.iconst (-1), 1) := by decide +kernel
theorem sx_d5_28 : decode sx_c5 28 = .ok (.ireturn, 1) := by decide +kernel
theorem sx_d5_29 : decode sx_c5 29 = .ok (.aload_n 0, 1) := by decide +kernel
theorem sx_d5_30 : decode sx_c5 30 = .ok (.iload_n 1, 1) := by decide +kernel
theorem sx_d5_31 : decode sx_c5 31 = .ok (.iload_n 2, 1) := by decide +kernel
theorem sx_d5_32 : decode sx_c5 32 = .ok (.iload_n 3, 1) := by decide +kernel
theorem sx_d5_33 : decode sx_c5 33 = .ok (.invokestatic 95, 3) := by decide +kernel
theorem sx_d5_36 : decode sx_c5 36 = .ok (.ireturn, 1) := by decide +kernel
noncomputable abbrev sx_m6 : MethodName := ⟨"java/lang/StringLatin1", "canEncode", "(I)Z"⟩
noncomputable abbrev sx_c6 : ByteArray := prog_16_method_4_code
theorem ww565 : Jvm.Cond.code ⟨"java/lang/StringLatin1", "canEncode", "(I)Z"⟩ prog_16_method_4_code 1 (some .boolean) ∈ lw_tbl := sm_in2 (i := 227) rfl
theorem sx_wc6 : Jvm.Cond.code sx_m6 sx_c6 1 (some .boolean) ∈ lw_tbl := ww565
theorem ww564 : Jvm.Cond.static ⟨"java/lang/StringLatin1", "canEncode", "(I)Z"⟩ ∈ lw_tbl := sm_in2 (i := 226) rfl
theorem sx_wi6 : Jvm.Cond.static sx_m6 ∈ lw_tbl := ww564
noncomputable abbrev sx_i6 : Nat := 88
theorem ww563 : Jvm.Cond.methodLink "java/lang/StringLatin1" 88 ⟨"java/lang/StringLatin1", "canEncode", "(I)Z"⟩ ∈ lw_tbl := sm_in2 (i := 225) rfl
theorem sx_wl6 : Jvm.Cond.methodLink "java/lang/StringLatin1" sx_i6 sx_m6 ∈ lw_tbl := ww563
theorem sx_d6_0 : decode sx_c6 0 = .ok (.iload_n 0, 1) := by decide +kernel
theorem sx_d6_1 : decode sx_c6 1 = .ok (.ifCond .lt 14, 3) := by decide +kernel
theorem sx_d6_4 : decode sx_c6 4 = .ok (.iload_n 0, 1) := by decide +kernel
theorem sx_d6_5 : decode sx_c6 5 = .ok (.sipush 255, 3) := by decide +kernel
theorem sx_d6_8 : decode sx_c6 8 = .ok (.if_icmp .gt 7, 3) := by decide +kernel
theorem sx_d6_11 : decode sx_c6 11 = .ok (.iconst 1, 1) := by decide +kernel
theorem sx_d6_12 : decode sx_c6 12 = .ok (.goto 4, 3) := by decide +kernel
theorem sx_d6_15 : decode sx_c6 15 = .ok (.iconst 0, 1) := by decide +kernel
theorem sx_d6_16 : decode sx_c6 16 = .ok (.ireturn, 1) := by decide +kernel
noncomputable abbrev sx_m7 : MethodName := ⟨"java/lang/StringLatin1", "indexOfChar", "([BIII)I"⟩
noncomputable abbrev sx_c7 : ByteArray := prog_16_method_23_code
theorem ww574 : Jvm.Cond.code ⟨"java/lang/StringLatin1", "indexOfChar", "([BIII)I"⟩ prog_16_method_23_code 6 (some .int) ∈ lw_tbl := sm_in2 (i := 236) rfl
theorem sx_wc7 : Jvm.Cond.code sx_m7 sx_c7 6 (some .int) ∈ lw_tbl := ww574
theorem ww573 : Jvm.Cond.static ⟨"java/lang/StringLatin1", "indexOfChar", "([BIII)I"⟩ ∈ lw_tbl := sm_in2 (i := 235) rfl
theorem sx_wi7 : Jvm.Cond.static sx_m7 ∈ lw_tbl := ww573
noncomputable abbrev sx_i7 : Nat := 95
theorem ww572 : Jvm.Cond.methodLink "java/lang/StringLatin1" 95 ⟨"java/lang/StringLatin1", "indexOfChar", "([BIII)I"⟩ ∈ lw_tbl := sm_in2 (i := 234) rfl
theorem sx_wl7 : Jvm.Cond.methodLink "java/lang/StringLatin1" sx_i7 sx_m7 ∈ lw_tbl := ww572
theorem sx_d7_0 : decode sx_c7 0 = .ok (.iload_n 1, 1) := by decide +kernel
theorem sx_d7_1 : decode sx_c7 1 = .ok (.i2b, 1) := by decide +kernel
theorem sx_d7_2 : decode sx_c7 2 = .ok (.istore 4, 2) := by decide +kernel
theorem sx_d7_4 : decode sx_c7 4 = .ok (.iload_n 2, 1) := by decide +kernel
theorem sx_d7_5 : decode sx_c7 5 = .ok (.istore 5, 2) := by decide +kernel
theorem sx_d7_7 : decode sx_c7 7 = .ok (.iload 5, 2) := by decide +kernel
theorem sx_d7_9 : decode sx_c7 9 = .ok (.iload_n 3, 1) := by decide +kernel
theorem sx_d7_10 : decode sx_c7 10 = .ok (.if_icmp .ge 21, 3) := by decide +kernel
theorem sx_d7_13 : decode sx_c7 13 = .ok (.aload_n 0, 1) := by decide +kernel
theorem sx_d7_14 : decode sx_c7 14 = .ok (.iload 5, 2) := by decide +kernel
theorem sx_d7_16 : decode sx_c7 16 = .ok (.baload, 1) := by decide +kernel
theorem sx_d7_17 : decode sx_c7 17 = .ok (.iload 4, 2) := by decide +kernel
theorem sx_d7_19 : decode sx_c7 19 = .ok (.if_icmp .ne 6, 3) := by decide +kernel
theorem sx_d7_22 : decode sx_c7 22 = .ok (.iload 5, 2) := by decide +kernel
theorem sx_d7_24 : decode sx_c7 24 = .ok (.ireturn, 1) := by decide +kernel
theorem sx_d7_25 : decode sx_c7 25 = .ok (.iinc 5 1, 3) := by decide +kernel
theorem sx_d7_28 : decode sx_c7 28 = .ok (.goto (-21), 3) := by decide +kernel
theorem sx_d7_31 : decode sx_c7 31 = .ok (.iconst (-1), 1) := by decide +kernel
theorem sx_d7_32 : decode sx_c7 32 = .ok (.ireturn, 1) := by decide +kernel
theorem ww109 : Jvm.Cond.initialized "java/lang/String" ∈ lw_tbl := sm_in1 (i := 11) rfl
theorem sx_inS : Jvm.Cond.initialized "java/lang/String" ∈ lw_tbl := ww109
theorem ww110 : Jvm.Cond.initialized "java/lang/StringLatin1" ∈ lw_tbl := sm_in1 (i := 12) rfl
theorem sx_inL : Jvm.Cond.initialized "java/lang/StringLatin1" ∈ lw_tbl := ww110
theorem sx_inM : Jvm.Cond.initialized "java/lang/Math" ∈ lw_tbl := ww111
theorem ww566 : Jvm.Cond.methodLink "java/lang/StringLatin1" 92 ⟨"java/lang/Math", "max", "(II)I"⟩ ∈ lw_tbl := sm_in2 (i := 228) rfl
noncomputable abbrev sx_imax : Nat := 92
theorem sx_wlmax : Jvm.Cond.methodLink "java/lang/StringLatin1" sx_imax Lib.Math.max.name ∈ lw_tbl := ww566
theorem sx_wimax : Jvm.Cond.static Lib.Math.max.name ∈ lw_tbl := ww567
theorem sx_wcmax : Jvm.Cond.code Lib.Math.max.name Lib.Math.max.code 2 (some .int) ∈ lw_tbl := ww568
theorem ww569 : Jvm.Cond.methodLink "java/lang/StringLatin1" 38 ⟨"java/lang/Math", "min", "(II)I"⟩ ∈ lw_tbl := sm_in2 (i := 231) rfl
noncomputable abbrev sx_imin : Nat := 38
theorem sx_wlmin : Jvm.Cond.methodLink "java/lang/StringLatin1" sx_imin Lib.Math.min.name ∈ lw_tbl := ww569
theorem sx_wimin : Jvm.Cond.static Lib.Math.min.name ∈ lw_tbl := ww570
theorem sx_wcmin : Jvm.Cond.code Lib.Math.min.name Lib.Math.min.code 2 (some .int) ∈ lw_tbl := ww571
noncomputable abbrev sx_f1 : Nat := 38
theorem ww550 : Jvm.Cond.fieldLink "java/lang/String" 38 "java/lang/String" "COMPACT_STRINGS" "Z" ∈ lw_tbl := sm_in2 (i := 212) rfl
theorem sx_wf1 : Jvm.Cond.fieldLink "java/lang/String" sx_f1 "java/lang/String" "COMPACT_STRINGS" "Z" ∈ lw_tbl := ww550
noncomputable abbrev sx_f2 : Nat := 15
theorem ww1675 : Jvm.Cond.fieldLink "java/lang/String" 15 "java/lang/String" "coder" "B" ∈ lw_tbl := sm_in7 (i := 137) rfl
theorem sx_wf2 : Jvm.Cond.fieldLink "java/lang/String" sx_f2 "java/lang/String" "coder" "B" ∈ lw_tbl := ww1675
noncomputable abbrev sx_f3 : Nat := 9
theorem ww1676 : Jvm.Cond.fieldLink "java/lang/String" 9 "java/lang/String" "value" "[B" ∈ lw_tbl := sm_in7 (i := 138) rfl
theorem sx_wf3 : Jvm.Cond.fieldLink "java/lang/String" sx_f3 "java/lang/String" "value" "[B" ∈ lw_tbl := ww1676
theorem ww551 : Jvm.Cond.laysStatic "java/lang/String" "COMPACT_STRINGS" "Z" ∈ lw_tbl := sm_in2 (i := 213) rfl
theorem sx_wls : Jvm.Cond.laysStatic "java/lang/String" "COMPACT_STRINGS" "Z" ∈ lw_tbl := ww551
