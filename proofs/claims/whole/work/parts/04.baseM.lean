def wMa_0 : List Cond := [.methodLink RX10 1 objectInit, .instanceMethod objectInit, .code objectInit ⟨#[0xb1]⟩ 1 none, .arrayClass .boolean, .fieldLink RX10 7 "RobeHouseModel" "isBolt" "[Z", .arrayClass .int, .fieldLink RX10 13 "RobeHouseModel" "size" "[I", .fieldLink RX10 17 "RobeHouseModel" "colour" "[I", .fieldLink RX10 20 "RobeHouseModel" "oneWay" "[I", .fieldLink RX10 23 "RobeHouseModel" "cloth" "[I", .fieldLink RX10 26 "RobeHouseModel" "isRobe" "[Z", .fieldLink RX10 29 "RobeHouseModel" "robeColour" "[I", .fieldLink RX10 32 "RobeHouseModel" "robeWay" "[I", .fieldLink RX10 35 "RobeHouseModel" "robeBody" "[I", .fieldLink RX10 38 "RobeHouseModel" "robeFront" "[I", .fieldLink RX10 41 "RobeHouseModel" "robeCollar" "[I", .fieldLink RX10 44 "RobeHouseModel" "robeSleeve" "[I", .fieldLink RX10 47 "RobeHouseModel" "robeCloth" "[I", .fieldLink RX10 50 "RobeHouseModel" "isLined" "[Z", .fieldLink RX10 53 "RobeHouseModel" "liningColour" "[I", .fieldLink RX10 56 "RobeHouseModel" "liningWay" "[I", .fieldLink RX10 59 "RobeHouseModel" "lining" "[I", .fieldLink RX10 62 "RobeHouseModel" "chestOf" "[I", .fieldLink RX10 65 "RobeHouseModel" "hasIt" "[I", .fieldLink RX10 68 "RobeHouseModel" "body" "I", .fieldLink RX10 72 "RobeHouseModel" "front" "I", .fieldLink RX10 75 "RobeHouseModel" "collar" "I", .fieldLink RX10 78 "RobeHouseModel" "fold" "I", .fieldLink RX10 81 "RobeHouseModel" "age" "[I", .fieldLink RX10 84 "RobeHouseModel" "rank" "[I", .fieldLink RX10 87 "RobeHouseModel" "clauses" "[I", .fieldLink RX10 90 "RobeHouseModel" "clause" "[I", .fieldLink RX10 93 "RobeHouseModel" "tape" "[I", .fieldLink RX10 96 "RobeHouseModel" "long0" "[I", .fieldLink RX10 99 "RobeHouseModel" "from" "[I", .fieldLink RX10 102 "RobeHouseModel" "rows" "[I", .fieldLink RX10 105 "RobeHouseModel" "pieces" "[I", .fieldLink RX10 108 "RobeHouseModel" "bestOrder" "I", .fieldLink RX10 111 "RobeHouseModel" "read" "[I", .fieldLink RX10 114 "RobeHouseModel" "canHave" "[I"]
def wMa_1 : List Cond := [.fieldLink RX10 117 "RobeHouseModel" "taken" "[I", .fieldLink RX10 120 "RobeHouseModel" "gets" "[I", .fieldLink RX10 123 "RobeHouseModel" "by" "[I", .fieldLink RX10 126 "RobeHouseModel" "queue" "[I", .fieldLink RX10 129 "RobeHouseModel" "seen" "[Z", .fieldLink RX10 132 "RobeHouseModel" "has" "[I", .fieldLink RX10 135 "RobeHouseModel" "keptHave" "[I", .fieldLink RX10 138 "RobeHouseModel" "bolts" "I", .methodLink RX10 141 yX10_in, .static yX10_in, .initialized RX10, .code yX10_in cX10_in 3 (some .boolean), .fieldLink RX10 145 "RobeHouseModel" "robes" "I", .fieldLink RX10 148 "RobeHouseModel" "taped" "I", .constantLong RX10 151 (255), .methodLink RX10 153 yX10_comes, .instanceMethod yX10_comes, .selects RX10 yX10_comes yX10_comes, .code yX10_comes cX10_comes 4 (some .int), .methodLink RX10 157 yX10_isThere, .instanceMethod yX10_isThere, .selects RX10 yX10_isThere yX10_isThere, .code yX10_isThere cX10_isThere 2 (some .boolean), .methodLink RX10 161 yX10_told, .static yX10_told, .code yX10_told cX10_told 2 (some .int), .fieldLink RX10 165 "RobeHouseModel" "threads" "I", .methodLink RX10 168 yX10_sleeveOf, .instanceMethod yX10_sleeveOf, .selects RX10 yX10_sleeveOf yX10_sleeveOf, .code yX10_sleeveOf cX10_sleeveOf 3 (some .int), .methodLink RX10 172 yX10_missOf, .instanceMethod yX10_missOf, .selects RX10 yX10_missOf yX10_missOf, .code yX10_missOf cX10_missOf 6 (some .int), .methodLink RX10 176 yX10_shown, .instanceMethod yX10_shown, .selects RX10 yX10_shown yX10_shown, .code yX10_shown cX10_shown 5 (some .int), .methodLink RX10 180 yX10_seam]
def wMa_2 : List Cond := [.instanceMethod yX10_seam, .selects RX10 yX10_seam yX10_seam, .code yX10_seam cX10_seam 4 (some .int), .methodLink RX10 183 yX10_isLaying, .instanceMethod yX10_isLaying, .selects RX10 yX10_isLaying yX10_isLaying, .code yX10_isLaying cX10_isLaying 7 (some .boolean), .methodLink RX10 186 yX10_lengths, .instanceMethod yX10_lengths, .selects RX10 yX10_lengths yX10_lengths, .code yX10_lengths cX10_lengths 7 none, .methodLink RX10 190 yX10_lays, .instanceMethod yX10_lays, .selects RX10 yX10_lays yX10_lays, .code yX10_lays cX10_lays 8 none, .methodLink RX10 194 yX10_bad, .instanceMethod yX10_bad, .selects RX10 yX10_bad yX10_bad, .code yX10_bad cX10_bad 5 (some .int), .methodLink RX10 197 yX10_uglyNow, .instanceMethod yX10_uglyNow, .selects RX10 yX10_uglyNow yX10_uglyNow, .code yX10_uglyNow cX10_uglyNow 3 (some .int), .methodLink RX10 200 yX10_swap, .instanceMethod yX10_swap, .selects RX10 yX10_swap yX10_swap, .code yX10_swap cX10_swap 4 none, .fieldLink RX10 209 "RobeHouseModel" "bestTurned" "I", .methodLink RX10 203 yX10_many, .static yX10_many, .code yX10_many cX10_many 3 (some .int), .methodLink RX10 206 yX10_code, .instanceMethod yX10_code, .selects RX10 yX10_code yX10_code, .code yX10_code cX10_code 3 (some .int), .methodLink RX10 212 yX10_turns, .instanceMethod yX10_turns, .selects RX10 yX10_turns yX10_turns, .code yX10_turns cX10_turns 5 (some .boolean), .methodLink RX10 216 yX10_rowsOf]
def wMa_3 : List Cond := [.instanceMethod yX10_rowsOf, .selects RX10 yX10_rowsOf yX10_rowsOf, .code yX10_rowsOf cX10_rowsOf 2 (some .int), .methodLink RX10 219 yX10_isMade, .instanceMethod yX10_isMade, .selects RX10 yX10_isMade yX10_isMade, .code yX10_isMade cX10_isMade 2 (some .boolean), .methodLink RX10 222 yX10_looksAt, .instanceMethod yX10_looksAt, .selects RX10 yX10_looksAt yX10_looksAt, .code yX10_looksAt cX10_looksAt 3 none, .methodLink RX10 226 yX10_wears, .instanceMethod yX10_wears, .selects RX10 yX10_wears yX10_wears, .code yX10_wears cX10_wears 5 (some .int), .methodLink RX10 229 yX10_wornOnce, .instanceMethod yX10_wornOnce, .selects RX10 yX10_wornOnce yX10_wornOnce, .code yX10_wornOnce cX10_wornOnce 4 (some .int), .fieldLink RX10 232 "RobeHouseModel" "at" "I", .fieldLink RX10 235 "RobeHouseModel" "isFaulty" "Z", .methodLink RX10 239 yX10_here, .instanceMethod yX10_here, .selects RX10 yX10_here yX10_here, .code yX10_here cX10_here 1 (some .int), .methodLink RX10 242 yX10_eats, .instanceMethod yX10_eats, .selects RX10 yX10_eats yX10_eats, .code yX10_eats cX10_eats 2 none, .methodLink RX10 245 yX10_eats3, .instanceMethod yX10_eats3, .selects RX10 yX10_eats3 yX10_eats3, .code yX10_eats3 cX10_eats3 4 none, .methodLink RX10 249 yX10_whatRead, .instanceMethod yX10_whatRead, .selects RX10 yX10_whatRead yX10_whatRead, .code yX10_whatRead cX10_whatRead 1 (some .int), .methodLink RX10 252 yX10_clauseRead, .instanceMethod yX10_clauseRead, .selects RX10 yX10_clauseRead yX10_clauseRead]
def wMa_4 : List Cond := [.code yX10_clauseRead cX10_clauseRead 5 none, .methodLink RX10 255 yX10_isTold, .instanceMethod yX10_isTold, .selects RX10 yX10_isTold yX10_isTold, .code yX10_isTold cX10_isTold 2 (some .boolean), .methodLink RX10 258 yX10_cannot, .instanceMethod yX10_cannot, .selects RX10 yX10_cannot yX10_cannot, .code yX10_cannot cX10_cannot 4 (some .int), .methodLink RX10 261 yX10_mayWear, .instanceMethod yX10_mayWear, .selects RX10 yX10_mayWear yX10_mayWear, .code yX10_mayWear cX10_mayWear 10 (some .boolean), .methodLink RX10 264 yX10_hasSome, .instanceMethod yX10_hasSome, .selects RX10 yX10_hasSome yX10_hasSome, .code yX10_hasSome cX10_hasSome 3 (some .boolean), .methodLink RX10 267 yX10_gives, .instanceMethod yX10_gives, .selects RX10 yX10_gives yX10_gives, .code yX10_gives cX10_gives 7 none, .methodLink RX10 270 yX10_goesTo, .instanceMethod yX10_goesTo, .selects RX10 yX10_goesTo yX10_goesTo, .code yX10_goesTo cX10_goesTo 6 (some .boolean), .methodLink RX10 273 yX10_most, .instanceMethod yX10_most, .selects RX10 yX10_most yX10_most, .code yX10_most cX10_most 3 (some .int), .methodLink RX10 276 yX10_leastFor, .instanceMethod yX10_leastFor, .selects RX10 yX10_leastFor yX10_leastFor, .code yX10_leastFor cX10_leastFor 6 (some .int)]
def wMa : List Cond := wMa_0 ++ (wMa_1 ++ (wMa_2 ++ (wMa_3 ++ (wMa_4 ++ (wsX100)))))
theorem wMa_good : wMa.all goodWord = true := by decide +kernel
theorem mm_1 : (Cond.methodLink RX10 1 objectInit) ∈ wMa := (List.mem_append_left _ (List.mem_of_getElem? (i := 0) rfl))
theorem mo_1 : (Cond.instanceMethod objectInit) ∈ wMa := (List.mem_append_left _ (List.mem_of_getElem? (i := 1) rfl))
theorem mo_2 : (Cond.code objectInit ⟨#[0xb1]⟩ 1 none) ∈ wMa := (List.mem_append_left _ (List.mem_of_getElem? (i := 2) rfl))
theorem mo_3 : (Cond.arrayClass .boolean) ∈ wMa := (List.mem_append_left _ (List.mem_of_getElem? (i := 3) rfl))
theorem mf_7 : (Cond.fieldLink RX10 7 "RobeHouseModel" "isBolt" "[Z") ∈ wMa := (List.mem_append_left _ (List.mem_of_getElem? (i := 4) rfl))
theorem mo_5 : (Cond.arrayClass .int) ∈ wMa := (List.mem_append_left _ (List.mem_of_getElem? (i := 5) rfl))
theorem mf_13 : (Cond.fieldLink RX10 13 "RobeHouseModel" "size" "[I") ∈ wMa := (List.mem_append_left _ (List.mem_of_getElem? (i := 6) rfl))
theorem mf_17 : (Cond.fieldLink RX10 17 "RobeHouseModel" "colour" "[I") ∈ wMa := (List.mem_append_left _ (List.mem_of_getElem? (i := 7) rfl))
theorem mf_20 : (Cond.fieldLink RX10 20 "RobeHouseModel" "oneWay" "[I") ∈ wMa := (List.mem_append_left _ (List.mem_of_getElem? (i := 8) rfl))
theorem mf_23 : (Cond.fieldLink RX10 23 "RobeHouseModel" "cloth" "[I") ∈ wMa := (List.mem_append_left _ (List.mem_of_getElem? (i := 9) rfl))
theorem mf_26 : (Cond.fieldLink RX10 26 "RobeHouseModel" "isRobe" "[Z") ∈ wMa := (List.mem_append_left _ (List.mem_of_getElem? (i := 10) rfl))
theorem mf_29 : (Cond.fieldLink RX10 29 "RobeHouseModel" "robeColour" "[I") ∈ wMa := (List.mem_append_left _ (List.mem_of_getElem? (i := 11) rfl))
theorem mf_32 : (Cond.fieldLink RX10 32 "RobeHouseModel" "robeWay" "[I") ∈ wMa := (List.mem_append_left _ (List.mem_of_getElem? (i := 12) rfl))
theorem mf_35 : (Cond.fieldLink RX10 35 "RobeHouseModel" "robeBody" "[I") ∈ wMa := (List.mem_append_left _ (List.mem_of_getElem? (i := 13) rfl))
theorem mf_38 : (Cond.fieldLink RX10 38 "RobeHouseModel" "robeFront" "[I") ∈ wMa := (List.mem_append_left _ (List.mem_of_getElem? (i := 14) rfl))
theorem mf_41 : (Cond.fieldLink RX10 41 "RobeHouseModel" "robeCollar" "[I") ∈ wMa := (List.mem_append_left _ (List.mem_of_getElem? (i := 15) rfl))
theorem mf_44 : (Cond.fieldLink RX10 44 "RobeHouseModel" "robeSleeve" "[I") ∈ wMa := (List.mem_append_left _ (List.mem_of_getElem? (i := 16) rfl))
theorem mf_47 : (Cond.fieldLink RX10 47 "RobeHouseModel" "robeCloth" "[I") ∈ wMa := (List.mem_append_left _ (List.mem_of_getElem? (i := 17) rfl))
theorem mf_50 : (Cond.fieldLink RX10 50 "RobeHouseModel" "isLined" "[Z") ∈ wMa := (List.mem_append_left _ (List.mem_of_getElem? (i := 18) rfl))
theorem mf_53 : (Cond.fieldLink RX10 53 "RobeHouseModel" "liningColour" "[I") ∈ wMa := (List.mem_append_left _ (List.mem_of_getElem? (i := 19) rfl))
theorem mf_56 : (Cond.fieldLink RX10 56 "RobeHouseModel" "liningWay" "[I") ∈ wMa := (List.mem_append_left _ (List.mem_of_getElem? (i := 20) rfl))
theorem mf_59 : (Cond.fieldLink RX10 59 "RobeHouseModel" "lining" "[I") ∈ wMa := (List.mem_append_left _ (List.mem_of_getElem? (i := 21) rfl))
theorem mf_62 : (Cond.fieldLink RX10 62 "RobeHouseModel" "chestOf" "[I") ∈ wMa := (List.mem_append_left _ (List.mem_of_getElem? (i := 22) rfl))
theorem mf_65 : (Cond.fieldLink RX10 65 "RobeHouseModel" "hasIt" "[I") ∈ wMa := (List.mem_append_left _ (List.mem_of_getElem? (i := 23) rfl))
theorem mf_68 : (Cond.fieldLink RX10 68 "RobeHouseModel" "body" "I") ∈ wMa := (List.mem_append_left _ (List.mem_of_getElem? (i := 24) rfl))
theorem mf_72 : (Cond.fieldLink RX10 72 "RobeHouseModel" "front" "I") ∈ wMa := (List.mem_append_left _ (List.mem_of_getElem? (i := 25) rfl))
theorem mf_75 : (Cond.fieldLink RX10 75 "RobeHouseModel" "collar" "I") ∈ wMa := (List.mem_append_left _ (List.mem_of_getElem? (i := 26) rfl))
theorem mf_78 : (Cond.fieldLink RX10 78 "RobeHouseModel" "fold" "I") ∈ wMa := (List.mem_append_left _ (List.mem_of_getElem? (i := 27) rfl))
theorem mf_81 : (Cond.fieldLink RX10 81 "RobeHouseModel" "age" "[I") ∈ wMa := (List.mem_append_left _ (List.mem_of_getElem? (i := 28) rfl))
theorem mf_84 : (Cond.fieldLink RX10 84 "RobeHouseModel" "rank" "[I") ∈ wMa := (List.mem_append_left _ (List.mem_of_getElem? (i := 29) rfl))
theorem mf_87 : (Cond.fieldLink RX10 87 "RobeHouseModel" "clauses" "[I") ∈ wMa := (List.mem_append_left _ (List.mem_of_getElem? (i := 30) rfl))
theorem mf_90 : (Cond.fieldLink RX10 90 "RobeHouseModel" "clause" "[I") ∈ wMa := (List.mem_append_left _ (List.mem_of_getElem? (i := 31) rfl))
theorem mf_93 : (Cond.fieldLink RX10 93 "RobeHouseModel" "tape" "[I") ∈ wMa := (List.mem_append_left _ (List.mem_of_getElem? (i := 32) rfl))
theorem mf_96 : (Cond.fieldLink RX10 96 "RobeHouseModel" "long0" "[I") ∈ wMa := (List.mem_append_left _ (List.mem_of_getElem? (i := 33) rfl))
theorem mf_99 : (Cond.fieldLink RX10 99 "RobeHouseModel" "from" "[I") ∈ wMa := (List.mem_append_left _ (List.mem_of_getElem? (i := 34) rfl))
theorem mf_102 : (Cond.fieldLink RX10 102 "RobeHouseModel" "rows" "[I") ∈ wMa := (List.mem_append_left _ (List.mem_of_getElem? (i := 35) rfl))
theorem mf_105 : (Cond.fieldLink RX10 105 "RobeHouseModel" "pieces" "[I") ∈ wMa := (List.mem_append_left _ (List.mem_of_getElem? (i := 36) rfl))
theorem mf_108 : (Cond.fieldLink RX10 108 "RobeHouseModel" "bestOrder" "I") ∈ wMa := (List.mem_append_left _ (List.mem_of_getElem? (i := 37) rfl))
theorem mf_111 : (Cond.fieldLink RX10 111 "RobeHouseModel" "read" "[I") ∈ wMa := (List.mem_append_left _ (List.mem_of_getElem? (i := 38) rfl))
theorem mf_114 : (Cond.fieldLink RX10 114 "RobeHouseModel" "canHave" "[I") ∈ wMa := (List.mem_append_left _ (List.mem_of_getElem? (i := 39) rfl))
theorem mf_117 : (Cond.fieldLink RX10 117 "RobeHouseModel" "taken" "[I") ∈ wMa := (List.mem_append_right _ (List.mem_append_left _ (List.mem_of_getElem? (i := 0) rfl)))
theorem mf_120 : (Cond.fieldLink RX10 120 "RobeHouseModel" "gets" "[I") ∈ wMa := (List.mem_append_right _ (List.mem_append_left _ (List.mem_of_getElem? (i := 1) rfl)))
theorem mf_123 : (Cond.fieldLink RX10 123 "RobeHouseModel" "by" "[I") ∈ wMa := (List.mem_append_right _ (List.mem_append_left _ (List.mem_of_getElem? (i := 2) rfl)))
theorem mf_126 : (Cond.fieldLink RX10 126 "RobeHouseModel" "queue" "[I") ∈ wMa := (List.mem_append_right _ (List.mem_append_left _ (List.mem_of_getElem? (i := 3) rfl)))
theorem mf_129 : (Cond.fieldLink RX10 129 "RobeHouseModel" "seen" "[Z") ∈ wMa := (List.mem_append_right _ (List.mem_append_left _ (List.mem_of_getElem? (i := 4) rfl)))
theorem mf_132 : (Cond.fieldLink RX10 132 "RobeHouseModel" "has" "[I") ∈ wMa := (List.mem_append_right _ (List.mem_append_left _ (List.mem_of_getElem? (i := 5) rfl)))
theorem mf_135 : (Cond.fieldLink RX10 135 "RobeHouseModel" "keptHave" "[I") ∈ wMa := (List.mem_append_right _ (List.mem_append_left _ (List.mem_of_getElem? (i := 6) rfl)))
theorem mf_138 : (Cond.fieldLink RX10 138 "RobeHouseModel" "bolts" "I") ∈ wMa := (List.mem_append_right _ (List.mem_append_left _ (List.mem_of_getElem? (i := 7) rfl)))
theorem mm_141 : (Cond.methodLink RX10 141 yX10_in) ∈ wMa := (List.mem_append_right _ (List.mem_append_left _ (List.mem_of_getElem? (i := 8) rfl)))
theorem mt_in : (Cond.static yX10_in) ∈ wMa := (List.mem_append_right _ (List.mem_append_left _ (List.mem_of_getElem? (i := 9) rfl)))
theorem m_ini : (Cond.initialized RX10) ∈ wMa := (List.mem_append_right _ (List.mem_append_left _ (List.mem_of_getElem? (i := 10) rfl)))
theorem mc_in : (Cond.code yX10_in cX10_in 3 (some .boolean)) ∈ wMa := (List.mem_append_right _ (List.mem_append_left _ (List.mem_of_getElem? (i := 11) rfl)))
theorem mf_145 : (Cond.fieldLink RX10 145 "RobeHouseModel" "robes" "I") ∈ wMa := (List.mem_append_right _ (List.mem_append_left _ (List.mem_of_getElem? (i := 12) rfl)))
theorem mf_148 : (Cond.fieldLink RX10 148 "RobeHouseModel" "taped" "I") ∈ wMa := (List.mem_append_right _ (List.mem_append_left _ (List.mem_of_getElem? (i := 13) rfl)))
theorem mk_151 : (Cond.constantLong RX10 151 (255)) ∈ wMa := (List.mem_append_right _ (List.mem_append_left _ (List.mem_of_getElem? (i := 14) rfl)))
theorem mm_153 : (Cond.methodLink RX10 153 yX10_comes) ∈ wMa := (List.mem_append_right _ (List.mem_append_left _ (List.mem_of_getElem? (i := 15) rfl)))
theorem mi_comes : (Cond.instanceMethod yX10_comes) ∈ wMa := (List.mem_append_right _ (List.mem_append_left _ (List.mem_of_getElem? (i := 16) rfl)))
theorem ms_comes : (Cond.selects RX10 yX10_comes yX10_comes) ∈ wMa := (List.mem_append_right _ (List.mem_append_left _ (List.mem_of_getElem? (i := 17) rfl)))
theorem mc_comes : (Cond.code yX10_comes cX10_comes 4 (some .int)) ∈ wMa := (List.mem_append_right _ (List.mem_append_left _ (List.mem_of_getElem? (i := 18) rfl)))
theorem mm_157 : (Cond.methodLink RX10 157 yX10_isThere) ∈ wMa := (List.mem_append_right _ (List.mem_append_left _ (List.mem_of_getElem? (i := 19) rfl)))
theorem mi_isThere : (Cond.instanceMethod yX10_isThere) ∈ wMa := (List.mem_append_right _ (List.mem_append_left _ (List.mem_of_getElem? (i := 20) rfl)))
theorem ms_isThere : (Cond.selects RX10 yX10_isThere yX10_isThere) ∈ wMa := (List.mem_append_right _ (List.mem_append_left _ (List.mem_of_getElem? (i := 21) rfl)))
theorem mc_isThere : (Cond.code yX10_isThere cX10_isThere 2 (some .boolean)) ∈ wMa := (List.mem_append_right _ (List.mem_append_left _ (List.mem_of_getElem? (i := 22) rfl)))
theorem mm_161 : (Cond.methodLink RX10 161 yX10_told) ∈ wMa := (List.mem_append_right _ (List.mem_append_left _ (List.mem_of_getElem? (i := 23) rfl)))
theorem mt_told : (Cond.static yX10_told) ∈ wMa := (List.mem_append_right _ (List.mem_append_left _ (List.mem_of_getElem? (i := 24) rfl)))
theorem mc_told : (Cond.code yX10_told cX10_told 2 (some .int)) ∈ wMa := (List.mem_append_right _ (List.mem_append_left _ (List.mem_of_getElem? (i := 25) rfl)))
theorem mf_165 : (Cond.fieldLink RX10 165 "RobeHouseModel" "threads" "I") ∈ wMa := (List.mem_append_right _ (List.mem_append_left _ (List.mem_of_getElem? (i := 26) rfl)))
theorem mm_168 : (Cond.methodLink RX10 168 yX10_sleeveOf) ∈ wMa := (List.mem_append_right _ (List.mem_append_left _ (List.mem_of_getElem? (i := 27) rfl)))
theorem mi_sleeveOf : (Cond.instanceMethod yX10_sleeveOf) ∈ wMa := (List.mem_append_right _ (List.mem_append_left _ (List.mem_of_getElem? (i := 28) rfl)))
theorem ms_sleeveOf : (Cond.selects RX10 yX10_sleeveOf yX10_sleeveOf) ∈ wMa := (List.mem_append_right _ (List.mem_append_left _ (List.mem_of_getElem? (i := 29) rfl)))
theorem mc_sleeveOf : (Cond.code yX10_sleeveOf cX10_sleeveOf 3 (some .int)) ∈ wMa := (List.mem_append_right _ (List.mem_append_left _ (List.mem_of_getElem? (i := 30) rfl)))
theorem mm_172 : (Cond.methodLink RX10 172 yX10_missOf) ∈ wMa := (List.mem_append_right _ (List.mem_append_left _ (List.mem_of_getElem? (i := 31) rfl)))
theorem mi_missOf : (Cond.instanceMethod yX10_missOf) ∈ wMa := (List.mem_append_right _ (List.mem_append_left _ (List.mem_of_getElem? (i := 32) rfl)))
theorem ms_missOf : (Cond.selects RX10 yX10_missOf yX10_missOf) ∈ wMa := (List.mem_append_right _ (List.mem_append_left _ (List.mem_of_getElem? (i := 33) rfl)))
theorem mc_missOf : (Cond.code yX10_missOf cX10_missOf 6 (some .int)) ∈ wMa := (List.mem_append_right _ (List.mem_append_left _ (List.mem_of_getElem? (i := 34) rfl)))
theorem mm_176 : (Cond.methodLink RX10 176 yX10_shown) ∈ wMa := (List.mem_append_right _ (List.mem_append_left _ (List.mem_of_getElem? (i := 35) rfl)))
theorem mi_shown : (Cond.instanceMethod yX10_shown) ∈ wMa := (List.mem_append_right _ (List.mem_append_left _ (List.mem_of_getElem? (i := 36) rfl)))
theorem ms_shown : (Cond.selects RX10 yX10_shown yX10_shown) ∈ wMa := (List.mem_append_right _ (List.mem_append_left _ (List.mem_of_getElem? (i := 37) rfl)))
theorem mc_shown : (Cond.code yX10_shown cX10_shown 5 (some .int)) ∈ wMa := (List.mem_append_right _ (List.mem_append_left _ (List.mem_of_getElem? (i := 38) rfl)))
theorem mm_180 : (Cond.methodLink RX10 180 yX10_seam) ∈ wMa := (List.mem_append_right _ (List.mem_append_left _ (List.mem_of_getElem? (i := 39) rfl)))
theorem mi_seam : (Cond.instanceMethod yX10_seam) ∈ wMa := (List.mem_append_right _ (List.mem_append_right _ (List.mem_append_left _ (List.mem_of_getElem? (i := 0) rfl))))
theorem ms_seam : (Cond.selects RX10 yX10_seam yX10_seam) ∈ wMa := (List.mem_append_right _ (List.mem_append_right _ (List.mem_append_left _ (List.mem_of_getElem? (i := 1) rfl))))
theorem mc_seam : (Cond.code yX10_seam cX10_seam 4 (some .int)) ∈ wMa := (List.mem_append_right _ (List.mem_append_right _ (List.mem_append_left _ (List.mem_of_getElem? (i := 2) rfl))))
theorem mm_183 : (Cond.methodLink RX10 183 yX10_isLaying) ∈ wMa := (List.mem_append_right _ (List.mem_append_right _ (List.mem_append_left _ (List.mem_of_getElem? (i := 3) rfl))))
theorem mi_isLaying : (Cond.instanceMethod yX10_isLaying) ∈ wMa := (List.mem_append_right _ (List.mem_append_right _ (List.mem_append_left _ (List.mem_of_getElem? (i := 4) rfl))))
theorem ms_isLaying : (Cond.selects RX10 yX10_isLaying yX10_isLaying) ∈ wMa := (List.mem_append_right _ (List.mem_append_right _ (List.mem_append_left _ (List.mem_of_getElem? (i := 5) rfl))))
theorem mc_isLaying : (Cond.code yX10_isLaying cX10_isLaying 7 (some .boolean)) ∈ wMa := (List.mem_append_right _ (List.mem_append_right _ (List.mem_append_left _ (List.mem_of_getElem? (i := 6) rfl))))
theorem mm_186 : (Cond.methodLink RX10 186 yX10_lengths) ∈ wMa := (List.mem_append_right _ (List.mem_append_right _ (List.mem_append_left _ (List.mem_of_getElem? (i := 7) rfl))))
theorem mi_lengths : (Cond.instanceMethod yX10_lengths) ∈ wMa := (List.mem_append_right _ (List.mem_append_right _ (List.mem_append_left _ (List.mem_of_getElem? (i := 8) rfl))))
theorem ms_lengths : (Cond.selects RX10 yX10_lengths yX10_lengths) ∈ wMa := (List.mem_append_right _ (List.mem_append_right _ (List.mem_append_left _ (List.mem_of_getElem? (i := 9) rfl))))
theorem mc_lengths : (Cond.code yX10_lengths cX10_lengths 7 none) ∈ wMa := (List.mem_append_right _ (List.mem_append_right _ (List.mem_append_left _ (List.mem_of_getElem? (i := 10) rfl))))
theorem mm_190 : (Cond.methodLink RX10 190 yX10_lays) ∈ wMa := (List.mem_append_right _ (List.mem_append_right _ (List.mem_append_left _ (List.mem_of_getElem? (i := 11) rfl))))
theorem mi_lays : (Cond.instanceMethod yX10_lays) ∈ wMa := (List.mem_append_right _ (List.mem_append_right _ (List.mem_append_left _ (List.mem_of_getElem? (i := 12) rfl))))
theorem ms_lays : (Cond.selects RX10 yX10_lays yX10_lays) ∈ wMa := (List.mem_append_right _ (List.mem_append_right _ (List.mem_append_left _ (List.mem_of_getElem? (i := 13) rfl))))
theorem mc_lays : (Cond.code yX10_lays cX10_lays 8 none) ∈ wMa := (List.mem_append_right _ (List.mem_append_right _ (List.mem_append_left _ (List.mem_of_getElem? (i := 14) rfl))))
theorem mm_194 : (Cond.methodLink RX10 194 yX10_bad) ∈ wMa := (List.mem_append_right _ (List.mem_append_right _ (List.mem_append_left _ (List.mem_of_getElem? (i := 15) rfl))))
theorem mi_bad : (Cond.instanceMethod yX10_bad) ∈ wMa := (List.mem_append_right _ (List.mem_append_right _ (List.mem_append_left _ (List.mem_of_getElem? (i := 16) rfl))))
theorem ms_bad : (Cond.selects RX10 yX10_bad yX10_bad) ∈ wMa := (List.mem_append_right _ (List.mem_append_right _ (List.mem_append_left _ (List.mem_of_getElem? (i := 17) rfl))))
theorem mc_bad : (Cond.code yX10_bad cX10_bad 5 (some .int)) ∈ wMa := (List.mem_append_right _ (List.mem_append_right _ (List.mem_append_left _ (List.mem_of_getElem? (i := 18) rfl))))
theorem mm_197 : (Cond.methodLink RX10 197 yX10_uglyNow) ∈ wMa := (List.mem_append_right _ (List.mem_append_right _ (List.mem_append_left _ (List.mem_of_getElem? (i := 19) rfl))))
theorem mi_uglyNow : (Cond.instanceMethod yX10_uglyNow) ∈ wMa := (List.mem_append_right _ (List.mem_append_right _ (List.mem_append_left _ (List.mem_of_getElem? (i := 20) rfl))))
theorem ms_uglyNow : (Cond.selects RX10 yX10_uglyNow yX10_uglyNow) ∈ wMa := (List.mem_append_right _ (List.mem_append_right _ (List.mem_append_left _ (List.mem_of_getElem? (i := 21) rfl))))
theorem mc_uglyNow : (Cond.code yX10_uglyNow cX10_uglyNow 3 (some .int)) ∈ wMa := (List.mem_append_right _ (List.mem_append_right _ (List.mem_append_left _ (List.mem_of_getElem? (i := 22) rfl))))
theorem mm_200 : (Cond.methodLink RX10 200 yX10_swap) ∈ wMa := (List.mem_append_right _ (List.mem_append_right _ (List.mem_append_left _ (List.mem_of_getElem? (i := 23) rfl))))
theorem mi_swap : (Cond.instanceMethod yX10_swap) ∈ wMa := (List.mem_append_right _ (List.mem_append_right _ (List.mem_append_left _ (List.mem_of_getElem? (i := 24) rfl))))
theorem ms_swap : (Cond.selects RX10 yX10_swap yX10_swap) ∈ wMa := (List.mem_append_right _ (List.mem_append_right _ (List.mem_append_left _ (List.mem_of_getElem? (i := 25) rfl))))
theorem mc_swap : (Cond.code yX10_swap cX10_swap 4 none) ∈ wMa := (List.mem_append_right _ (List.mem_append_right _ (List.mem_append_left _ (List.mem_of_getElem? (i := 26) rfl))))
theorem mf_209 : (Cond.fieldLink RX10 209 "RobeHouseModel" "bestTurned" "I") ∈ wMa := (List.mem_append_right _ (List.mem_append_right _ (List.mem_append_left _ (List.mem_of_getElem? (i := 27) rfl))))
theorem mm_203 : (Cond.methodLink RX10 203 yX10_many) ∈ wMa := (List.mem_append_right _ (List.mem_append_right _ (List.mem_append_left _ (List.mem_of_getElem? (i := 28) rfl))))
theorem mt_many : (Cond.static yX10_many) ∈ wMa := (List.mem_append_right _ (List.mem_append_right _ (List.mem_append_left _ (List.mem_of_getElem? (i := 29) rfl))))
theorem mc_many : (Cond.code yX10_many cX10_many 3 (some .int)) ∈ wMa := (List.mem_append_right _ (List.mem_append_right _ (List.mem_append_left _ (List.mem_of_getElem? (i := 30) rfl))))
theorem mm_206 : (Cond.methodLink RX10 206 yX10_code) ∈ wMa := (List.mem_append_right _ (List.mem_append_right _ (List.mem_append_left _ (List.mem_of_getElem? (i := 31) rfl))))
theorem mi_code : (Cond.instanceMethod yX10_code) ∈ wMa := (List.mem_append_right _ (List.mem_append_right _ (List.mem_append_left _ (List.mem_of_getElem? (i := 32) rfl))))
theorem ms_code : (Cond.selects RX10 yX10_code yX10_code) ∈ wMa := (List.mem_append_right _ (List.mem_append_right _ (List.mem_append_left _ (List.mem_of_getElem? (i := 33) rfl))))
theorem mc_code : (Cond.code yX10_code cX10_code 3 (some .int)) ∈ wMa := (List.mem_append_right _ (List.mem_append_right _ (List.mem_append_left _ (List.mem_of_getElem? (i := 34) rfl))))
theorem mm_212 : (Cond.methodLink RX10 212 yX10_turns) ∈ wMa := (List.mem_append_right _ (List.mem_append_right _ (List.mem_append_left _ (List.mem_of_getElem? (i := 35) rfl))))
theorem mi_turns : (Cond.instanceMethod yX10_turns) ∈ wMa := (List.mem_append_right _ (List.mem_append_right _ (List.mem_append_left _ (List.mem_of_getElem? (i := 36) rfl))))
theorem ms_turns : (Cond.selects RX10 yX10_turns yX10_turns) ∈ wMa := (List.mem_append_right _ (List.mem_append_right _ (List.mem_append_left _ (List.mem_of_getElem? (i := 37) rfl))))
theorem mc_turns : (Cond.code yX10_turns cX10_turns 5 (some .boolean)) ∈ wMa := (List.mem_append_right _ (List.mem_append_right _ (List.mem_append_left _ (List.mem_of_getElem? (i := 38) rfl))))
theorem mm_216 : (Cond.methodLink RX10 216 yX10_rowsOf) ∈ wMa := (List.mem_append_right _ (List.mem_append_right _ (List.mem_append_left _ (List.mem_of_getElem? (i := 39) rfl))))
theorem mi_rowsOf : (Cond.instanceMethod yX10_rowsOf) ∈ wMa := (List.mem_append_right _ (List.mem_append_right _ (List.mem_append_right _ (List.mem_append_left _ (List.mem_of_getElem? (i := 0) rfl)))))
theorem ms_rowsOf : (Cond.selects RX10 yX10_rowsOf yX10_rowsOf) ∈ wMa := (List.mem_append_right _ (List.mem_append_right _ (List.mem_append_right _ (List.mem_append_left _ (List.mem_of_getElem? (i := 1) rfl)))))
theorem mc_rowsOf : (Cond.code yX10_rowsOf cX10_rowsOf 2 (some .int)) ∈ wMa := (List.mem_append_right _ (List.mem_append_right _ (List.mem_append_right _ (List.mem_append_left _ (List.mem_of_getElem? (i := 2) rfl)))))
theorem mm_219 : (Cond.methodLink RX10 219 yX10_isMade) ∈ wMa := (List.mem_append_right _ (List.mem_append_right _ (List.mem_append_right _ (List.mem_append_left _ (List.mem_of_getElem? (i := 3) rfl)))))
theorem mi_isMade : (Cond.instanceMethod yX10_isMade) ∈ wMa := (List.mem_append_right _ (List.mem_append_right _ (List.mem_append_right _ (List.mem_append_left _ (List.mem_of_getElem? (i := 4) rfl)))))
theorem ms_isMade : (Cond.selects RX10 yX10_isMade yX10_isMade) ∈ wMa := (List.mem_append_right _ (List.mem_append_right _ (List.mem_append_right _ (List.mem_append_left _ (List.mem_of_getElem? (i := 5) rfl)))))
theorem mc_isMade : (Cond.code yX10_isMade cX10_isMade 2 (some .boolean)) ∈ wMa := (List.mem_append_right _ (List.mem_append_right _ (List.mem_append_right _ (List.mem_append_left _ (List.mem_of_getElem? (i := 6) rfl)))))
theorem mm_222 : (Cond.methodLink RX10 222 yX10_looksAt) ∈ wMa := (List.mem_append_right _ (List.mem_append_right _ (List.mem_append_right _ (List.mem_append_left _ (List.mem_of_getElem? (i := 7) rfl)))))
theorem mi_looksAt : (Cond.instanceMethod yX10_looksAt) ∈ wMa := (List.mem_append_right _ (List.mem_append_right _ (List.mem_append_right _ (List.mem_append_left _ (List.mem_of_getElem? (i := 8) rfl)))))
theorem ms_looksAt : (Cond.selects RX10 yX10_looksAt yX10_looksAt) ∈ wMa := (List.mem_append_right _ (List.mem_append_right _ (List.mem_append_right _ (List.mem_append_left _ (List.mem_of_getElem? (i := 9) rfl)))))
theorem mc_looksAt : (Cond.code yX10_looksAt cX10_looksAt 3 none) ∈ wMa := (List.mem_append_right _ (List.mem_append_right _ (List.mem_append_right _ (List.mem_append_left _ (List.mem_of_getElem? (i := 10) rfl)))))
theorem mm_226 : (Cond.methodLink RX10 226 yX10_wears) ∈ wMa := (List.mem_append_right _ (List.mem_append_right _ (List.mem_append_right _ (List.mem_append_left _ (List.mem_of_getElem? (i := 11) rfl)))))
theorem mi_wears : (Cond.instanceMethod yX10_wears) ∈ wMa := (List.mem_append_right _ (List.mem_append_right _ (List.mem_append_right _ (List.mem_append_left _ (List.mem_of_getElem? (i := 12) rfl)))))
theorem ms_wears : (Cond.selects RX10 yX10_wears yX10_wears) ∈ wMa := (List.mem_append_right _ (List.mem_append_right _ (List.mem_append_right _ (List.mem_append_left _ (List.mem_of_getElem? (i := 13) rfl)))))
theorem mc_wears : (Cond.code yX10_wears cX10_wears 5 (some .int)) ∈ wMa := (List.mem_append_right _ (List.mem_append_right _ (List.mem_append_right _ (List.mem_append_left _ (List.mem_of_getElem? (i := 14) rfl)))))
theorem mm_229 : (Cond.methodLink RX10 229 yX10_wornOnce) ∈ wMa := (List.mem_append_right _ (List.mem_append_right _ (List.mem_append_right _ (List.mem_append_left _ (List.mem_of_getElem? (i := 15) rfl)))))
theorem mi_wornOnce : (Cond.instanceMethod yX10_wornOnce) ∈ wMa := (List.mem_append_right _ (List.mem_append_right _ (List.mem_append_right _ (List.mem_append_left _ (List.mem_of_getElem? (i := 16) rfl)))))
theorem ms_wornOnce : (Cond.selects RX10 yX10_wornOnce yX10_wornOnce) ∈ wMa := (List.mem_append_right _ (List.mem_append_right _ (List.mem_append_right _ (List.mem_append_left _ (List.mem_of_getElem? (i := 17) rfl)))))
theorem mc_wornOnce : (Cond.code yX10_wornOnce cX10_wornOnce 4 (some .int)) ∈ wMa := (List.mem_append_right _ (List.mem_append_right _ (List.mem_append_right _ (List.mem_append_left _ (List.mem_of_getElem? (i := 18) rfl)))))
theorem mf_232 : (Cond.fieldLink RX10 232 "RobeHouseModel" "at" "I") ∈ wMa := (List.mem_append_right _ (List.mem_append_right _ (List.mem_append_right _ (List.mem_append_left _ (List.mem_of_getElem? (i := 19) rfl)))))
theorem mf_235 : (Cond.fieldLink RX10 235 "RobeHouseModel" "isFaulty" "Z") ∈ wMa := (List.mem_append_right _ (List.mem_append_right _ (List.mem_append_right _ (List.mem_append_left _ (List.mem_of_getElem? (i := 20) rfl)))))
theorem mm_239 : (Cond.methodLink RX10 239 yX10_here) ∈ wMa := (List.mem_append_right _ (List.mem_append_right _ (List.mem_append_right _ (List.mem_append_left _ (List.mem_of_getElem? (i := 21) rfl)))))
theorem mi_here : (Cond.instanceMethod yX10_here) ∈ wMa := (List.mem_append_right _ (List.mem_append_right _ (List.mem_append_right _ (List.mem_append_left _ (List.mem_of_getElem? (i := 22) rfl)))))
theorem ms_here : (Cond.selects RX10 yX10_here yX10_here) ∈ wMa := (List.mem_append_right _ (List.mem_append_right _ (List.mem_append_right _ (List.mem_append_left _ (List.mem_of_getElem? (i := 23) rfl)))))
theorem mc_here : (Cond.code yX10_here cX10_here 1 (some .int)) ∈ wMa := (List.mem_append_right _ (List.mem_append_right _ (List.mem_append_right _ (List.mem_append_left _ (List.mem_of_getElem? (i := 24) rfl)))))
theorem mm_242 : (Cond.methodLink RX10 242 yX10_eats) ∈ wMa := (List.mem_append_right _ (List.mem_append_right _ (List.mem_append_right _ (List.mem_append_left _ (List.mem_of_getElem? (i := 25) rfl)))))
theorem mi_eats : (Cond.instanceMethod yX10_eats) ∈ wMa := (List.mem_append_right _ (List.mem_append_right _ (List.mem_append_right _ (List.mem_append_left _ (List.mem_of_getElem? (i := 26) rfl)))))
theorem ms_eats : (Cond.selects RX10 yX10_eats yX10_eats) ∈ wMa := (List.mem_append_right _ (List.mem_append_right _ (List.mem_append_right _ (List.mem_append_left _ (List.mem_of_getElem? (i := 27) rfl)))))
theorem mc_eats : (Cond.code yX10_eats cX10_eats 2 none) ∈ wMa := (List.mem_append_right _ (List.mem_append_right _ (List.mem_append_right _ (List.mem_append_left _ (List.mem_of_getElem? (i := 28) rfl)))))
theorem mm_245 : (Cond.methodLink RX10 245 yX10_eats3) ∈ wMa := (List.mem_append_right _ (List.mem_append_right _ (List.mem_append_right _ (List.mem_append_left _ (List.mem_of_getElem? (i := 29) rfl)))))
theorem mi_eats3 : (Cond.instanceMethod yX10_eats3) ∈ wMa := (List.mem_append_right _ (List.mem_append_right _ (List.mem_append_right _ (List.mem_append_left _ (List.mem_of_getElem? (i := 30) rfl)))))
theorem ms_eats3 : (Cond.selects RX10 yX10_eats3 yX10_eats3) ∈ wMa := (List.mem_append_right _ (List.mem_append_right _ (List.mem_append_right _ (List.mem_append_left _ (List.mem_of_getElem? (i := 31) rfl)))))
theorem mc_eats3 : (Cond.code yX10_eats3 cX10_eats3 4 none) ∈ wMa := (List.mem_append_right _ (List.mem_append_right _ (List.mem_append_right _ (List.mem_append_left _ (List.mem_of_getElem? (i := 32) rfl)))))
theorem mm_249 : (Cond.methodLink RX10 249 yX10_whatRead) ∈ wMa := (List.mem_append_right _ (List.mem_append_right _ (List.mem_append_right _ (List.mem_append_left _ (List.mem_of_getElem? (i := 33) rfl)))))
theorem mi_whatRead : (Cond.instanceMethod yX10_whatRead) ∈ wMa := (List.mem_append_right _ (List.mem_append_right _ (List.mem_append_right _ (List.mem_append_left _ (List.mem_of_getElem? (i := 34) rfl)))))
theorem ms_whatRead : (Cond.selects RX10 yX10_whatRead yX10_whatRead) ∈ wMa := (List.mem_append_right _ (List.mem_append_right _ (List.mem_append_right _ (List.mem_append_left _ (List.mem_of_getElem? (i := 35) rfl)))))
theorem mc_whatRead : (Cond.code yX10_whatRead cX10_whatRead 1 (some .int)) ∈ wMa := (List.mem_append_right _ (List.mem_append_right _ (List.mem_append_right _ (List.mem_append_left _ (List.mem_of_getElem? (i := 36) rfl)))))
theorem mm_252 : (Cond.methodLink RX10 252 yX10_clauseRead) ∈ wMa := (List.mem_append_right _ (List.mem_append_right _ (List.mem_append_right _ (List.mem_append_left _ (List.mem_of_getElem? (i := 37) rfl)))))
theorem mi_clauseRead : (Cond.instanceMethod yX10_clauseRead) ∈ wMa := (List.mem_append_right _ (List.mem_append_right _ (List.mem_append_right _ (List.mem_append_left _ (List.mem_of_getElem? (i := 38) rfl)))))
theorem ms_clauseRead : (Cond.selects RX10 yX10_clauseRead yX10_clauseRead) ∈ wMa := (List.mem_append_right _ (List.mem_append_right _ (List.mem_append_right _ (List.mem_append_left _ (List.mem_of_getElem? (i := 39) rfl)))))
theorem mc_clauseRead : (Cond.code yX10_clauseRead cX10_clauseRead 5 none) ∈ wMa := (List.mem_append_right _ (List.mem_append_right _ (List.mem_append_right _ (List.mem_append_right _ (List.mem_append_left _ (List.mem_of_getElem? (i := 0) rfl))))))
theorem mm_255 : (Cond.methodLink RX10 255 yX10_isTold) ∈ wMa := (List.mem_append_right _ (List.mem_append_right _ (List.mem_append_right _ (List.mem_append_right _ (List.mem_append_left _ (List.mem_of_getElem? (i := 1) rfl))))))
theorem mi_isTold : (Cond.instanceMethod yX10_isTold) ∈ wMa := (List.mem_append_right _ (List.mem_append_right _ (List.mem_append_right _ (List.mem_append_right _ (List.mem_append_left _ (List.mem_of_getElem? (i := 2) rfl))))))
theorem ms_isTold : (Cond.selects RX10 yX10_isTold yX10_isTold) ∈ wMa := (List.mem_append_right _ (List.mem_append_right _ (List.mem_append_right _ (List.mem_append_right _ (List.mem_append_left _ (List.mem_of_getElem? (i := 3) rfl))))))
theorem mc_isTold : (Cond.code yX10_isTold cX10_isTold 2 (some .boolean)) ∈ wMa := (List.mem_append_right _ (List.mem_append_right _ (List.mem_append_right _ (List.mem_append_right _ (List.mem_append_left _ (List.mem_of_getElem? (i := 4) rfl))))))
theorem mm_258 : (Cond.methodLink RX10 258 yX10_cannot) ∈ wMa := (List.mem_append_right _ (List.mem_append_right _ (List.mem_append_right _ (List.mem_append_right _ (List.mem_append_left _ (List.mem_of_getElem? (i := 5) rfl))))))
theorem mi_cannot : (Cond.instanceMethod yX10_cannot) ∈ wMa := (List.mem_append_right _ (List.mem_append_right _ (List.mem_append_right _ (List.mem_append_right _ (List.mem_append_left _ (List.mem_of_getElem? (i := 6) rfl))))))
theorem ms_cannot : (Cond.selects RX10 yX10_cannot yX10_cannot) ∈ wMa := (List.mem_append_right _ (List.mem_append_right _ (List.mem_append_right _ (List.mem_append_right _ (List.mem_append_left _ (List.mem_of_getElem? (i := 7) rfl))))))
theorem mc_cannot : (Cond.code yX10_cannot cX10_cannot 4 (some .int)) ∈ wMa := (List.mem_append_right _ (List.mem_append_right _ (List.mem_append_right _ (List.mem_append_right _ (List.mem_append_left _ (List.mem_of_getElem? (i := 8) rfl))))))
theorem mm_261 : (Cond.methodLink RX10 261 yX10_mayWear) ∈ wMa := (List.mem_append_right _ (List.mem_append_right _ (List.mem_append_right _ (List.mem_append_right _ (List.mem_append_left _ (List.mem_of_getElem? (i := 9) rfl))))))
theorem mi_mayWear : (Cond.instanceMethod yX10_mayWear) ∈ wMa := (List.mem_append_right _ (List.mem_append_right _ (List.mem_append_right _ (List.mem_append_right _ (List.mem_append_left _ (List.mem_of_getElem? (i := 10) rfl))))))
theorem ms_mayWear : (Cond.selects RX10 yX10_mayWear yX10_mayWear) ∈ wMa := (List.mem_append_right _ (List.mem_append_right _ (List.mem_append_right _ (List.mem_append_right _ (List.mem_append_left _ (List.mem_of_getElem? (i := 11) rfl))))))
theorem mc_mayWear : (Cond.code yX10_mayWear cX10_mayWear 10 (some .boolean)) ∈ wMa := (List.mem_append_right _ (List.mem_append_right _ (List.mem_append_right _ (List.mem_append_right _ (List.mem_append_left _ (List.mem_of_getElem? (i := 12) rfl))))))
theorem mm_264 : (Cond.methodLink RX10 264 yX10_hasSome) ∈ wMa := (List.mem_append_right _ (List.mem_append_right _ (List.mem_append_right _ (List.mem_append_right _ (List.mem_append_left _ (List.mem_of_getElem? (i := 13) rfl))))))
theorem mi_hasSome : (Cond.instanceMethod yX10_hasSome) ∈ wMa := (List.mem_append_right _ (List.mem_append_right _ (List.mem_append_right _ (List.mem_append_right _ (List.mem_append_left _ (List.mem_of_getElem? (i := 14) rfl))))))
theorem ms_hasSome : (Cond.selects RX10 yX10_hasSome yX10_hasSome) ∈ wMa := (List.mem_append_right _ (List.mem_append_right _ (List.mem_append_right _ (List.mem_append_right _ (List.mem_append_left _ (List.mem_of_getElem? (i := 15) rfl))))))
theorem mc_hasSome : (Cond.code yX10_hasSome cX10_hasSome 3 (some .boolean)) ∈ wMa := (List.mem_append_right _ (List.mem_append_right _ (List.mem_append_right _ (List.mem_append_right _ (List.mem_append_left _ (List.mem_of_getElem? (i := 16) rfl))))))
theorem mm_267 : (Cond.methodLink RX10 267 yX10_gives) ∈ wMa := (List.mem_append_right _ (List.mem_append_right _ (List.mem_append_right _ (List.mem_append_right _ (List.mem_append_left _ (List.mem_of_getElem? (i := 17) rfl))))))
theorem mi_gives : (Cond.instanceMethod yX10_gives) ∈ wMa := (List.mem_append_right _ (List.mem_append_right _ (List.mem_append_right _ (List.mem_append_right _ (List.mem_append_left _ (List.mem_of_getElem? (i := 18) rfl))))))
theorem ms_gives : (Cond.selects RX10 yX10_gives yX10_gives) ∈ wMa := (List.mem_append_right _ (List.mem_append_right _ (List.mem_append_right _ (List.mem_append_right _ (List.mem_append_left _ (List.mem_of_getElem? (i := 19) rfl))))))
theorem mc_gives : (Cond.code yX10_gives cX10_gives 7 none) ∈ wMa := (List.mem_append_right _ (List.mem_append_right _ (List.mem_append_right _ (List.mem_append_right _ (List.mem_append_left _ (List.mem_of_getElem? (i := 20) rfl))))))
theorem mm_270 : (Cond.methodLink RX10 270 yX10_goesTo) ∈ wMa := (List.mem_append_right _ (List.mem_append_right _ (List.mem_append_right _ (List.mem_append_right _ (List.mem_append_left _ (List.mem_of_getElem? (i := 21) rfl))))))
theorem mi_goesTo : (Cond.instanceMethod yX10_goesTo) ∈ wMa := (List.mem_append_right _ (List.mem_append_right _ (List.mem_append_right _ (List.mem_append_right _ (List.mem_append_left _ (List.mem_of_getElem? (i := 22) rfl))))))
theorem ms_goesTo : (Cond.selects RX10 yX10_goesTo yX10_goesTo) ∈ wMa := (List.mem_append_right _ (List.mem_append_right _ (List.mem_append_right _ (List.mem_append_right _ (List.mem_append_left _ (List.mem_of_getElem? (i := 23) rfl))))))
theorem mc_goesTo : (Cond.code yX10_goesTo cX10_goesTo 6 (some .boolean)) ∈ wMa := (List.mem_append_right _ (List.mem_append_right _ (List.mem_append_right _ (List.mem_append_right _ (List.mem_append_left _ (List.mem_of_getElem? (i := 24) rfl))))))
theorem mm_273 : (Cond.methodLink RX10 273 yX10_most) ∈ wMa := (List.mem_append_right _ (List.mem_append_right _ (List.mem_append_right _ (List.mem_append_right _ (List.mem_append_left _ (List.mem_of_getElem? (i := 25) rfl))))))
theorem mi_most : (Cond.instanceMethod yX10_most) ∈ wMa := (List.mem_append_right _ (List.mem_append_right _ (List.mem_append_right _ (List.mem_append_right _ (List.mem_append_left _ (List.mem_of_getElem? (i := 26) rfl))))))
theorem ms_most : (Cond.selects RX10 yX10_most yX10_most) ∈ wMa := (List.mem_append_right _ (List.mem_append_right _ (List.mem_append_right _ (List.mem_append_right _ (List.mem_append_left _ (List.mem_of_getElem? (i := 27) rfl))))))
theorem mc_most : (Cond.code yX10_most cX10_most 3 (some .int)) ∈ wMa := (List.mem_append_right _ (List.mem_append_right _ (List.mem_append_right _ (List.mem_append_right _ (List.mem_append_left _ (List.mem_of_getElem? (i := 28) rfl))))))
theorem mm_276 : (Cond.methodLink RX10 276 yX10_leastFor) ∈ wMa := (List.mem_append_right _ (List.mem_append_right _ (List.mem_append_right _ (List.mem_append_right _ (List.mem_append_left _ (List.mem_of_getElem? (i := 29) rfl))))))
theorem mi_leastFor : (Cond.instanceMethod yX10_leastFor) ∈ wMa := (List.mem_append_right _ (List.mem_append_right _ (List.mem_append_right _ (List.mem_append_right _ (List.mem_append_left _ (List.mem_of_getElem? (i := 30) rfl))))))
theorem ms_leastFor : (Cond.selects RX10 yX10_leastFor yX10_leastFor) ∈ wMa := (List.mem_append_right _ (List.mem_append_right _ (List.mem_append_right _ (List.mem_append_right _ (List.mem_append_left _ (List.mem_of_getElem? (i := 31) rfl))))))
theorem mc_leastFor : (Cond.code yX10_leastFor cX10_leastFor 6 (some .int)) ∈ wMa := (List.mem_append_right _ (List.mem_append_right _ (List.mem_append_right _ (List.mem_append_right _ (List.mem_append_left _ (List.mem_of_getElem? (i := 32) rfl))))))
theorem wMa_own : ∀ w ∈ wsX100, w ∈ wMa := fun w h => (List.mem_append_right _ (List.mem_append_right _ (List.mem_append_right _ (List.mem_append_right _ (List.mem_append_right _ h)))))

abbrev MS : Type := (Nat → Int32) × (Nat → Nat → Int32)
def si (σ : MS) (k : Nat) (v : Int32) : MS := (va_up σ.1 k v, σ.2)
def sa (σ : MS) (k : Nat) (i : Int32) (v : Int32) : MS := (σ.1, va_up σ.2 k (upd (σ.2 k) i.toNatClampNeg v))
def fM (ad : Nat → Nat) (σ : MS) : List Value := [.int (σ.1 0), .ref (ad 1), .ref (ad 2), .ref (ad 3), .ref (ad 4), .ref (ad 5), .int (σ.1 6), .ref (ad 7), .ref (ad 8), .ref (ad 9), .ref (ad 10), .ref (ad 11), .ref (ad 12), .ref (ad 13), .ref (ad 14), .ref (ad 15), .ref (ad 16), .ref (ad 17), .ref (ad 18), .ref (ad 19), .ref (ad 20), .int (σ.1 21), .int (σ.1 22), .int (σ.1 23), .int (σ.1 24), .int (σ.1 25), .ref (ad 26), .ref (ad 27), .ref (ad 28), .ref (ad 29), .ref (ad 30), .int (σ.1 31), .ref (ad 32), .ref (ad 33), .ref (ad 34), .ref (ad 35), .int (σ.1 36), .int (σ.1 37), .int (σ.1 38), .int (σ.1 39), .ref (ad 40), .ref (ad 41), .ref (ad 42), .ref (ad 43), .ref (ad 44), .ref (ad 45), .ref (ad 46), .ref (ad 47), .ref (ad 48)]
def wM (cI cZ : ClassId) (h : Nat) (ad : Nat → Nat) (σ : MS) : va_W := (h, .inr (10, fM ad σ)) :: [(ad 1, .inl (cZ, 40, .inl (σ.2 1))), (ad 2, .inl (cI, 40, .inl (σ.2 2))), (ad 3, .inl (cI, 40, .inl (σ.2 3))), (ad 4, .inl (cI, 40, .inl (σ.2 4))), (ad 5, .inl (cI, 4800, .inl (σ.2 5))), (ad 7, .inl (cZ, 30, .inl (σ.2 7))), (ad 8, .inl (cI, 30, .inl (σ.2 8))), (ad 9, .inl (cI, 30, .inl (σ.2 9))), (ad 10, .inl (cI, 30, .inl (σ.2 10))), (ad 11, .inl (cI, 30, .inl (σ.2 11))), (ad 12, .inl (cI, 30, .inl (σ.2 12))), (ad 13, .inl (cI, 30, .inl (σ.2 13))), (ad 14, .inl (cI, 3600, .inl (σ.2 14))), (ad 15, .inl (cZ, 30, .inl (σ.2 15))), (ad 16, .inl (cI, 30, .inl (σ.2 16))), (ad 17, .inl (cI, 30, .inl (σ.2 17))), (ad 18, .inl (cI, 3600, .inl (σ.2 18))), (ad 19, .inl (cI, 30, .inl (σ.2 19))), (ad 20, .inl (cI, 30, .inl (σ.2 20))), (ad 26, .inl (cI, 10, .inl (σ.2 26))), (ad 27, .inl (cI, 10, .inl (σ.2 27))), (ad 28, .inl (cI, 4, .inl (σ.2 28))), (ad 29, .inl (cI, 72, .inl (σ.2 29))), (ad 30, .inl (cI, 130, .inl (σ.2 30))), (ad 32, .inl (cI, 6, .inl (σ.2 32))), (ad 33, .inl (cI, 6, .inl (σ.2 33))), (ad 34, .inl (cI, 120, .inl (σ.2 34))), (ad 35, .inl (cI, 6, .inl (σ.2 35))), (ad 40, .inl (cI, 18, .inl (σ.2 40))), (ad 41, .inl (cI, 10, .inl (σ.2 41))), (ad 42, .inl (cI, 30, .inl (σ.2 42))), (ad 43, .inl (cI, 10, .inl (σ.2 43))), (ad 44, .inl (cI, 30, .inl (σ.2 44))), (ad 45, .inl (cI, 11, .inl (σ.2 45))), (ad 46, .inl (cZ, 30, .inl (σ.2 46))), (ad 47, .inl (cI, 10, .inl (σ.2 47))), (ad 48, .inl (cI, 10, .inl (σ.2 48)))]
abbrev tyM (cI cZ : ClassId) : List (ClassId × FieldType) := [(cI, .int), (cZ, .boolean)]
def fu : Nat := 1000000
def gd {α : Type} (b : Bool) (x : Option α) : Option α := if b = true then x else none
def inb (i : Int32) (n : Nat) : Bool := decide (¬ (i < 0 ∨ n ≤ i.toNatClampNeg))
theorem inb_in {i : Int32} {n : Nat} (h : inb i n = true) : vp_in i n := by
  unfold inb at h
  exact (of_decide_eq_true h : ¬ (i < 0 ∨ n ≤ i.toNatClampNeg))
theorem ob_t {α : Type} {c : Prop} [Decidable c] {x y : Option α} {r : α} (hc : c) (h : (if c then x else y) = some r) : x = some r := by rwa [if_pos hc] at h
theorem ob_f {α : Type} {c : Prop} [Decidable c] {x y : Option α} {r : α} (hc : ¬ c) (h : (if c then x else y) = some r) : y = some r := by rwa [if_neg hc] at h
theorem ob_gd {α : Type} {b : Bool} {x : Option α} {r : α} (h : gd b x = some r) : b = true ∧ x = some r := by
  unfold gd at h
  by_cases hb : b = true
  · exact ⟨hb, by rwa [if_pos hb] at h⟩
  · rw [if_neg hb] at h; cases h
theorem ob_bd {α β : Type} {x : Option α} {f : α → Option β} {r : β} (h : x.bind f = some r) : ∃ a, x = some a ∧ f a = some r := by
  cases x with
  | none => cases h
  | some a => exact ⟨a, rfl, h⟩
theorem ob_tsw {x : Int32} {lo hi : Int} (h : ∀ k : Int, lo ≤ k → k ≤ hi → ¬ x.toInt = k) : x.toInt < lo ∨ hi < x.toInt := by
  by_cases h1 : x.toInt < lo
  · exact Or.inl h1
  · by_cases h2 : hi < x.toInt
    · exact Or.inr h2
    · exact absurd rfl (h x.toInt (by omega) (by omega))
theorem ob_ti {x y : Int32} (h : ¬ x = y) : ¬ x.toInt = y.toInt := fun e => h (Int32.toInt_inj.mp e)
/-- the world of M: what holds of it at a method's start and end -/
def preM (D : va_G) (cI cZ : ClassId) (h : Nat) (ad : Nat → Nat) (A : Nat → Prop) (σ : MS) (U : State) : Prop := va_P D vwCl (wM cI cZ h ad σ) U.heap ∧ va_K D vwCl (tyM cI cZ) U ∧ va_D A (wM cI cZ h ad σ)
def preR (D : va_G) (cI cZ : ClassId) (h : Nat) (ad : Nat → Nat) (σ : MS) (U : State) : Prop := va_P D vwCl (wM cI cZ h ad σ) U.heap ∧ va_K D vwCl (tyM cI cZ) U
theorem goodMV {y z : MethodName} {c zc : ByteArray} {n zn idx : Nat} {r zr : Option FieldType} (h1 : Cond.methodLink RX10 idx z ∈ wMa) (h2 : Cond.instanceMethod z ∈ wMa) (h3 : Cond.selects RX10 z z ∈ wMa) (h5 : Cond.initialized RX10 ∈ wMa) (h4 : Cond.code z zc zn zr ∈ wMa) : GoodIn (Cond.code y c n r :: wMa) (wsV RX10 idx RX10 z (Cond.code z zc zn zr :: wMa)) := by
  have k : ∀ w, w ∈ wMa → w ∈ (Cond.code y c n r :: wMa) ∧ ((w.onTables && w.keeps) = true ∨ ∃ ty, w = .arrayClass ty) := fun w h => ⟨List.mem_cons_of_mem _ h, good_of_word (List.all_eq_true.mp wMa_good w h)⟩
  intro w hw
  unfold wsV at hw
  rcases List.mem_append.mp hw with hw | hw
  · rcases List.mem_cons.mp hw with rfl | hw
    · exact k _ h1
    rcases List.mem_cons.mp hw with rfl | hw
    · exact k _ h2
    rcases List.mem_cons.mp hw with rfl | hw
    · exact k _ h3
    rcases List.mem_cons.mp hw with rfl | hw
    · exact k _ h5
    · cases hw
  · rcases List.mem_cons.mp hw with rfl | hw
    · exact k _ h4
    · exact k _ hw
theorem goodMS {y z : MethodName} {c zc : ByteArray} {n zn idx : Nat} {r zr : Option FieldType} (h1 : Cond.methodLink RX10 idx z ∈ wMa) (h2 : Cond.static z ∈ wMa) (h5 : Cond.initialized z.cls ∈ wMa) (h4 : Cond.code z zc zn zr ∈ wMa) : GoodIn (Cond.code y c n r :: wMa) (va_wsS RX10 idx z (Cond.code z zc zn zr :: wMa)) := by
  have k : ∀ w, w ∈ wMa → w ∈ (Cond.code y c n r :: wMa) ∧ ((w.onTables && w.keeps) = true ∨ ∃ ty, w = .arrayClass ty) := fun w h => ⟨List.mem_cons_of_mem _ h, good_of_word (List.all_eq_true.mp wMa_good w h)⟩
  intro w hw
  unfold va_wsS at hw
  rcases List.mem_append.mp hw with hw | hw
  · rcases List.mem_cons.mp hw with rfl | hw
    · exact k _ h1
    rcases List.mem_cons.mp hw with rfl | hw
    · exact k _ h2
    rcases List.mem_cons.mp hw with rfl | hw
    · exact k _ h5
    · cases hw
  · rcases List.mem_cons.mp hw with rfl | hw
    · exact k _ h4
    · exact k _ hw
section ROWSM
variable {p : Program} {l : Launch} {e : Env} {R : Room} {s : State} {m : MethodId} {args : Array Value} {below : List Frame} {meth : Method} {c : Code} {H : Heap} {locs : List Loc} {Q : State → Prop}
variable {cc : ByteArray} {pc nL : Nat} {ls : Array Slot} {rest : List Value} {D : va_G} {A : Nat → Prop} {H0 : Heap} {cI cZ : ClassId} {h : Nat} {ad : Nat → Nat} {σ : MS} {Ts : List Cond}
theorem gM (hexec : p.tables.exec = Jvm.exec) (hb : c.code = cc) (hts : ∀ w ∈ Ts, w.before args s = true) (hin : ∀ w ∈ wMa, w ∈ Ts) (hown : s.vm.findClass RX10 = some m.cls) (hK : va_K D vwCl (tyM cI cZ) s) (hP : va_P D vwCl (wM cI cZ h ad σ) H) (k : Nat) {index : Nat} (v : Value) (hk : k < 49) (hlink : (Cond.fieldLink RX10 index (TX10 k).1 (TX10 k).2.1 (TX10 k).2.2.1) ∈ wMa) (hv : (fM ad σ)[k]? = some v) (hdg : decode cc pc = .ok (.getfield index, 3))
    (kk : W p l e R s m args below meth c H locs 0 0 Q (F0 m (pc + 3) ls (v :: rest))) : W p l e R s m args below meth c H locs 0 0 Q (F0 m pc ls (.ref h :: rest)) :=
  va_get (D := D) (ci := 10) (v := v) (C := RX10) (T := TX10) (N := 49) hexec hb hts (fun w hw => hin w (wMa_own w hw)) hown hK hP 0 rfl rfl k hk (hts _ (hin _ hlink)) (fun _ h9 => h9) hv hdg kk
theorem pM (hexec : p.tables.exec = Jvm.exec) (hb : c.code = cc) (hts : ∀ w ∈ Ts, w.before args s = true) (hin : ∀ w ∈ wMa, w ∈ Ts) (hown : s.vm.findClass RX10 = some m.cls) (hK : va_K D vwCl (tyM cI cZ) s) (hP : va_P D vwCl (wM cI cZ h ad σ) H) (hD : va_D A (wM cI cZ h ad σ)) (hS : va_S A H0 H locs) (k : Nat) {index : Nat} {v : Int32} {ty : FieldType} (hk : k < 49) (hlink : (Cond.fieldLink RX10 index (TX10 k).1 (TX10 k).2.1 (TX10 k).2.2.1) ∈ wMa) (hfin : (TX10 k).2.2.2 = false) (hd : parseFieldDescriptor (TX10 k).2.2.1 = some ty) (hn : narrow ty (.int v) = .int v) (hfit : fits ty (.int v) = true) (hl : k < (fM ad σ).length) (he : (wM cI cZ h ad σ).set 0 (h, .inr (10, (fM ad σ).set k (.int v))) = wM cI cZ h ad (si σ k v)) (hdg : decode cc pc = .ok (.putfield index, 3))
    (kk : ∀ (H1 : Heap) (locs1 : List Loc), va_P D vwCl (wM cI cZ h ad (si σ k v)) H1 → va_D A (wM cI cZ h ad (si σ k v)) → va_S A H0 H1 locs1 → W p l e R s m args below meth c H1 locs1 0 0 Q (F0 m (pc + 3) ls rest)) : W p l e R s m args below meth c H locs 0 0 Q (F0 m pc ls (.int v :: .ref h :: rest)) :=
  va_put (D := D) (ci := 10) (v := .int v) (ty := ty) (C := RX10) (T := TX10) (N := 49) hexec hb hts (fun w hw => hin w (wMa_own w hw)) tyX10 tyX10_ok nmX10 hown hK hP hD hS 0 rfl rfl k hk (hts _ (hin _ hlink)) (fun _ h9 => h9) hfin hd hn hfit hl hdg (fun H1 locs1 hP1 hD1 hS1 => kk H1 locs1 (he ▸ hP1) (he ▸ hD1) hS1)
theorem blM {av : List Value} : FrameBlind (va_Pc av (preM D cI cZ h ad A σ)) := fun a U g mk q => by
  obtain ⟨q0, qP, qK, qD⟩ := q
  exact ⟨q0, qP, va_K.moved (u := U) (U := U.calling g mk a) (Vm.Alike.refl U.vm) qK, qD⟩
theorem blR {av : List Value} : FrameBlind (va_Pc av (preR D cI cZ h ad σ)) := fun a U g mk q => by
  obtain ⟨q0, qP, qK⟩ := q
  exact ⟨q0, qP, va_K.moved (u := U) (U := U.calling g mk a) (Vm.Alike.refl U.vm) qK⟩
variable {y : MethodName} {bytes : ByteArray} {maxL n index : Nat} {ret : Option FieldType} {ws : List Cond} {rm : Room} {As : List Value} {st0 : List Value}
/-- a call of a method that only reads, with an int answer -/
theorem crM {r : Int32} (S : CallFix p m c cc nL s args Ts RX10) (hM : Met l y ws rm (va_Pc (.ref h :: As) (preR D cI cZ h ad σ)) (vp_Si (fun x => x = r)) 0 0 (fun _ => False)) (cw : CallW R s args RX10 RX10 index y bytes maxL ret ws rm 0 0 n) (hK : va_K D vwCl (tyM cI cZ) s) (hP : va_P D vwCl (wM cI cZ h ad σ) H) (hn : As.length = n) (hsize : ls.size = nL) (hstack : st0 = As.reverse ++ .ref h :: rest) (hW : 2 * (F0 m pc ls st0).monitorRoom + (rest.map fun v => v.category).sum ≤ 8) (hdg : decode cc pc = .ok (.invokevirtual index, 3))
    (kk : W p l e R s m args below meth c H locs 0 0 Q (F0 m (pc + 3) ls (.int r :: rest))) : W p l e R s m args below meth c H locs 0 0 Q (F0 m pc ls st0) := by
  refine vp_callSi (post := fun x => x = r) (rest := rest) (va_Run.run (va_runV (As := As) (rest := rest) S hM cw ⟨blR, va_recv hK hP (ci := 10) (q0 := 0) rfl rfl, fun U hU hW => ⟨rfl, by rw [hU]; exact hP, va_K.moved hW.alike hK⟩⟩ rfl hn hsize hstack hW hdg ⟨Nat.zero_le _, Nat.zero_le _⟩)) (fun x hx => ?_)
  subst hx
  exact kk
/-- a call of a static method -/
theorem csM {r : Int32} {own : String} (S : CallFix p m c cc nL s args Ts own) (hM : Met l y ws rm (va_Pc As (fun _ => True)) (vp_Si (fun x => x = r)) 0 0 (fun _ => False)) (cw : CallB R s args own index y bytes maxL ret ws rm 0 0 n ∧ (Cond.static y).before args s = true) (hn : As.length = n) (hsize : ls.size = nL) (hstack : st0 = As.reverse ++ rest) (hW : 2 * (F0 m pc ls st0).monitorRoom + (rest.map fun v => v.category).sum ≤ 8) (hdg : decode cc pc = .ok (.invokestatic index, 3))
    (kk : W p l e R s m args below meth c H locs 0 0 Q (F0 m (pc + 3) ls (.int r :: rest))) : W p l e R s m args below meth c H locs 0 0 Q (F0 m pc ls st0) := by
  refine vp_callSi (post := fun x => x = r) (rest := rest) (va_Run.run (va_runS (As := As) (rest := rest) S hM cw ⟨fun a U g mk q => q, fun U hU hW => ⟨rfl, trivial⟩⟩ rfl hn hsize hstack hW hdg ⟨Nat.zero_le _, Nat.zero_le _⟩)) (fun x hx => ?_)
  subst hx
  exact kk
/-- a call of a method that writes, with an int answer -/
theorem cwM {q : Int32 × MS} (S : CallFix p m c cc nL s args Ts RX10) (hM : Met l y ws rm (va_Pc (.ref h :: As) (preM D cI cZ h ad A σ)) (va_Qi (fun x u => x = q.1 ∧ u = q.2) (preM D cI cZ h ad A) A) 0 0 A) (cw : CallW R s args RX10 RX10 index y bytes maxL ret ws rm 0 0 n) (hK : va_K D vwCl (tyM cI cZ) s) (hP : va_P D vwCl (wM cI cZ h ad σ) H) (hD : va_D A (wM cI cZ h ad σ)) (hS : va_S A H0 H locs) (hn : As.length = n) (hsize : ls.size = nL) (hstack : st0 = As.reverse ++ .ref h :: rest) (hW : 2 * (F0 m pc ls st0).monitorRoom + (rest.map fun v => v.category).sum ≤ 8) (hdg : decode cc pc = .ok (.invokevirtual index, 3))
    (kk : ∀ (H1 : Heap) (locs1 : List Loc), va_P D vwCl (wM cI cZ h ad q.2) H1 → va_D A (wM cI cZ h ad q.2) → va_S A H0 H1 locs1 → W p l e R s m args below meth c H1 locs1 0 0 Q (F0 m (pc + 3) ls (.int q.1 :: rest))) : W p l e R s m args below meth c H locs 0 0 Q (F0 m pc ls st0) := by
  refine va_calli (va_runV (As := As) (rest := rest) S hM cw ⟨blM, va_recv hK hP (ci := 10) (q0 := 0) rfl rfl, fun U hU hW => ⟨rfl, by rw [hU]; exact hP, va_K.moved hW.alike hK, hD⟩⟩ rfl hn hsize hstack hW hdg ⟨Nat.zero_le _, Nat.zero_le _⟩) hS (fun _ _ h => h) (fun _ h => h) (fun r u t H1 locs1 ht hvm hw hB hz1 hk1 hS1 => ?_)
  obtain ⟨rfl, rfl⟩ := hw
  exact kk H1 locs1 (by rw [← ht]; exact hB.1) hB.2.2 hS1
/-- a call of a void method that writes -/
theorem cvM {q : MS} (S : CallFix p m c cc nL s args Ts RX10) (hM : Met l y ws rm (va_Pc (.ref h :: As) (preM D cI cZ h ad A σ)) (va_Qv (fun u => u = q) (preM D cI cZ h ad A) A) 0 0 A) (cw : CallW R s args RX10 RX10 index y bytes maxL ret ws rm 0 0 n) (hK : va_K D vwCl (tyM cI cZ) s) (hP : va_P D vwCl (wM cI cZ h ad σ) H) (hD : va_D A (wM cI cZ h ad σ)) (hS : va_S A H0 H locs) (hn : As.length = n) (hsize : ls.size = nL) (hstack : st0 = As.reverse ++ .ref h :: rest) (hW : 2 * (F0 m pc ls st0).monitorRoom + (rest.map fun v => v.category).sum ≤ 8) (hdg : decode cc pc = .ok (.invokevirtual index, 3))
    (kk : ∀ (H1 : Heap) (locs1 : List Loc), va_P D vwCl (wM cI cZ h ad q) H1 → va_D A (wM cI cZ h ad q) → va_S A H0 H1 locs1 → W p l e R s m args below meth c H1 locs1 0 0 Q (F0 m (pc + 3) ls rest)) : W p l e R s m args below meth c H locs 0 0 Q (F0 m pc ls st0) := by
  refine va_callv (va_runV (As := As) (rest := rest) S hM cw ⟨blM, va_recv hK hP (ci := 10) (q0 := 0) rfl rfl, fun U hU hW => ⟨rfl, by rw [hU]; exact hP, va_K.moved hW.alike hK, hD⟩⟩ rfl hn hsize hstack hW hdg ⟨Nat.zero_le _, Nat.zero_le _⟩) hS (fun _ _ h => h) (fun _ h => h) (fun u t H1 locs1 ht hvm hw hB hz1 hk1 hS1 => ?_)
  subst hw
  exact kk H1 locs1 (by rw [← ht]; exact hB.1) hB.2.2 hS1
theorem rrM {v r : Int32} (hexec : p.tables.exec = Jvm.exec) (hb : c.code = cc) (hr : meth.sig.returnType = some .int) (hlocks : meth.locks = false) (hE : some v = some r) (hdg : decode cc pc = .ok (.ireturn, 1)) : W p l e R s m args below meth c s.heap [] 0 0 (MQ below (vp_Si (fun x => x = r)) args s 0 0 (fun _ => False)) (F0 m pc ls [.int v]) :=
  W.iret hexec hb hr (fun t ht _ => ⟨v, rfl, Option.some.inj hE, ht⟩) (fun q hq => by cases hq) hdg hlocks
theorem rzM {v r : Int32} {ty : FieldType} (hexec : p.tables.exec = Jvm.exec) (hb : c.code = cc) (hr : meth.sig.returnType = some ty) (hlocks : meth.locks = false) (hn : narrow ty (.int v) = .int v) (hE : some v = some r) (hdg : decode cc pc = .ok (.ireturn, 1)) : W p l e R s m args below meth c s.heap [] 0 0 (MQ below (vp_Si (fun x => x = r)) args s 0 0 (fun _ => False)) (F0 m pc ls [.int v]) :=
  W.zret hexec hb hr hn (fun t ht _ => ⟨v, rfl, Option.some.inj hE, ht⟩) (fun q hq => by cases hq) hdg hlocks
theorem rwM {v : Int32} {q : Int32 × MS} (hexec : p.tables.exec = Jvm.exec) (hb : c.code = cc) (hr : meth.sig.returnType = some .int) (hlocks : meth.locks = false) (hE : some (v, σ) = some q) (hK : va_K D vwCl (tyM cI cZ) s) (hP : va_P D vwCl (wM cI cZ h ad σ) H) (hD : va_D A (wM cI cZ h ad σ)) (hS : va_S A s.heap H locs) (hdg : decode cc pc = .ok (.ireturn, 1)) : W p l e R s m args below meth c H locs 0 0 (MQ below (va_Qi (fun x u => x = q.1 ∧ u = q.2) (preM D cI cZ h ad A) A) args s 0 0 A) (F0 m pc ls [.int v]) :=
  W.iret hexec hb hr (fun t ht hW => ⟨⟨v, σ, rfl, ⟨congrArg Prod.fst (Option.some.inj hE), congrArg Prod.snd (Option.some.inj hE)⟩, by rw [ht]; exact hP, va_K.moved hW.alike hK, hD⟩, hS.F ht⟩) hS.2.2 hdg hlocks
theorem rxM {v : Int32} {q : Int32 × MS} {ty : FieldType} (hexec : p.tables.exec = Jvm.exec) (hb : c.code = cc) (hr : meth.sig.returnType = some ty) (hlocks : meth.locks = false) (hn : narrow ty (.int v) = .int v) (hE : some (v, σ) = some q) (hK : va_K D vwCl (tyM cI cZ) s) (hP : va_P D vwCl (wM cI cZ h ad σ) H) (hD : va_D A (wM cI cZ h ad σ)) (hS : va_S A s.heap H locs) (hdg : decode cc pc = .ok (.ireturn, 1)) : W p l e R s m args below meth c H locs 0 0 (MQ below (va_Qi (fun x u => x = q.1 ∧ u = q.2) (preM D cI cZ h ad A) A) args s 0 0 A) (F0 m pc ls [.int v]) :=
  W.zret hexec hb hr hn (fun t ht hW => ⟨⟨v, σ, rfl, ⟨congrArg Prod.fst (Option.some.inj hE), congrArg Prod.snd (Option.some.inj hE)⟩, by rw [ht]; exact hP, va_K.moved hW.alike hK, hD⟩, hS.F ht⟩) hS.2.2 hdg hlocks
theorem rvM {q : MS} (hexec : p.tables.exec = Jvm.exec) (hb : c.code = cc) (hr : meth.sig.returnType = none) (hlocks : meth.locks = false) (hE : some σ = some q) (hK : va_K D vwCl (tyM cI cZ) s) (hP : va_P D vwCl (wM cI cZ h ad σ) H) (hD : va_D A (wM cI cZ h ad σ)) (hS : va_S A s.heap H locs) (hdg : decode cc pc = .ok (.return_, 1)) : W p l e R s m args below meth c H locs 0 0 (MQ below (va_Qv (fun u => u = q) (preM D cI cZ h ad A) A) args s 0 0 A) (F0 m pc ls []) :=
  W.vret hexec hb hr (fun t ht hW => ⟨⟨σ, rfl, Option.some.inj hE, by rw [ht]; exact hP, va_K.moved hW.alike hK, hD⟩, hS.F ht⟩) hS.2.2 hdg hlocks
end ROWSM
theorem at_1 (cI cZ : ClassId) (h : Nat) (ad : Nat → Nat) (σ : MS) : (wM cI cZ h ad σ)[1]? = some (ad 1, .inl (cZ, 40, .inl (σ.2 1))) := rfl
theorem st_1 (cI cZ : ClassId) (h : Nat) (ad : Nat → Nat) (σ : MS) (i v : Int32) : (wM cI cZ h ad σ).set 1 (ad 1, .inl (cZ, 40, .inl (upd (σ.2 1) i.toNatClampNeg v))) = wM cI cZ h ad (sa σ 1 i v) := rfl
theorem at_2 (cI cZ : ClassId) (h : Nat) (ad : Nat → Nat) (σ : MS) : (wM cI cZ h ad σ)[2]? = some (ad 2, .inl (cI, 40, .inl (σ.2 2))) := rfl
theorem st_2 (cI cZ : ClassId) (h : Nat) (ad : Nat → Nat) (σ : MS) (i v : Int32) : (wM cI cZ h ad σ).set 2 (ad 2, .inl (cI, 40, .inl (upd (σ.2 2) i.toNatClampNeg v))) = wM cI cZ h ad (sa σ 2 i v) := rfl
theorem at_3 (cI cZ : ClassId) (h : Nat) (ad : Nat → Nat) (σ : MS) : (wM cI cZ h ad σ)[3]? = some (ad 3, .inl (cI, 40, .inl (σ.2 3))) := rfl
theorem st_3 (cI cZ : ClassId) (h : Nat) (ad : Nat → Nat) (σ : MS) (i v : Int32) : (wM cI cZ h ad σ).set 3 (ad 3, .inl (cI, 40, .inl (upd (σ.2 3) i.toNatClampNeg v))) = wM cI cZ h ad (sa σ 3 i v) := rfl
theorem at_4 (cI cZ : ClassId) (h : Nat) (ad : Nat → Nat) (σ : MS) : (wM cI cZ h ad σ)[4]? = some (ad 4, .inl (cI, 40, .inl (σ.2 4))) := rfl
theorem st_4 (cI cZ : ClassId) (h : Nat) (ad : Nat → Nat) (σ : MS) (i v : Int32) : (wM cI cZ h ad σ).set 4 (ad 4, .inl (cI, 40, .inl (upd (σ.2 4) i.toNatClampNeg v))) = wM cI cZ h ad (sa σ 4 i v) := rfl
theorem at_5 (cI cZ : ClassId) (h : Nat) (ad : Nat → Nat) (σ : MS) : (wM cI cZ h ad σ)[5]? = some (ad 5, .inl (cI, 4800, .inl (σ.2 5))) := rfl
theorem st_5 (cI cZ : ClassId) (h : Nat) (ad : Nat → Nat) (σ : MS) (i v : Int32) : (wM cI cZ h ad σ).set 5 (ad 5, .inl (cI, 4800, .inl (upd (σ.2 5) i.toNatClampNeg v))) = wM cI cZ h ad (sa σ 5 i v) := rfl
theorem at_7 (cI cZ : ClassId) (h : Nat) (ad : Nat → Nat) (σ : MS) : (wM cI cZ h ad σ)[6]? = some (ad 7, .inl (cZ, 30, .inl (σ.2 7))) := rfl
theorem st_7 (cI cZ : ClassId) (h : Nat) (ad : Nat → Nat) (σ : MS) (i v : Int32) : (wM cI cZ h ad σ).set 6 (ad 7, .inl (cZ, 30, .inl (upd (σ.2 7) i.toNatClampNeg v))) = wM cI cZ h ad (sa σ 7 i v) := rfl
theorem at_8 (cI cZ : ClassId) (h : Nat) (ad : Nat → Nat) (σ : MS) : (wM cI cZ h ad σ)[7]? = some (ad 8, .inl (cI, 30, .inl (σ.2 8))) := rfl
theorem st_8 (cI cZ : ClassId) (h : Nat) (ad : Nat → Nat) (σ : MS) (i v : Int32) : (wM cI cZ h ad σ).set 7 (ad 8, .inl (cI, 30, .inl (upd (σ.2 8) i.toNatClampNeg v))) = wM cI cZ h ad (sa σ 8 i v) := rfl
theorem at_9 (cI cZ : ClassId) (h : Nat) (ad : Nat → Nat) (σ : MS) : (wM cI cZ h ad σ)[8]? = some (ad 9, .inl (cI, 30, .inl (σ.2 9))) := rfl
theorem st_9 (cI cZ : ClassId) (h : Nat) (ad : Nat → Nat) (σ : MS) (i v : Int32) : (wM cI cZ h ad σ).set 8 (ad 9, .inl (cI, 30, .inl (upd (σ.2 9) i.toNatClampNeg v))) = wM cI cZ h ad (sa σ 9 i v) := rfl
theorem at_10 (cI cZ : ClassId) (h : Nat) (ad : Nat → Nat) (σ : MS) : (wM cI cZ h ad σ)[9]? = some (ad 10, .inl (cI, 30, .inl (σ.2 10))) := rfl
theorem st_10 (cI cZ : ClassId) (h : Nat) (ad : Nat → Nat) (σ : MS) (i v : Int32) : (wM cI cZ h ad σ).set 9 (ad 10, .inl (cI, 30, .inl (upd (σ.2 10) i.toNatClampNeg v))) = wM cI cZ h ad (sa σ 10 i v) := rfl
theorem at_11 (cI cZ : ClassId) (h : Nat) (ad : Nat → Nat) (σ : MS) : (wM cI cZ h ad σ)[10]? = some (ad 11, .inl (cI, 30, .inl (σ.2 11))) := rfl
theorem st_11 (cI cZ : ClassId) (h : Nat) (ad : Nat → Nat) (σ : MS) (i v : Int32) : (wM cI cZ h ad σ).set 10 (ad 11, .inl (cI, 30, .inl (upd (σ.2 11) i.toNatClampNeg v))) = wM cI cZ h ad (sa σ 11 i v) := rfl
theorem at_12 (cI cZ : ClassId) (h : Nat) (ad : Nat → Nat) (σ : MS) : (wM cI cZ h ad σ)[11]? = some (ad 12, .inl (cI, 30, .inl (σ.2 12))) := rfl
theorem st_12 (cI cZ : ClassId) (h : Nat) (ad : Nat → Nat) (σ : MS) (i v : Int32) : (wM cI cZ h ad σ).set 11 (ad 12, .inl (cI, 30, .inl (upd (σ.2 12) i.toNatClampNeg v))) = wM cI cZ h ad (sa σ 12 i v) := rfl
theorem at_13 (cI cZ : ClassId) (h : Nat) (ad : Nat → Nat) (σ : MS) : (wM cI cZ h ad σ)[12]? = some (ad 13, .inl (cI, 30, .inl (σ.2 13))) := rfl
theorem st_13 (cI cZ : ClassId) (h : Nat) (ad : Nat → Nat) (σ : MS) (i v : Int32) : (wM cI cZ h ad σ).set 12 (ad 13, .inl (cI, 30, .inl (upd (σ.2 13) i.toNatClampNeg v))) = wM cI cZ h ad (sa σ 13 i v) := rfl
theorem at_14 (cI cZ : ClassId) (h : Nat) (ad : Nat → Nat) (σ : MS) : (wM cI cZ h ad σ)[13]? = some (ad 14, .inl (cI, 3600, .inl (σ.2 14))) := rfl
theorem st_14 (cI cZ : ClassId) (h : Nat) (ad : Nat → Nat) (σ : MS) (i v : Int32) : (wM cI cZ h ad σ).set 13 (ad 14, .inl (cI, 3600, .inl (upd (σ.2 14) i.toNatClampNeg v))) = wM cI cZ h ad (sa σ 14 i v) := rfl
theorem at_15 (cI cZ : ClassId) (h : Nat) (ad : Nat → Nat) (σ : MS) : (wM cI cZ h ad σ)[14]? = some (ad 15, .inl (cZ, 30, .inl (σ.2 15))) := rfl
theorem st_15 (cI cZ : ClassId) (h : Nat) (ad : Nat → Nat) (σ : MS) (i v : Int32) : (wM cI cZ h ad σ).set 14 (ad 15, .inl (cZ, 30, .inl (upd (σ.2 15) i.toNatClampNeg v))) = wM cI cZ h ad (sa σ 15 i v) := rfl
theorem at_16 (cI cZ : ClassId) (h : Nat) (ad : Nat → Nat) (σ : MS) : (wM cI cZ h ad σ)[15]? = some (ad 16, .inl (cI, 30, .inl (σ.2 16))) := rfl
theorem st_16 (cI cZ : ClassId) (h : Nat) (ad : Nat → Nat) (σ : MS) (i v : Int32) : (wM cI cZ h ad σ).set 15 (ad 16, .inl (cI, 30, .inl (upd (σ.2 16) i.toNatClampNeg v))) = wM cI cZ h ad (sa σ 16 i v) := rfl
theorem at_17 (cI cZ : ClassId) (h : Nat) (ad : Nat → Nat) (σ : MS) : (wM cI cZ h ad σ)[16]? = some (ad 17, .inl (cI, 30, .inl (σ.2 17))) := rfl
theorem st_17 (cI cZ : ClassId) (h : Nat) (ad : Nat → Nat) (σ : MS) (i v : Int32) : (wM cI cZ h ad σ).set 16 (ad 17, .inl (cI, 30, .inl (upd (σ.2 17) i.toNatClampNeg v))) = wM cI cZ h ad (sa σ 17 i v) := rfl
theorem at_18 (cI cZ : ClassId) (h : Nat) (ad : Nat → Nat) (σ : MS) : (wM cI cZ h ad σ)[17]? = some (ad 18, .inl (cI, 3600, .inl (σ.2 18))) := rfl
theorem st_18 (cI cZ : ClassId) (h : Nat) (ad : Nat → Nat) (σ : MS) (i v : Int32) : (wM cI cZ h ad σ).set 17 (ad 18, .inl (cI, 3600, .inl (upd (σ.2 18) i.toNatClampNeg v))) = wM cI cZ h ad (sa σ 18 i v) := rfl
theorem at_19 (cI cZ : ClassId) (h : Nat) (ad : Nat → Nat) (σ : MS) : (wM cI cZ h ad σ)[18]? = some (ad 19, .inl (cI, 30, .inl (σ.2 19))) := rfl
theorem st_19 (cI cZ : ClassId) (h : Nat) (ad : Nat → Nat) (σ : MS) (i v : Int32) : (wM cI cZ h ad σ).set 18 (ad 19, .inl (cI, 30, .inl (upd (σ.2 19) i.toNatClampNeg v))) = wM cI cZ h ad (sa σ 19 i v) := rfl
theorem at_20 (cI cZ : ClassId) (h : Nat) (ad : Nat → Nat) (σ : MS) : (wM cI cZ h ad σ)[19]? = some (ad 20, .inl (cI, 30, .inl (σ.2 20))) := rfl
theorem st_20 (cI cZ : ClassId) (h : Nat) (ad : Nat → Nat) (σ : MS) (i v : Int32) : (wM cI cZ h ad σ).set 19 (ad 20, .inl (cI, 30, .inl (upd (σ.2 20) i.toNatClampNeg v))) = wM cI cZ h ad (sa σ 20 i v) := rfl
theorem at_26 (cI cZ : ClassId) (h : Nat) (ad : Nat → Nat) (σ : MS) : (wM cI cZ h ad σ)[20]? = some (ad 26, .inl (cI, 10, .inl (σ.2 26))) := rfl
theorem st_26 (cI cZ : ClassId) (h : Nat) (ad : Nat → Nat) (σ : MS) (i v : Int32) : (wM cI cZ h ad σ).set 20 (ad 26, .inl (cI, 10, .inl (upd (σ.2 26) i.toNatClampNeg v))) = wM cI cZ h ad (sa σ 26 i v) := rfl
theorem at_27 (cI cZ : ClassId) (h : Nat) (ad : Nat → Nat) (σ : MS) : (wM cI cZ h ad σ)[21]? = some (ad 27, .inl (cI, 10, .inl (σ.2 27))) := rfl
theorem st_27 (cI cZ : ClassId) (h : Nat) (ad : Nat → Nat) (σ : MS) (i v : Int32) : (wM cI cZ h ad σ).set 21 (ad 27, .inl (cI, 10, .inl (upd (σ.2 27) i.toNatClampNeg v))) = wM cI cZ h ad (sa σ 27 i v) := rfl
theorem at_28 (cI cZ : ClassId) (h : Nat) (ad : Nat → Nat) (σ : MS) : (wM cI cZ h ad σ)[22]? = some (ad 28, .inl (cI, 4, .inl (σ.2 28))) := rfl
theorem st_28 (cI cZ : ClassId) (h : Nat) (ad : Nat → Nat) (σ : MS) (i v : Int32) : (wM cI cZ h ad σ).set 22 (ad 28, .inl (cI, 4, .inl (upd (σ.2 28) i.toNatClampNeg v))) = wM cI cZ h ad (sa σ 28 i v) := rfl
theorem at_29 (cI cZ : ClassId) (h : Nat) (ad : Nat → Nat) (σ : MS) : (wM cI cZ h ad σ)[23]? = some (ad 29, .inl (cI, 72, .inl (σ.2 29))) := rfl
theorem st_29 (cI cZ : ClassId) (h : Nat) (ad : Nat → Nat) (σ : MS) (i v : Int32) : (wM cI cZ h ad σ).set 23 (ad 29, .inl (cI, 72, .inl (upd (σ.2 29) i.toNatClampNeg v))) = wM cI cZ h ad (sa σ 29 i v) := rfl
theorem at_30 (cI cZ : ClassId) (h : Nat) (ad : Nat → Nat) (σ : MS) : (wM cI cZ h ad σ)[24]? = some (ad 30, .inl (cI, 130, .inl (σ.2 30))) := rfl
theorem st_30 (cI cZ : ClassId) (h : Nat) (ad : Nat → Nat) (σ : MS) (i v : Int32) : (wM cI cZ h ad σ).set 24 (ad 30, .inl (cI, 130, .inl (upd (σ.2 30) i.toNatClampNeg v))) = wM cI cZ h ad (sa σ 30 i v) := rfl
theorem at_32 (cI cZ : ClassId) (h : Nat) (ad : Nat → Nat) (σ : MS) : (wM cI cZ h ad σ)[25]? = some (ad 32, .inl (cI, 6, .inl (σ.2 32))) := rfl
theorem st_32 (cI cZ : ClassId) (h : Nat) (ad : Nat → Nat) (σ : MS) (i v : Int32) : (wM cI cZ h ad σ).set 25 (ad 32, .inl (cI, 6, .inl (upd (σ.2 32) i.toNatClampNeg v))) = wM cI cZ h ad (sa σ 32 i v) := rfl
theorem at_33 (cI cZ : ClassId) (h : Nat) (ad : Nat → Nat) (σ : MS) : (wM cI cZ h ad σ)[26]? = some (ad 33, .inl (cI, 6, .inl (σ.2 33))) := rfl
theorem st_33 (cI cZ : ClassId) (h : Nat) (ad : Nat → Nat) (σ : MS) (i v : Int32) : (wM cI cZ h ad σ).set 26 (ad 33, .inl (cI, 6, .inl (upd (σ.2 33) i.toNatClampNeg v))) = wM cI cZ h ad (sa σ 33 i v) := rfl
theorem at_34 (cI cZ : ClassId) (h : Nat) (ad : Nat → Nat) (σ : MS) : (wM cI cZ h ad σ)[27]? = some (ad 34, .inl (cI, 120, .inl (σ.2 34))) := rfl
theorem st_34 (cI cZ : ClassId) (h : Nat) (ad : Nat → Nat) (σ : MS) (i v : Int32) : (wM cI cZ h ad σ).set 27 (ad 34, .inl (cI, 120, .inl (upd (σ.2 34) i.toNatClampNeg v))) = wM cI cZ h ad (sa σ 34 i v) := rfl
theorem at_35 (cI cZ : ClassId) (h : Nat) (ad : Nat → Nat) (σ : MS) : (wM cI cZ h ad σ)[28]? = some (ad 35, .inl (cI, 6, .inl (σ.2 35))) := rfl
theorem st_35 (cI cZ : ClassId) (h : Nat) (ad : Nat → Nat) (σ : MS) (i v : Int32) : (wM cI cZ h ad σ).set 28 (ad 35, .inl (cI, 6, .inl (upd (σ.2 35) i.toNatClampNeg v))) = wM cI cZ h ad (sa σ 35 i v) := rfl
theorem at_40 (cI cZ : ClassId) (h : Nat) (ad : Nat → Nat) (σ : MS) : (wM cI cZ h ad σ)[29]? = some (ad 40, .inl (cI, 18, .inl (σ.2 40))) := rfl
theorem st_40 (cI cZ : ClassId) (h : Nat) (ad : Nat → Nat) (σ : MS) (i v : Int32) : (wM cI cZ h ad σ).set 29 (ad 40, .inl (cI, 18, .inl (upd (σ.2 40) i.toNatClampNeg v))) = wM cI cZ h ad (sa σ 40 i v) := rfl
theorem at_41 (cI cZ : ClassId) (h : Nat) (ad : Nat → Nat) (σ : MS) : (wM cI cZ h ad σ)[30]? = some (ad 41, .inl (cI, 10, .inl (σ.2 41))) := rfl
theorem st_41 (cI cZ : ClassId) (h : Nat) (ad : Nat → Nat) (σ : MS) (i v : Int32) : (wM cI cZ h ad σ).set 30 (ad 41, .inl (cI, 10, .inl (upd (σ.2 41) i.toNatClampNeg v))) = wM cI cZ h ad (sa σ 41 i v) := rfl
theorem at_42 (cI cZ : ClassId) (h : Nat) (ad : Nat → Nat) (σ : MS) : (wM cI cZ h ad σ)[31]? = some (ad 42, .inl (cI, 30, .inl (σ.2 42))) := rfl
theorem st_42 (cI cZ : ClassId) (h : Nat) (ad : Nat → Nat) (σ : MS) (i v : Int32) : (wM cI cZ h ad σ).set 31 (ad 42, .inl (cI, 30, .inl (upd (σ.2 42) i.toNatClampNeg v))) = wM cI cZ h ad (sa σ 42 i v) := rfl
theorem at_43 (cI cZ : ClassId) (h : Nat) (ad : Nat → Nat) (σ : MS) : (wM cI cZ h ad σ)[32]? = some (ad 43, .inl (cI, 10, .inl (σ.2 43))) := rfl
theorem st_43 (cI cZ : ClassId) (h : Nat) (ad : Nat → Nat) (σ : MS) (i v : Int32) : (wM cI cZ h ad σ).set 32 (ad 43, .inl (cI, 10, .inl (upd (σ.2 43) i.toNatClampNeg v))) = wM cI cZ h ad (sa σ 43 i v) := rfl
theorem at_44 (cI cZ : ClassId) (h : Nat) (ad : Nat → Nat) (σ : MS) : (wM cI cZ h ad σ)[33]? = some (ad 44, .inl (cI, 30, .inl (σ.2 44))) := rfl
theorem st_44 (cI cZ : ClassId) (h : Nat) (ad : Nat → Nat) (σ : MS) (i v : Int32) : (wM cI cZ h ad σ).set 33 (ad 44, .inl (cI, 30, .inl (upd (σ.2 44) i.toNatClampNeg v))) = wM cI cZ h ad (sa σ 44 i v) := rfl
theorem at_45 (cI cZ : ClassId) (h : Nat) (ad : Nat → Nat) (σ : MS) : (wM cI cZ h ad σ)[34]? = some (ad 45, .inl (cI, 11, .inl (σ.2 45))) := rfl
theorem st_45 (cI cZ : ClassId) (h : Nat) (ad : Nat → Nat) (σ : MS) (i v : Int32) : (wM cI cZ h ad σ).set 34 (ad 45, .inl (cI, 11, .inl (upd (σ.2 45) i.toNatClampNeg v))) = wM cI cZ h ad (sa σ 45 i v) := rfl
theorem at_46 (cI cZ : ClassId) (h : Nat) (ad : Nat → Nat) (σ : MS) : (wM cI cZ h ad σ)[35]? = some (ad 46, .inl (cZ, 30, .inl (σ.2 46))) := rfl
theorem st_46 (cI cZ : ClassId) (h : Nat) (ad : Nat → Nat) (σ : MS) (i v : Int32) : (wM cI cZ h ad σ).set 35 (ad 46, .inl (cZ, 30, .inl (upd (σ.2 46) i.toNatClampNeg v))) = wM cI cZ h ad (sa σ 46 i v) := rfl
theorem at_47 (cI cZ : ClassId) (h : Nat) (ad : Nat → Nat) (σ : MS) : (wM cI cZ h ad σ)[36]? = some (ad 47, .inl (cI, 10, .inl (σ.2 47))) := rfl
theorem st_47 (cI cZ : ClassId) (h : Nat) (ad : Nat → Nat) (σ : MS) (i v : Int32) : (wM cI cZ h ad σ).set 36 (ad 47, .inl (cI, 10, .inl (upd (σ.2 47) i.toNatClampNeg v))) = wM cI cZ h ad (sa σ 47 i v) := rfl
theorem at_48 (cI cZ : ClassId) (h : Nat) (ad : Nat → Nat) (σ : MS) : (wM cI cZ h ad σ)[37]? = some (ad 48, .inl (cI, 10, .inl (σ.2 48))) := rfl
theorem st_48 (cI cZ : ClassId) (h : Nat) (ad : Nat → Nat) (σ : MS) (i v : Int32) : (wM cI cZ h ad σ).set 37 (ad 48, .inl (cI, 10, .inl (upd (σ.2 48) i.toNatClampNeg v))) = wM cI cZ h ad (sa σ 48 i v) := rfl
theorem pu_0 (cI cZ : ClassId) (h : Nat) (ad : Nat → Nat) (σ : MS) (v : Int32) : (wM cI cZ h ad σ).set 0 (h, .inr (10, (fM ad σ).set 0 (.int v))) = wM cI cZ h ad (si σ 0 v) := rfl
theorem pu_6 (cI cZ : ClassId) (h : Nat) (ad : Nat → Nat) (σ : MS) (v : Int32) : (wM cI cZ h ad σ).set 0 (h, .inr (10, (fM ad σ).set 6 (.int v))) = wM cI cZ h ad (si σ 6 v) := rfl
theorem pu_21 (cI cZ : ClassId) (h : Nat) (ad : Nat → Nat) (σ : MS) (v : Int32) : (wM cI cZ h ad σ).set 0 (h, .inr (10, (fM ad σ).set 21 (.int v))) = wM cI cZ h ad (si σ 21 v) := rfl
theorem pu_22 (cI cZ : ClassId) (h : Nat) (ad : Nat → Nat) (σ : MS) (v : Int32) : (wM cI cZ h ad σ).set 0 (h, .inr (10, (fM ad σ).set 22 (.int v))) = wM cI cZ h ad (si σ 22 v) := rfl
theorem pu_23 (cI cZ : ClassId) (h : Nat) (ad : Nat → Nat) (σ : MS) (v : Int32) : (wM cI cZ h ad σ).set 0 (h, .inr (10, (fM ad σ).set 23 (.int v))) = wM cI cZ h ad (si σ 23 v) := rfl
theorem pu_24 (cI cZ : ClassId) (h : Nat) (ad : Nat → Nat) (σ : MS) (v : Int32) : (wM cI cZ h ad σ).set 0 (h, .inr (10, (fM ad σ).set 24 (.int v))) = wM cI cZ h ad (si σ 24 v) := rfl
theorem pu_25 (cI cZ : ClassId) (h : Nat) (ad : Nat → Nat) (σ : MS) (v : Int32) : (wM cI cZ h ad σ).set 0 (h, .inr (10, (fM ad σ).set 25 (.int v))) = wM cI cZ h ad (si σ 25 v) := rfl
theorem pu_31 (cI cZ : ClassId) (h : Nat) (ad : Nat → Nat) (σ : MS) (v : Int32) : (wM cI cZ h ad σ).set 0 (h, .inr (10, (fM ad σ).set 31 (.int v))) = wM cI cZ h ad (si σ 31 v) := rfl
theorem pu_36 (cI cZ : ClassId) (h : Nat) (ad : Nat → Nat) (σ : MS) (v : Int32) : (wM cI cZ h ad σ).set 0 (h, .inr (10, (fM ad σ).set 36 (.int v))) = wM cI cZ h ad (si σ 36 v) := rfl
theorem pu_37 (cI cZ : ClassId) (h : Nat) (ad : Nat → Nat) (σ : MS) (v : Int32) : (wM cI cZ h ad σ).set 0 (h, .inr (10, (fM ad σ).set 37 (.int v))) = wM cI cZ h ad (si σ 37 v) := rfl
theorem pu_38 (cI cZ : ClassId) (h : Nat) (ad : Nat → Nat) (σ : MS) (v : Int32) : (wM cI cZ h ad σ).set 0 (h, .inr (10, (fM ad σ).set 38 (.int v))) = wM cI cZ h ad (si σ 38 v) := rfl
theorem pu_39 (cI cZ : ClassId) (h : Nat) (ad : Nat → Nat) (σ : MS) (v : Int32) : (wM cI cZ h ad σ).set 0 (h, .inr (10, (fM ad σ).set 39 (.int v))) = wM cI cZ h ad (si σ 39 v) := rfl
section ROWSA
variable {p : Program} {l : Launch} {e : Env} {R : Room} {s : State} {m : MethodId} {args : Array Value} {below : List Frame} {meth : Method} {c : Code} {H : Heap} {locs : List Loc} {Q : State → Prop}
variable {cc : ByteArray} {pc : Nat} {ls : Array Slot} {rest : List Value} {D : va_G} {A : Nat → Prop} {H0 : Heap} {cI cZ : ClassId} {h : Nat} {ad : Nat → Nat} {σ : MS}
theorem ldI (hexec : p.tables.exec = Jvm.exec) (hb : c.code = cc) (hK : va_K D vwCl (tyM cI cZ) s) (hP : va_P D vwCl (wM cI cZ h ad σ) H) {k pl n : Nat} (ha : (wM cI cZ h ad σ)[pl]? = some (ad k, .inl (cI, n, .inl (σ.2 k)))) {i : Int32} (v : Int32) (hin : inb i n = true) (hv : σ.2 k i.toNatClampNeg = v) (hdg : decode cc pc = .ok (.iaload, 1))
    (kk : W p l e R s m args below meth c H locs 0 0 Q (F0 m (pc + 1) ls (.int v :: rest))) : W p l e R s m args below meth c H locs 0 0 Q (F0 m pc ls (.int i :: .ref (ad k) :: rest)) := by
  subst hv
  exact va_iald hexec hb hK hP pl 0 ha rfl (inb_in hin) hdg kk
theorem ldZ (hexec : p.tables.exec = Jvm.exec) (hb : c.code = cc) (hK : va_K D vwCl (tyM cI cZ) s) (hP : va_P D vwCl (wM cI cZ h ad σ) H) {k pl n : Nat} (ha : (wM cI cZ h ad σ)[pl]? = some (ad k, .inl (cZ, n, .inl (σ.2 k)))) {i : Int32} (v : Int32) (hin : inb i n = true) (hv : σ.2 k i.toNatClampNeg = v) (hdg : decode cc pc = .ok (.baload, 1))
    (kk : W p l e R s m args below meth c H locs 0 0 Q (F0 m (pc + 1) ls (.int v :: rest))) : W p l e R s m args below meth c H locs 0 0 Q (F0 m pc ls (.int i :: .ref (ad k) :: rest)) := by
  subst hv
  exact va_zald hexec hb hK hP pl 1 ha rfl (inb_in hin) hdg kk
theorem stI (hexec : p.tables.exec = Jvm.exec) (hb : c.code = cc) (hK : va_K D vwCl (tyM cI cZ) s) (hP : va_P D vwCl (wM cI cZ h ad σ) H) (hD : va_D A (wM cI cZ h ad σ)) (hS : va_S A H0 H locs) {k pl n : Nat} (ha : (wM cI cZ h ad σ)[pl]? = some (ad k, .inl (cI, n, .inl (σ.2 k)))) {i x : Int32} (he : (wM cI cZ h ad σ).set pl (ad k, .inl (cI, n, .inl (upd (σ.2 k) i.toNatClampNeg x))) = wM cI cZ h ad (sa σ k i x)) (hin : inb i n = true) (hdg : decode cc pc = .ok (.iastore, 1))
    (kk : ∀ (H1 : Heap) (locs1 : List Loc), va_P D vwCl (wM cI cZ h ad (sa σ k i x)) H1 → va_D A (wM cI cZ h ad (sa σ k i x)) → va_S A H0 H1 locs1 → W p l e R s m args below meth c H1 locs1 0 0 Q (F0 m (pc + 1) ls rest)) : W p l e R s m args below meth c H locs 0 0 Q (F0 m pc ls (.int x :: .int i :: .ref (ad k) :: rest)) :=
  va_iast hexec hb hK hP hD hS pl 0 ha rfl (inb_in hin) hdg (fun H1 locs1 hP1 hD1 hS1 => kk H1 locs1 (he ▸ hP1) (he ▸ hD1) hS1)
theorem stZ (hexec : p.tables.exec = Jvm.exec) (hb : c.code = cc) (hK : va_K D vwCl (tyM cI cZ) s) (hP : va_P D vwCl (wM cI cZ h ad σ) H) (hD : va_D A (wM cI cZ h ad σ)) (hS : va_S A H0 H locs) {k pl n : Nat} (ha : (wM cI cZ h ad σ)[pl]? = some (ad k, .inl (cZ, n, .inl (σ.2 k)))) {i x y : Int32} (hy : vp_nar .boolean x = y) (he : (wM cI cZ h ad σ).set pl (ad k, .inl (cZ, n, .inl (upd (σ.2 k) i.toNatClampNeg y))) = wM cI cZ h ad (sa σ k i y)) (hin : inb i n = true) (hdg : decode cc pc = .ok (.bastore, 1))
    (kk : ∀ (H1 : Heap) (locs1 : List Loc), va_P D vwCl (wM cI cZ h ad (sa σ k i y)) H1 → va_D A (wM cI cZ h ad (sa σ k i y)) → va_S A H0 H1 locs1 → W p l e R s m args below meth c H1 locs1 0 0 Q (F0 m (pc + 1) ls rest)) : W p l e R s m args below meth c H locs 0 0 Q (F0 m pc ls (.int x :: .int i :: .ref (ad k) :: rest)) := by
  subst hy
  exact va_zast hexec hb hK hP hD hS pl 1 ha rfl (inb_in hin) hdg (fun H1 locs1 hP1 hD1 hS1 => kk H1 locs1 (he ▸ hP1) (he ▸ hD1) hS1)
end ROWSA
theorem sa_same (σ : MS) (k : Nat) (i v : Int32) : (sa σ k i v).2 k = upd (σ.2 k) i.toNatClampNeg v := by simp [sa, va_up]
theorem sa_ne (σ : MS) {k j : Nat} (i v : Int32) (h : j ≠ k) : (sa σ k i v).2 j = σ.2 j := by simp [sa, va_up, h]
theorem sa_1 (σ : MS) (k : Nat) (i v : Int32) : (sa σ k i v).1 = σ.1 := rfl
theorem si_2 (σ : MS) (k : Nat) (v : Int32) : (si σ k v).2 = σ.2 := rfl
theorem si_same (σ : MS) (k : Nat) (v : Int32) : (si σ k v).1 k = v := by simp [si, va_up]
theorem si_ne (σ : MS) {k j : Nat} (v : Int32) (h : j ≠ k) : (si σ k v).1 j = σ.1 j := by simp [si, va_up, h]
