def fg_TW : List Cond := lw_tbl.filter goodWord
theorem fg_tm {w : Cond} (h : w ∈ lw_tbl) (hg : goodWord w = true) : w ∈ fg_TW := List.mem_filter.mpr ⟨h, hg⟩
theorem fg_t1 {w : Cond} (i : Nat) (h : tables_1_1[i]? = some w) (hg : goodWord w = true) : w ∈ fg_TW := fg_tm (List.mem_append_right _ (show w ∈ tables_1_1 ++ (tables_1_2 ++ (tables_1_3 ++ (tables_1_4 ++ tables_1_5))) from (List.mem_append_left _ (List.mem_of_getElem? h)))) hg
theorem fg_t2 {w : Cond} (i : Nat) (h : tables_1_2[i]? = some w) (hg : goodWord w = true) : w ∈ fg_TW := fg_tm (List.mem_append_right _ (show w ∈ tables_1_1 ++ (tables_1_2 ++ (tables_1_3 ++ (tables_1_4 ++ tables_1_5))) from (List.mem_append_right _ (List.mem_append_left _ (List.mem_of_getElem? h))))) hg
theorem fg_t3 {w : Cond} (i : Nat) (h : tables_1_3[i]? = some w) (hg : goodWord w = true) : w ∈ fg_TW := fg_tm (List.mem_append_right _ (show w ∈ tables_1_1 ++ (tables_1_2 ++ (tables_1_3 ++ (tables_1_4 ++ tables_1_5))) from (List.mem_append_right _ (List.mem_append_right _ (List.mem_append_left _ (List.mem_of_getElem? h)))))) hg
theorem fg_t4 {w : Cond} (i : Nat) (h : tables_1_4[i]? = some w) (hg : goodWord w = true) : w ∈ fg_TW := fg_tm (List.mem_append_right _ (show w ∈ tables_1_1 ++ (tables_1_2 ++ (tables_1_3 ++ (tables_1_4 ++ tables_1_5))) from (List.mem_append_right _ (List.mem_append_right _ (List.mem_append_right _ (List.mem_append_left _ (List.mem_of_getElem? h))))))) hg
theorem fg_t5 {w : Cond} (i : Nat) (h : tables_1_5[i]? = some w) (hg : goodWord w = true) : w ∈ fg_TW := fg_tm (List.mem_append_right _ (show w ∈ tables_1_1 ++ (tables_1_2 ++ (tables_1_3 ++ (tables_1_4 ++ tables_1_5))) from (List.mem_append_right _ (List.mem_append_right _ (List.mem_append_right _ (List.mem_append_right _ (List.mem_of_getElem? h))))))) hg
theorem fg_tp {w : Cond} (i : Nat) (h : (k2_sels lw_privs)[i]? = some w) (hg : goodWord w = true) : w ∈ fg_TW := fg_tm (List.mem_append_left _ (List.mem_of_getElem? h)) hg
theorem fg_tg : ∀ w ∈ fg_TW, (w.onTables && w.keeps) = true ∨ ∃ ty, w = .arrayClass ty := fun w h => good_of_word (List.mem_filter.mp h).2
theorem fg_gC {y : MethodName} {cc : ByteArray} {n : Nat} {ret : Option FieldType} (h : Cond.code y cc n ret ∈ fg_TW) : GoodIn fg_TW (.code y cc n ret :: fg_TW) := fun w hw => (List.mem_cons.mp hw).elim (fun e => by rw [e]; exact ⟨h, fg_tg _ h⟩) (fun hw => ⟨hw, fg_tg _ hw⟩)
theorem fg_gV {own C : String} {idx : Nat} {y : MethodName} {cc : ByteArray} {n : Nat} {ret : Option FieldType} (h1 : Cond.methodLink own idx y ∈ fg_TW) (h2 : Cond.instanceMethod y ∈ fg_TW) (h3 : Cond.selects C y y ∈ fg_TW) (h4 : Cond.initialized C ∈ fg_TW) (h : Cond.code y cc n ret ∈ fg_TW) : GoodIn fg_TW (wsV own idx C y (.code y cc n ret :: fg_TW)) := by
  intro w hw
  unfold wsV at hw
  rcases List.mem_append.mp hw with hw | hw
  · simp only [List.mem_cons, List.not_mem_nil, or_false] at hw
    rcases hw with rfl | rfl | rfl | rfl
    · exact ⟨h1, fg_tg _ h1⟩
    · exact ⟨h2, fg_tg _ h2⟩
    · exact ⟨h3, fg_tg _ h3⟩
    · exact ⟨h4, fg_tg _ h4⟩
  · exact fg_gC h w hw
theorem fg_gS {own : String} {idx : Nat} {y : MethodName} {cc : ByteArray} {n : Nat} {ret : Option FieldType} (h1 : Cond.methodLink own idx y ∈ fg_TW) (h2 : Cond.static y ∈ fg_TW) (h4 : Cond.initialized own ∈ fg_TW) (h : Cond.code y cc n ret ∈ fg_TW) : GoodIn fg_TW (wsS own idx y (.code y cc n ret :: fg_TW)) := by
  intro w hw
  unfold wsS at hw
  rcases List.mem_append.mp hw with hw | hw
  · simp only [List.mem_cons, List.not_mem_nil, or_false] at hw
    rcases hw with rfl | rfl | rfl
    · exact ⟨h1, fg_tg _ h1⟩
    · exact ⟨h2, fg_tg _ h2⟩
    · exact ⟨h4, fg_tg _ h4⟩
  · exact fg_gC h w hw
theorem vi_RL : (.initialized RL : Cond) ∈ fg_TW := fg_t1 0 rfl rfl
theorem vi_RX3 : (.initialized RX3 : Cond) ∈ fg_TW := fg_t1 1 rfl rfl
theorem vi_RX2 : (.initialized RX2 : Cond) ∈ fg_TW := fg_t1 2 rfl rfl
theorem vi_RX1 : (.initialized RX1 : Cond) ∈ fg_TW := fg_t1 3 rfl rfl
theorem vi_RX0 : (.initialized RX0 : Cond) ∈ fg_TW := fg_t1 4 rfl rfl
theorem vi_RX4 : (.initialized RX4 : Cond) ∈ fg_TW := fg_t1 5 rfl rfl
theorem vi_RJ9 : (.initialized RJ9 : Cond) ∈ fg_TW := fg_t1 6 rfl rfl
theorem vi_RJ10 : (.initialized RJ10 : Cond) ∈ fg_TW := fg_t1 7 rfl rfl
theorem vi_RJ6 : (.initialized RJ6 : Cond) ∈ fg_TW := fg_t1 8 rfl rfl
theorem vi_RJ0 : (.initialized RJ0 : Cond) ∈ fg_TW := fg_t1 9 rfl rfl
theorem vi_RJ1 : (.initialized RJ1 : Cond) ∈ fg_TW := fg_t1 10 rfl rfl
theorem vi_RJ3 : (.initialized RJ3 : Cond) ∈ fg_TW := fg_t1 11 rfl rfl
theorem vi_RJ2 : (.initialized RJ2 : Cond) ∈ fg_TW := fg_t1 12 rfl rfl
theorem vi_Math : (.initialized "java/lang/Math" : Cond) ∈ fg_TW := fg_t1 6 rfl rfl
theorem vi_System : (.initialized "java/lang/System" : Cond) ∈ fg_TW := fg_t1 7 rfl rfl
theorem vf_RX2_9 : (.fieldLink RX2 9 "FogLots$World" "fog" "[I" : Cond) ∈ fg_TW := fg_t1 27 rfl rfl
theorem vf_RX3_56 : (.fieldLink RX3 56 "FogLots$World" "fog" "[I" : Cond) ∈ fg_TW := fg_t1 28 rfl rfl
theorem vf_RX1_102 : (.fieldLink RX1 102 "FogLots$World" "fog" "[I" : Cond) ∈ fg_TW := fg_t1 29 rfl rfl
theorem vf_RX2_15 : (.fieldLink RX2 15 "FogLots$World" "rent" "[I" : Cond) ∈ fg_TW := fg_t1 30 rfl rfl
theorem vf_RX3_63 : (.fieldLink RX3 63 "FogLots$World" "rent" "[I" : Cond) ∈ fg_TW := fg_t1 31 rfl rfl
theorem vf_RX1_106 : (.fieldLink RX1 106 "FogLots$World" "rent" "[I" : Cond) ∈ fg_TW := fg_t1 32 rfl rfl
theorem vf_RX2_18 : (.fieldLink RX2 18 "FogLots$World" "owner" "[I" : Cond) ∈ fg_TW := fg_t1 33 rfl rfl
theorem vf_RX3_69 : (.fieldLink RX3 69 "FogLots$World" "owner" "[I" : Cond) ∈ fg_TW := fg_t1 34 rfl rfl
theorem vf_RX1_110 : (.fieldLink RX1 110 "FogLots$World" "owner" "[I" : Cond) ∈ fg_TW := fg_t1 35 rfl rfl
theorem vf_RX2_21 : (.fieldLink RX2 21 "FogLots$World" "suns" "[I" : Cond) ∈ fg_TW := fg_t1 36 rfl rfl
theorem vf_RX3_78 : (.fieldLink RX3 78 "FogLots$World" "suns" "[I" : Cond) ∈ fg_TW := fg_t1 37 rfl rfl
theorem vf_RX1_112 : (.fieldLink RX1 112 "FogLots$World" "suns" "[I" : Cond) ∈ fg_TW := fg_t1 38 rfl rfl
theorem vf_RX2_24 : (.fieldLink RX2 24 "FogLots$World" "mist" "I" : Cond) ∈ fg_TW := fg_t1 39 rfl rfl
theorem vf_RX1_72 : (.fieldLink RX1 72 "FogLots$World" "mist" "I" : Cond) ∈ fg_TW := fg_t1 40 rfl rfl
theorem vf_RX3_81 : (.fieldLink RX3 81 "FogLots$World" "mist" "I" : Cond) ∈ fg_TW := fg_t1 41 rfl rfl
theorem vf_RX2_28 : (.fieldLink RX2 28 "FogLots$World" "people" "I" : Cond) ∈ fg_TW := fg_t1 42 rfl rfl
theorem vf_RX1_76 : (.fieldLink RX1 76 "FogLots$World" "people" "I" : Cond) ∈ fg_TW := fg_t1 43 rfl rfl
theorem vf_RX3_88 : (.fieldLink RX3 88 "FogLots$World" "people" "I" : Cond) ∈ fg_TW := fg_t1 44 rfl rfl
theorem vf_RX2_31 : (.fieldLink RX2 31 "FogLots$World" "kind" "[I" : Cond) ∈ fg_TW := fg_t1 45 rfl rfl
theorem vf_RX3_94 : (.fieldLink RX3 94 "FogLots$World" "kind" "[I" : Cond) ∈ fg_TW := fg_t1 46 rfl rfl
theorem vf_RX2_34 : (.fieldLink RX2 34 "FogLots$World" "place" "[I" : Cond) ∈ fg_TW := fg_t1 47 rfl rfl
theorem vf_RX1_84 : (.fieldLink RX1 84 "FogLots$World" "place" "[I" : Cond) ∈ fg_TW := fg_t1 48 rfl rfl
theorem vf_RX3_110 : (.fieldLink RX3 110 "FogLots$World" "place" "[I" : Cond) ∈ fg_TW := fg_t1 49 rfl rfl
theorem vf_RX2_37 : (.fieldLink RX2 37 "FogLots$World" "belief" "[I" : Cond) ∈ fg_TW := fg_t1 50 rfl rfl
theorem vf_RX1_89 : (.fieldLink RX1 89 "FogLots$World" "belief" "[I" : Cond) ∈ fg_TW := fg_t1 51 rfl rfl
theorem vf_RX3_113 : (.fieldLink RX3 113 "FogLots$World" "belief" "[I" : Cond) ∈ fg_TW := fg_t1 52 rfl rfl
theorem vf_RX2_40 : (.fieldLink RX2 40 "FogLots$World" "purse" "[I" : Cond) ∈ fg_TW := fg_t1 53 rfl rfl
theorem vf_RX1_94 : (.fieldLink RX1 94 "FogLots$World" "purse" "[I" : Cond) ∈ fg_TW := fg_t1 54 rfl rfl
theorem vf_RX3_116 : (.fieldLink RX3 116 "FogLots$World" "purse" "[I" : Cond) ∈ fg_TW := fg_t1 55 rfl rfl
theorem vf_RX2_43 : (.fieldLink RX2 43 "FogLots$World" "fell" "[I" : Cond) ∈ fg_TW := fg_t1 56 rfl rfl
theorem vf_RX3_119 : (.fieldLink RX3 119 "FogLots$World" "fell" "[I" : Cond) ∈ fg_TW := fg_t1 57 rfl rfl
theorem vf_RX2_46 : (.fieldLink RX2 46 "FogLots$World" "gone" "I" : Cond) ∈ fg_TW := fg_t1 58 rfl rfl
theorem vf_RX2_49 : (.fieldLink RX2 49 "FogLots$World" "day" "I" : Cond) ∈ fg_TW := fg_t1 59 rfl rfl
theorem vf_RX3_125 : (.fieldLink RX3 125 "FogLots$World" "day" "I" : Cond) ∈ fg_TW := fg_t1 60 rfl rfl
theorem vf_RX2_52 : (.fieldLink RX2 52 "FogLots$World" "z" "I" : Cond) ∈ fg_TW := fg_t1 61 rfl rfl
theorem vf_RX3_173 : (.fieldLink RX3 173 "FogLots$World" "z" "I" : Cond) ∈ fg_TW := fg_t1 62 rfl rfl
theorem vf_RX2_55 : (.fieldLink RX2 55 "FogLots$World" "spots" "[I" : Cond) ∈ fg_TW := fg_t1 63 rfl rfl
theorem vf_RX3_189 : (.fieldLink RX3 189 "FogLots$World" "spots" "[I" : Cond) ∈ fg_TW := fg_t1 64 rfl rfl
theorem vf_RX2_58 : (.fieldLink RX2 58 "FogLots$World" "atOnce" "[I" : Cond) ∈ fg_TW := fg_t1 65 rfl rfl
theorem vf_RX1_9 : (.fieldLink RX1 9 "FogLots$Tape" "bytes" "[I" : Cond) ∈ fg_TW := fg_t1 106 rfl rfl
theorem vf_RX1_15 : (.fieldLink RX1 15 "FogLots$Tape" "length" "I" : Cond) ∈ fg_TW := fg_t1 107 rfl rfl
theorem vf_RX3_176 : (.fieldLink RX3 176 "FogLots$Tape" "length" "I" : Cond) ∈ fg_TW := fg_t1 108 rfl rfl
theorem vf_RX1_19 : (.fieldLink RX1 19 "FogLots$Tape" "fault" "I" : Cond) ∈ fg_TW := fg_t1 109 rfl rfl
theorem vf_RX3_186 : (.fieldLink RX3 186 "FogLots$Tape" "fault" "I" : Cond) ∈ fg_TW := fg_t1 110 rfl rfl
theorem vf_RX1_22 : (.fieldLink RX1 22 "FogLots$Tape" "token" "I" : Cond) ∈ fg_TW := fg_t1 111 rfl rfl
theorem vf_RX1_25 : (.fieldLink RX1 25 "FogLots$Tape" "start" "I" : Cond) ∈ fg_TW := fg_t1 112 rfl rfl
theorem vf_RX1_28 : (.fieldLink RX1 28 "FogLots$Tape" "end" "I" : Cond) ∈ fg_TW := fg_t1 113 rfl rfl
theorem vf_RX1_31 : (.fieldLink RX1 31 "FogLots$Tape" "value" "I" : Cond) ∈ fg_TW := fg_t1 114 rfl rfl
theorem vf_RX0_9 : (.fieldLink RX0 9 "FogLots$Sheet" "bits" "I" : Cond) ∈ fg_TW := fg_t1 137 rfl rfl
theorem vf_RX3_210 : (.fieldLink RX3 210 "FogLots$Sheet" "bits" "I" : Cond) ∈ fg_TW := fg_t1 138 rfl rfl
theorem vf_RX0_15 : (.fieldLink RX0 15 "FogLots$Sheet" "length" "I" : Cond) ∈ fg_TW := fg_t1 139 rfl rfl
theorem vf_RX3_202 : (.fieldLink RX3 202 "FogLots$Sheet" "length" "I" : Cond) ∈ fg_TW := fg_t1 140 rfl rfl
theorem vf_RX0_18 : (.fieldLink RX0 18 "FogLots$Sheet" "numbers" "[I" : Cond) ∈ fg_TW := fg_t1 141 rfl rfl
theorem vf_RX3_216 : (.fieldLink RX3 216 "FogLots$Sheet" "numbers" "[I" : Cond) ∈ fg_TW := fg_t1 142 rfl rfl
theorem vf_RX3_10 : (.fieldLink RX3 10 "FogLots" "world" "LFogLots$World;" : Cond) ∈ fg_TW := fg_t1 150 rfl rfl
theorem vf_RX3_16 : (.fieldLink RX3 16 "FogLots" "trial" "LFogLots$World;" : Cond) ∈ fg_TW := fg_t1 151 rfl rfl
theorem vf_RX3_19 : (.fieldLink RX3 19 "FogLots" "keptWorld" "LFogLots$World;" : Cond) ∈ fg_TW := fg_t1 152 rfl rfl
theorem vf_RX3_22 : (.fieldLink RX3 22 "FogLots" "isKept" "Z" : Cond) ∈ fg_TW := fg_t1 153 rfl rfl
theorem vf_RX3_29 : (.fieldLink RX3 29 "FogLots" "tape" "LFogLots$Tape;" : Cond) ∈ fg_TW := fg_t1 154 rfl rfl
theorem vf_RX3_35 : (.fieldLink RX3 35 "FogLots" "sheets" "[LFogLots$Sheet;" : Cond) ∈ fg_TW := fg_t1 155 rfl rfl
theorem vf_RX3_40 : (.fieldLink RX3 40 "FogLots" "found" "[I" : Cond) ∈ fg_TW := fg_t1 156 rfl rfl
theorem vf_RJ0_38 : (.fieldLink RJ0 38 "java/lang/String" "COMPACT_STRINGS" "Z" : Cond) ∈ fg_TW := fg_t3 19 rfl rfl
theorem vf_RJ0_1053 : (.fieldLink RJ0 1053 "jdk/internal/util/Preconditions" "SIOOBE_FORMATTER" "Ljava/util/function/BiFunction;" : Cond) ∈ fg_TW := fg_t3 35 rfl rfl
theorem vf_RJ2_44 : (.fieldLink RJ2 44 "java/lang/StringUTF16" "$assertionsDisabled" "Z" : Cond) ∈ fg_TW := fg_t3 53 rfl rfl
theorem vf_RJ2_59 : (.fieldLink RJ2 59 "java/lang/StringUTF16" "HI_BYTE_SHIFT" "I" : Cond) ∈ fg_TW := fg_t3 55 rfl rfl
theorem vf_RJ2_63 : (.fieldLink RJ2 63 "java/lang/StringUTF16" "LO_BYTE_SHIFT" "I" : Cond) ∈ fg_TW := fg_t3 57 rfl rfl
theorem vf_RX4_9 : (.fieldLink RX4 9 "FogLotsModel" "s" "[I" : Cond) ∈ fg_TW := fg_t3 182 rfl rfl
theorem vf_RX4_13 : (.fieldLink RX4 13 "FogLotsModel" "kept" "[I" : Cond) ∈ fg_TW := fg_t3 183 rfl rfl
theorem vf_RX4_16 : (.fieldLink RX4 16 "FogLotsModel" "aside" "[I" : Cond) ∈ fg_TW := fg_t3 184 rfl rfl
theorem vf_RX4_273 : (.fieldLink RX4 273 "FogLotsModel" "isKept" "Z" : Cond) ∈ fg_TW := fg_t3 185 rfl rfl
theorem vf_RX4_19 : (.fieldLink RX4 19 "FogLotsModel" "found" "[I" : Cond) ∈ fg_TW := fg_t3 186 rfl rfl
theorem vf_RX4_101 : (.fieldLink RX4 101 "FogLotsModel" "gone" "I" : Cond) ∈ fg_TW := fg_t3 187 rfl rfl
theorem vf_RX4_22 : (.fieldLink RX4 22 "FogLotsModel" "flows" "[I" : Cond) ∈ fg_TW := fg_t3 188 rfl rfl
theorem vf_RX4_25 : (.fieldLink RX4 25 "FogLotsModel" "beliefs" "[I" : Cond) ∈ fg_TW := fg_t3 189 rfl rfl
theorem vf_RX4_28 : (.fieldLink RX4 28 "FogLotsModel" "tape" "[I" : Cond) ∈ fg_TW := fg_t3 190 rfl rfl
theorem vf_RX4_211 : (.fieldLink RX4 211 "FogLotsModel" "taped" "I" : Cond) ∈ fg_TW := fg_t3 191 rfl rfl
theorem vf_RX4_224 : (.fieldLink RX4 224 "FogLotsModel" "token" "I" : Cond) ∈ fg_TW := fg_t3 192 rfl rfl
theorem vf_RX4_217 : (.fieldLink RX4 217 "FogLotsModel" "begun" "I" : Cond) ∈ fg_TW := fg_t3 193 rfl rfl
theorem vf_RX4_214 : (.fieldLink RX4 214 "FogLotsModel" "ended" "I" : Cond) ∈ fg_TW := fg_t3 194 rfl rfl
theorem vf_RX4_220 : (.fieldLink RX4 220 "FogLotsModel" "value" "J" : Cond) ∈ fg_TW := fg_t3 195 rfl rfl
theorem vf_RX4_31 : (.fieldLink RX4 31 "FogLotsModel" "letters" "[C" : Cond) ∈ fg_TW := fg_t3 196 rfl rfl
theorem vf_RX4_35 : (.fieldLink RX4 35 "FogLotsModel" "more" "[C" : Cond) ∈ fg_TW := fg_t3 197 rfl rfl
theorem vf_RX4_38 : (.fieldLink RX4 38 "FogLotsModel" "others" "[C" : Cond) ∈ fg_TW := fg_t3 198 rfl rfl
theorem vf_RX4_41 : (.fieldLink RX4 41 "FogLotsModel" "about" "[C" : Cond) ∈ fg_TW := fg_t3 199 rfl rfl
theorem vf_RX4_44 : (.fieldLink RX4 44 "FogLotsModel" "widths" "[I" : Cond) ∈ fg_TW := fg_t3 200 rfl rfl
theorem vf_RX4_47 : (.fieldLink RX4 47 "FogLotsModel" "sizes" "[I" : Cond) ∈ fg_TW := fg_t3 201 rfl rfl
theorem vf_RX4_50 : (.fieldLink RX4 50 "FogLotsModel" "cells" "[I" : Cond) ∈ fg_TW := fg_t3 202 rfl rfl
theorem vf_RX4_53 : (.fieldLink RX4 53 "FogLotsModel" "carried" "[I" : Cond) ∈ fg_TW := fg_t3 203 rfl rfl
theorem vf_RJ0_9 : (.fieldLink RJ0 9 "java/lang/String" "value" "[B" : Cond) ∈ fg_TW := fg_t5 157 rfl rfl
theorem vf_RJ0_15 : (.fieldLink RJ0 15 "java/lang/String" "coder" "B" : Cond) ∈ fg_TW := fg_t5 158 rfl rfl
theorem vm_RL_9 : (.methodLink RL 9 yX3_init : Cond) ∈ fg_TW := fg_t1 15 rfl rfl
theorem vm_RX3_1 : (.methodLink RX3 1 objectInit : Cond) ∈ fg_TW := fg_t1 18 rfl rfl
theorem vm_RX3_9 : (.methodLink RX3 9 yX2_init : Cond) ∈ fg_TW := fg_t1 23 rfl rfl
theorem vm_RX2_3 : (.methodLink RX2 3 objectInit : Cond) ∈ fg_TW := fg_t1 26 rfl rfl
theorem vm_RX1_3 : (.methodLink RX1 3 objectInit : Cond) ∈ fg_TW := fg_t1 105 rfl rfl
theorem vm_RX0_3 : (.methodLink RX0 3 objectInit : Cond) ∈ fg_TW := fg_t1 136 rfl rfl
theorem vm_RL_13 : (.methodLink RL 13 yX3_lot : Cond) ∈ fg_TW := fg_t1 172 rfl rfl
theorem vm_RX3_44 : (.methodLink RX3 44 yX3_isLot : Cond) ∈ fg_TW := fg_t1 176 rfl rfl
theorem vm_RX3_48 : (.methodLink RX3 48 yX3_finding : Cond) ∈ fg_TW := fg_t1 179 rfl rfl
theorem vm_RX3_52 : (.methodLink RX3 52 yX3_within : Cond) ∈ fg_TW := fg_t1 184 rfl rfl
theorem vm_RX3_59 : (.methodLink RX3 59 yX3_exchange : Cond) ∈ fg_TW := fg_t1 187 rfl rfl
theorem vm_RX3_66 : (.methodLink RX3 66 yX2_isPerson : Cond) ∈ fg_TW := fg_t1 190 rfl rfl
theorem vm_RL_18 : (.methodLink RL 18 yX3_lotOf : Cond) ∈ fg_TW := fg_t1 194 rfl rfl
theorem vm_RX3_72 : (.methodLink RX3 72 yX2_thoseOn : Cond) ∈ fg_TW := fg_t1 198 rfl rfl
theorem vm_RX3_75 : (.methodLink RX3 75 yX2_thoseStanding : Cond) ∈ fg_TW := fg_t1 202 rfl rfl
theorem vm_RX2_71 : (.methodLink RX2 71 yX2_stands : Cond) ∈ fg_TW := fg_t1 206 rfl rfl
theorem vm_RX2_76 : (.methodLink RX2 76 yX2_trustOf : Cond) ∈ fg_TW := fg_t1 210 rfl rfl
theorem vm_RL_23 : (.methodLink RL 23 yX3_sun : Cond) ∈ fg_TW := fg_t1 214 rfl rfl
theorem vm_RL_27 : (.methodLink RL 27 yX3_mist : Cond) ∈ fg_TW := fg_t1 218 rfl rfl
theorem vm_RL_32 : (.methodLink RL 32 yX3_person : Cond) ∈ fg_TW := fg_t1 222 rfl rfl
theorem vm_RX3_85 : (.methodLink RX3 85 yX3_isKind : Cond) ∈ fg_TW := fg_t1 226 rfl rfl
theorem vm_RX3_91 : (.methodLink RX3 91 yX2_add : Cond) ∈ fg_TW := fg_t1 229 rfl rfl
theorem vm_RL_36 : (.methodLink RL 36 yX3_of : Cond) ∈ fg_TW := fg_t1 233 rfl rfl
theorem vm_RX3_97 : (.methodLink RX3 97 yX3_losesOf : Cond) ∈ fg_TW := fg_t1 237 rfl rfl
theorem vm_RX3_100 : (.methodLink RX3 100 yX2_lotMadeFor : Cond) ∈ fg_TW := fg_t2 0 rfl rfl
theorem vm_RX2_80 : (.methodLink RX2 80 yX2_prefers : Cond) ∈ fg_TW := fg_t2 4 rfl rfl
theorem vm_RX3_103 : (.methodLink RX3 103 yX2_lotsOwnedBy : Cond) ∈ fg_TW := fg_t2 8 rfl rfl
theorem vm_RX3_106 : (.methodLink RX3 106 yX2_valueOf : Cond) ∈ fg_TW := fg_t2 12 rfl rfl
theorem vm_RL_40 : (.methodLink RL 40 yX3_change : Cond) ∈ fg_TW := fg_t2 16 rfl rfl
theorem vm_RL_44 : (.methodLink RL 44 yX3_trust : Cond) ∈ fg_TW := fg_t2 20 rfl rfl
theorem vm_RX3_122 : (.methodLink RX3 122 yX2_trustOf : Cond) ∈ fg_TW := fg_t2 24 rfl rfl
theorem vm_RL_48 : (.methodLink RL 48 yX3_go : Cond) ∈ fg_TW := fg_t2 25 rfl rfl
theorem vm_RX3_129 : (.methodLink RX3 129 yX2_passDays : Cond) ∈ fg_TW := fg_t2 30 rfl rfl
theorem vm_RX2_84 : (.methodLink RX2 84 yX2_thinAndThicken : Cond) ∈ fg_TW := fg_t2 34 rfl rfl
theorem vm_RX2_100 : (.methodLink RX2 100 yJ9_min_7cf53 : Cond) ∈ fg_TW := fg_t2 38 rfl rfl
theorem vm_RX2_105 : (.methodLink RX2 105 yJ9_max_7cf53 : Cond) ∈ fg_TW := fg_t2 41 rfl rfl
theorem vm_RX2_87 : (.methodLink RX2 87 yX2_spreadFog : Cond) ∈ fg_TW := fg_t2 44 rfl rfl
theorem vm_RX2_90 : (.methodLink RX2 90 yX2_movePeople : Cond) ∈ fg_TW := fg_t2 48 rfl rfl
theorem vm_RX2_67 : (.methodLink RX2 67 yX2_isGone : Cond) ∈ fg_TW := fg_t2 52 rfl rfl
theorem vm_RX2_108 : (.methodLink RX2 108 yX2_lotMadeFor : Cond) ∈ fg_TW := fg_t2 56 rfl rfl
theorem vm_RX2_112 : (.methodLink RX2 112 yX2_fall : Cond) ∈ fg_TW := fg_t2 57 rfl rfl
theorem vm_RX2_93 : (.methodLink RX2 93 yX2_payRents : Cond) ∈ fg_TW := fg_t2 62 rfl rfl
theorem vm_RX2_119 : (.methodLink RX2 119 yX2_isPerson : Cond) ∈ fg_TW := fg_t2 66 rfl rfl
theorem vm_RX2_96 : (.methodLink RX2 96 yX2_spreadBelief : Cond) ∈ fg_TW := fg_t2 67 rfl rfl
theorem vm_RX2_122 : (.methodLink RX2 122 yX2_greatestBeliefBeside : Cond) ∈ fg_TW := fg_t2 71 rfl rfl
theorem vm_RX3_133 : (.methodLink RX3 133 yX2_thoseOnLots : Cond) ∈ fg_TW := fg_t2 76 rfl rfl
theorem vm_RL_52 : (.methodLink RL 52 yX3_now : Cond) ∈ fg_TW := fg_t2 80 rfl rfl
theorem vm_RX3_137 : (.methodLink RX3 137 yX3_sumOf : Cond) ∈ fg_TW := fg_t2 84 rfl rfl
theorem vm_RX3_141 : (.methodLink RX3 141 yX3_firstGreatest : Cond) ∈ fg_TW := fg_t2 87 rfl rfl
theorem vm_RL_56 : (.methodLink RL 56 yX3_ahead : Cond) ∈ fg_TW := fg_t2 90 rfl rfl
theorem vm_RX3_144 : (.methodLink RX3 144 yX2_become : Cond) ∈ fg_TW := fg_t2 94 rfl rfl
theorem vm_RL_60 : (.methodLink RL 60 yX3_fog : Cond) ∈ fg_TW := fg_t2 101 rfl rfl
theorem vm_RL_64 : (.methodLink RL 64 yX3_falls : Cond) ∈ fg_TW := fg_t2 105 rfl rfl
theorem vm_RL_68 : (.methodLink RL 68 yX3_bare : Cond) ∈ fg_TW := fg_t2 109 rfl rfl
theorem vm_RL_73 : (.methodLink RL 73 yX3_meet : Cond) ∈ fg_TW := fg_t2 113 rfl rfl
theorem vm_RL_77 : (.methodLink RL 77 yX3_beliefFor : Cond) ∈ fg_TW := fg_t2 117 rfl rfl
theorem vm_RL_81 : (.methodLink RL 81 yX3_settle : Cond) ∈ fg_TW := fg_t2 121 rfl rfl
theorem vm_RL_85 : (.methodLink RL 85 yX3_kindFor : Cond) ∈ fg_TW := fg_t2 125 rfl rfl
theorem vm_RL_89 : (.methodLink RL 89 yX3_rentFor : Cond) ∈ fg_TW := fg_t2 129 rfl rfl
theorem vm_RL_93 : (.methodLink RL 93 yX3_sunFor : Cond) ∈ fg_TW := fg_t2 133 rfl rfl
theorem vm_RL_97 : (.methodLink RL 97 yX3_away : Cond) ∈ fg_TW := fg_t2 137 rfl rfl
theorem vm_RX3_148 : (.methodLink RX3 148 yJ6_bitCount_0f7a4 : Cond) ∈ fg_TW := fg_t2 141 rfl rfl
theorem vm_RX3_153 : (.methodLink RX3 153 yX2_sendAway : Cond) ∈ fg_TW := fg_t2 147 rfl rfl
theorem vm_RL_101 : (.methodLink RL 101 yX3_fits : Cond) ∈ fg_TW := fg_t2 151 rfl rfl
theorem vm_RX3_156 : (.methodLink RX3 156 yX3_faultOfTold : Cond) ∈ fg_TW := fg_t2 155 rfl rfl
theorem vm_RX3_195 : (.methodLink RX3 195 yX3_isSheet : Cond) ∈ fg_TW := fg_t2 159 rfl rfl
theorem vm_RX3_203 : (.methodLink RX3 203 yX0_isMissing : Cond) ∈ fg_TW := fg_t2 162 rfl rfl
theorem vm_RX3_159 : (.methodLink RX3 159 yX3_goesAsTold : Cond) ∈ fg_TW := fg_t2 166 rfl rfl
theorem vm_RL_105 : (.methodLink RL 105 yX3_believed : Cond) ∈ fg_TW := fg_t2 170 rfl rfl
theorem vm_RL_109 : (.methodLink RL 109 yX3_kinds : Cond) ∈ fg_TW := fg_t2 174 rfl rfl
theorem vm_RL_113 : (.methodLink RL 113 yX3_fine : Cond) ∈ fg_TW := fg_t2 178 rfl rfl
theorem vm_RX3_163 : (.methodLink RX3 163 yX2_draw : Cond) ∈ fg_TW := fg_t2 182 rfl rfl
theorem vm_RL_117 : (.methodLink RL 117 yX3_odds : Cond) ∈ fg_TW := fg_t2 187 rfl rfl
theorem vm_RX3_166 : (.methodLink RX3 166 yX2_stands : Cond) ∈ fg_TW := fg_t2 191 rfl rfl
theorem vm_RX3_170 : (.methodLink RX3 170 yX3_greatestCommon : Cond) ∈ fg_TW := fg_t2 192 rfl rfl
theorem vm_RL_122 : (.methodLink RL 122 yX3_seed : Cond) ∈ fg_TW := fg_t2 195 rfl rfl
theorem vm_RL_126 : (.methodLink RL 126 yX3_feed : Cond) ∈ fg_TW := fg_t2 199 rfl rfl
theorem vm_RX3_179 : (.methodLink RX3 179 yX1_append : Cond) ∈ fg_TW := fg_t2 203 rfl rfl
theorem vm_RL_130 : (.methodLink RL 130 yX3_wipe : Cond) ∈ fg_TW := fg_t2 207 rfl rfl
theorem vm_RL_134 : (.methodLink RL 134 yX3_text : Cond) ∈ fg_TW := fg_t2 211 rfl rfl
theorem vm_RX3_182 : (.methodLink RX3 182 yX1_tellTo : Cond) ∈ fg_TW := fg_t2 215 rfl rfl
theorem vm_RX1_34 : (.methodLink RX1 34 yX1_nextToken : Cond) ∈ fg_TW := fg_t2 219 rfl rfl
theorem vm_RX1_140 : (.methodLink RX1 140 yX1_isLetter : Cond) ∈ fg_TW := fg_t2 223 rfl rfl
theorem vm_RX1_143 : (.methodLink RX1 143 yX1_readWord : Cond) ∈ fg_TW := fg_t2 226 rfl rfl
theorem vm_RX1_146 : (.methodLink RX1 146 yX1_isDigit : Cond) ∈ fg_TW := fg_t2 230 rfl rfl
theorem vm_RX1_149 : (.methodLink RX1 149 yX1_readNumber : Cond) ∈ fg_TW := fg_t2 233 rfl rfl
theorem vm_RX1_152 : (.methodLink RX1 152 yJ9_min_7cf53 : Cond) ∈ fg_TW := fg_t2 237 rfl rfl
theorem vm_RX1_37 : (.methodLink RX1 37 yX1_tellItem : Cond) ∈ fg_TW := fg_t2 238 rfl rfl
theorem vm_RX1_44 : (.methodLink RX1 44 yX1_kindOfWord : Cond) ∈ fg_TW := fg_t3 2 rfl rfl
theorem vm_RX1_115 : (.methodLink RX1 115 yX1_isWord : Cond) ∈ fg_TW := fg_t3 7 rfl rfl
theorem vm_RX1_132 : (.methodLink RX1 132 yJ0_length_8abf5 : Cond) ∈ fg_TW := fg_t3 11 rfl rfl
theorem vm_RJ0_335 : (.methodLink RJ0 335 yJ0_coder_7d493 : Cond) ∈ fg_TW := fg_t3 15 rfl rfl
theorem vm_RX1_136 : (.methodLink RX1 136 yJ0_charAt_5068e : Cond) ∈ fg_TW := fg_t3 21 rfl rfl
theorem vm_RJ0_492 : (.methodLink RJ0 492 yJ0_isLatin1_aae02 : Cond) ∈ fg_TW := fg_t3 25 rfl rfl
theorem vm_RJ0_495 : (.methodLink RJ0 495 yJ1_charAt_3b067 : Cond) ∈ fg_TW := fg_t3 29 rfl rfl
theorem vm_RJ1_9 : (.methodLink RJ1 9 yJ0_checkIndex_df160 : Cond) ∈ fg_TW := fg_t3 32 rfl rfl
theorem vm_RJ0_1059 : (.methodLink RJ0 1059 yJ3_checkIndex_8e157 : Cond) ∈ fg_TW := fg_t3 37 rfl rfl
theorem vm_RJ0_498 : (.methodLink RJ0 498 yJ2_charAt_3b067 : Cond) ∈ fg_TW := fg_t3 40 rfl rfl
theorem vm_RJ2_67 : (.methodLink RJ2 67 yJ2_checkIndex_2214a : Cond) ∈ fg_TW := fg_t3 43 rfl rfl
theorem vm_RJ2_48 : (.methodLink RJ2 48 yJ2_length_9d52b : Cond) ∈ fg_TW := fg_t3 46 rfl rfl
theorem vm_RJ2_414 : (.methodLink RJ2 414 yJ0_checkIndex_df160 : Cond) ∈ fg_TW := fg_t3 49 rfl rfl
theorem vm_RJ2_71 : (.methodLink RJ2 71 yJ2_getChar_3b067 : Cond) ∈ fg_TW := fg_t3 50 rfl rfl
theorem vm_RX1_48 : (.methodLink RX1 48 yX1_tellPerson : Cond) ∈ fg_TW := fg_t3 65 rfl rfl
theorem vm_RX1_41 : (.methodLink RX1 41 yX1_faultHere : Cond) ∈ fg_TW := fg_t3 69 rfl rfl
theorem vm_RX1_79 : (.methodLink RX1 79 yX2_add : Cond) ∈ fg_TW := fg_t3 73 rfl rfl
theorem vm_RX1_54 : (.methodLink RX1 54 yX1_took : Cond) ∈ fg_TW := fg_t3 75 rfl rfl
theorem vm_RX1_68 : (.methodLink RX1 68 yX1_takeNumber : Cond) ∈ fg_TW := fg_t3 79 rfl rfl
theorem vm_RX1_58 : (.methodLink RX1 58 yX1_tellLot : Cond) ∈ fg_TW := fg_t3 86 rfl rfl
theorem vm_RX1_63 : (.methodLink RX1 63 yX1_tellSun : Cond) ∈ fg_TW := fg_t3 95 rfl rfl
theorem vm_RL_138 : (.methodLink RL 138 yX3_hold : Cond) ∈ fg_TW := fg_t3 101 rfl rfl
theorem vm_RL_142 : (.methodLink RL 142 yX3_as : Cond) ∈ fg_TW := fg_t3 105 rfl rfl
theorem vm_RX3_192 : (.methodLink RX3 192 yX3_isUnder : Cond) ∈ fg_TW := fg_t3 109 rfl rfl
theorem vm_RX3_229 : (.methodLink RX3 229 yX3_kindAbove : Cond) ∈ fg_TW := fg_t3 112 rfl rfl
theorem vm_RL_146 : (.methodLink RL 146 yX3_sheet : Cond) ∈ fg_TW := fg_t3 115 rfl rfl
theorem vm_RX3_198 : (.methodLink RX3 198 yX0_begin : Cond) ∈ fg_TW := fg_t3 119 rfl rfl
theorem vm_RL_150 : (.methodLink RL 150 yX3_write : Cond) ∈ fg_TW := fg_t3 123 rfl rfl
theorem vm_RX3_207 : (.methodLink RX3 207 yX0_put : Cond) ∈ fg_TW := fg_t3 127 rfl rfl
theorem vm_RL_154 : (.methodLink RL 154 yX3_copy : Cond) ∈ fg_TW := fg_t3 131 rfl rfl
theorem vm_RX3_213 : (.methodLink RX3 213 yX0_has : Cond) ∈ fg_TW := fg_t3 135 rfl rfl
theorem vm_RL_159 : (.methodLink RL 159 yX3_load : Cond) ∈ fg_TW := fg_t3 140 rfl rfl
theorem vm_RL_163 : (.methodLink RL 163 yX3_judge : Cond) ∈ fg_TW := fg_t3 144 rfl rfl
theorem vm_RL_167 : (.methodLink RL 167 yX3_image : Cond) ∈ fg_TW := fg_t3 148 rfl rfl
theorem vm_RL_171 : (.methodLink RL 171 yX3_undo : Cond) ∈ fg_TW := fg_t3 152 rfl rfl
theorem vm_RL_175 : (.methodLink RL 175 yX3_tear : Cond) ∈ fg_TW := fg_t3 156 rfl rfl
theorem vm_RL_179 : (.methodLink RL 179 yX3_count : Cond) ∈ fg_TW := fg_t3 160 rfl rfl
theorem vm_RX3_225 : (.methodLink RX3 225 yX2_spotsHeld : Cond) ∈ fg_TW := fg_t3 164 rfl rfl
theorem vm_RL_183 : (.methodLink RL 183 yX3_status : Cond) ∈ fg_TW := fg_t3 168 rfl rfl
theorem vm_RL_12 : (.methodLink RL 12 yX4_init : Cond) ∈ fg_TW := fg_t3 174 rfl rfl
theorem vm_RX4_1 : (.methodLink RX4 1 objectInit : Cond) ∈ fg_TW := fg_t3 177 rfl rfl
theorem vm_RX4_56 : (.methodLink RX4 56 yX4_lays1 : Cond) ∈ fg_TW := fg_t3 178 rfl rfl
theorem vm_RL_17 : (.methodLink RL 17 yX4_lot : Cond) ∈ fg_TW := fg_t4 10 rfl rfl
theorem vm_RX4_126 : (.methodLink RX4 126 yX4_isLot : Cond) ∈ fg_TW := fg_t4 14 rfl rfl
theorem vm_RX4_61 : (.methodLink RX4 61 yX4_in1 : Cond) ∈ fg_TW := fg_t4 17 rfl rfl
theorem vm_RX4_129 : (.methodLink RX4 129 yX4_no : Cond) ∈ fg_TW := fg_t4 20 rfl rfl
theorem vm_RX4_73 : (.methodLink RX4 73 yX4_of1 : Cond) ∈ fg_TW := fg_t4 25 rfl rfl
theorem vm_RL_22 : (.methodLink RL 22 yX4_lotOf : Cond) ∈ fg_TW := fg_t4 29 rfl rfl
theorem vm_RX4_69 : (.methodLink RX4 69 yX4_whoIsOn : Cond) ∈ fg_TW := fg_t4 33 rfl rfl
theorem vm_RX4_65 : (.methodLink RX4 65 yX4_get : Cond) ∈ fg_TW := fg_t4 37 rfl rfl
theorem vm_RX4_132 : (.methodLink RX4 132 yX4_standing : Cond) ∈ fg_TW := fg_t4 41 rfl rfl
theorem vm_RX4_82 : (.methodLink RX4 82 yX4_stands : Cond) ∈ fg_TW := fg_t4 45 rfl rfl
theorem vm_RX4_79 : (.methodLink RX4 79 yX4_trustOf : Cond) ∈ fg_TW := fg_t4 49 rfl rfl
theorem vm_RX4_76 : (.methodLink RX4 76 yX4_bits : Cond) ∈ fg_TW := fg_t4 53 rfl rfl
theorem vm_RL_26 : (.methodLink RL 26 yX4_sun : Cond) ∈ fg_TW := fg_t4 56 rfl rfl
theorem vm_RL_31 : (.methodLink RL 31 yX4_mist : Cond) ∈ fg_TW := fg_t4 60 rfl rfl
theorem vm_RL_35 : (.methodLink RL 35 yX4_person : Cond) ∈ fg_TW := fg_t4 64 rfl rfl
theorem vm_RX4_135 : (.methodLink RX4 135 yX4_adds : Cond) ∈ fg_TW := fg_t4 68 rfl rfl
theorem vm_RX4_95 : (.methodLink RX4 95 yX4_puts : Cond) ∈ fg_TW := fg_t4 72 rfl rfl
theorem vm_RL_39 : (.methodLink RL 39 yX4_of : Cond) ∈ fg_TW := fg_t4 76 rfl rfl
theorem vm_RX4_138 : (.methodLink RX4 138 yX4_isPerson : Cond) ∈ fg_TW := fg_t4 80 rfl rfl
theorem vm_RX4_98 : (.methodLink RX4 98 yX4_losesOf : Cond) ∈ fg_TW := fg_t4 84 rfl rfl
theorem vm_RX4_92 : (.methodLink RX4 92 yX4_makesFor : Cond) ∈ fg_TW := fg_t4 88 rfl rfl
theorem vm_RX4_86 : (.methodLink RX4 86 yX4_isBetter : Cond) ∈ fg_TW := fg_t4 92 rfl rfl
theorem vm_RX4_141 : (.methodLink RX4 141 yX4_ownedBy : Cond) ∈ fg_TW := fg_t4 96 rfl rfl
theorem vm_RL_43 : (.methodLink RL 43 yX4_change : Cond) ∈ fg_TW := fg_t4 100 rfl rfl
theorem vm_RL_47 : (.methodLink RL 47 yX4_trust : Cond) ∈ fg_TW := fg_t4 104 rfl rfl
theorem vm_RL_51 : (.methodLink RL 51 yX4_go : Cond) ∈ fg_TW := fg_t4 108 rfl rfl
theorem vm_RX4_144 : (.methodLink RX4 144 yX4_goes : Cond) ∈ fg_TW := fg_t4 113 rfl rfl
theorem vm_RX4_123 : (.methodLink RX4 123 yX4_day : Cond) ∈ fg_TW := fg_t4 117 rfl rfl
theorem vm_RX4_105 : (.methodLink RX4 105 yX4_drifts : Cond) ∈ fg_TW := fg_t4 121 rfl rfl
theorem vm_RX4_89 : (.methodLink RX4 89 yX4_less : Cond) ∈ fg_TW := fg_t4 125 rfl rfl
theorem vm_RX4_108 : (.methodLink RX4 108 yX4_isAway : Cond) ∈ fg_TW := fg_t4 128 rfl rfl
theorem vm_RX4_112 : (.methodLink RX4 112 yX4_moves : Cond) ∈ fg_TW := fg_t4 132 rfl rfl
theorem vm_RX4_116 : (.methodLink RX4 116 yX4_pays : Cond) ∈ fg_TW := fg_t4 136 rfl rfl
theorem vm_RX4_119 : (.methodLink RX4 119 yX4_finds : Cond) ∈ fg_TW := fg_t4 140 rfl rfl
theorem vm_RX4_147 : (.methodLink RX4 147 yX4_onLots : Cond) ∈ fg_TW := fg_t4 144 rfl rfl
theorem vm_RL_55 : (.methodLink RL 55 yX4_now : Cond) ∈ fg_TW := fg_t4 148 rfl rfl
theorem vm_RX4_151 : (.methodLink RX4 151 yX4_fogs : Cond) ∈ fg_TW := fg_t4 152 rfl rfl
theorem vm_RX4_154 : (.methodLink RX4 154 yX4_sumOf : Cond) ∈ fg_TW := fg_t4 156 rfl rfl
theorem vm_RX4_157 : (.methodLink RX4 157 yX4_mostFog : Cond) ∈ fg_TW := fg_t4 160 rfl rfl
theorem vm_RX4_160 : (.methodLink RX4 160 yX4_richest : Cond) ∈ fg_TW := fg_t4 164 rfl rfl
theorem vm_RL_59 : (.methodLink RL 59 yX4_ahead : Cond) ∈ fg_TW := fg_t4 168 rfl rfl
theorem vm_RX4_163 : (.methodLink RX4 163 yX4_setsAside : Cond) ∈ fg_TW := fg_t4 172 rfl rfl
theorem vm_RX4_166 : (.methodLink RX4 166 yX4_laysBack : Cond) ∈ fg_TW := fg_t4 176 rfl rfl
theorem vm_RL_63 : (.methodLink RL 63 yX4_fog : Cond) ∈ fg_TW := fg_t4 180 rfl rfl
theorem vm_RL_67 : (.methodLink RL 67 yX4_falls : Cond) ∈ fg_TW := fg_t4 184 rfl rfl
theorem vm_RX4_172 : (.methodLink RX4 172 yX4_firstBy : Cond) ∈ fg_TW := fg_t4 188 rfl rfl
theorem vm_RX4_169 : (.methodLink RX4 169 yX4_isSo : Cond) ∈ fg_TW := fg_t4 192 rfl rfl
theorem vm_RL_72 : (.methodLink RL 72 yX4_bare : Cond) ∈ fg_TW := fg_t4 196 rfl rfl
theorem vm_RL_76 : (.methodLink RL 76 yX4_meet : Cond) ∈ fg_TW := fg_t4 200 rfl rfl
theorem vm_RL_80 : (.methodLink RL 80 yX4_beliefFor : Cond) ∈ fg_TW := fg_t4 204 rfl rfl
theorem vm_RX4_176 : (.methodLink RX4 176 yX4_isSoon : Cond) ∈ fg_TW := fg_t4 208 rfl rfl
theorem vm_RX4_179 : (.methodLink RX4 179 yX4_thenWith : Cond) ∈ fg_TW := fg_t4 211 rfl rfl
theorem vm_RL_84 : (.methodLink RL 84 yX4_settle : Cond) ∈ fg_TW := fg_t4 215 rfl rfl
theorem vm_RL_88 : (.methodLink RL 88 yX4_kindFor : Cond) ∈ fg_TW := fg_t4 219 rfl rfl
theorem vm_RL_92 : (.methodLink RL 92 yX4_rentFor : Cond) ∈ fg_TW := fg_t4 223 rfl rfl
theorem vm_RL_96 : (.methodLink RL 96 yX4_sunFor : Cond) ∈ fg_TW := fg_t4 227 rfl rfl
theorem vm_RX4_183 : (.methodLink RX4 183 yX4_fellBy : Cond) ∈ fg_TW := fg_t4 231 rfl rfl
theorem vm_RL_100 : (.methodLink RL 100 yX4_away : Cond) ∈ fg_TW := fg_t4 235 rfl rfl
theorem vm_RX4_186 : (.methodLink RX4 186 yX4_standsWithout : Cond) ∈ fg_TW := fg_t4 239 rfl rfl
theorem vm_RL_104 : (.methodLink RL 104 yX4_fits : Cond) ∈ fg_TW := fg_t5 3 rfl rfl
theorem vm_RX4_198 : (.methodLink RX4 198 yX4_wrongTold : Cond) ∈ fg_TW := fg_t5 7 rfl rfl
theorem vm_RX4_192 : (.methodLink RX4 192 yX4_wrongSheet : Cond) ∈ fg_TW := fg_t5 11 rfl rfl
theorem vm_RX4_189 : (.methodLink RX4 189 yX4_isSheet : Cond) ∈ fg_TW := fg_t5 15 rfl rfl
theorem vm_RX4_201 : (.methodLink RX4 201 yX4_fitsAs : Cond) ∈ fg_TW := fg_t5 18 rfl rfl
theorem vm_RX4_195 : (.methodLink RX4 195 yX4_told : Cond) ∈ fg_TW := fg_t5 22 rfl rfl
theorem vm_RL_108 : (.methodLink RL 108 yX4_believed : Cond) ∈ fg_TW := fg_t5 26 rfl rfl
theorem vm_RL_112 : (.methodLink RL 112 yX4_kinds : Cond) ∈ fg_TW := fg_t5 30 rfl rfl
theorem vm_RL_116 : (.methodLink RL 116 yX4_fine : Cond) ∈ fg_TW := fg_t5 34 rfl rfl
theorem vm_RX4_206 : (.methodLink RX4 206 yX4_draw : Cond) ∈ fg_TW := fg_t5 38 rfl rfl
theorem vm_RL_121 : (.methodLink RL 121 yX4_odds : Cond) ∈ fg_TW := fg_t5 43 rfl rfl
theorem vm_RL_125 : (.methodLink RL 125 yX4_seed : Cond) ∈ fg_TW := fg_t5 48 rfl rfl
theorem vm_RL_129 : (.methodLink RL 129 yX4_feed : Cond) ∈ fg_TW := fg_t5 52 rfl rfl
theorem vm_RL_133 : (.methodLink RL 133 yX4_wipe : Cond) ∈ fg_TW := fg_t5 56 rfl rfl
theorem vm_RL_137 : (.methodLink RL 137 yX4_text : Cond) ∈ fg_TW := fg_t5 60 rfl rfl
theorem vm_RX4_243 : (.methodLink RX4 243 yX4_nextToken : Cond) ∈ fg_TW := fg_t5 64 rfl rfl
theorem vm_RX4_227 : (.methodLink RX4 227 yX4_isLetter : Cond) ∈ fg_TW := fg_t5 68 rfl rfl
theorem vm_RX4_236 : (.methodLink RX4 236 yX4_isDigit : Cond) ∈ fg_TW := fg_t5 74 rfl rfl
theorem vm_RX4_264 : (.methodLink RX4 264 yX4_readsItem : Cond) ∈ fg_TW := fg_t5 79 rfl rfl
theorem vm_RX4_246 : (.methodLink RX4 246 yX4_wordOf : Cond) ∈ fg_TW := fg_t5 83 rfl rfl
theorem vm_RX4_253 : (.methodLink RX4 253 yX4_readsPerson : Cond) ∈ fg_TW := fg_t5 87 rfl rfl
theorem vm_RX4_250 : (.methodLink RX4 250 yX4_takesNumber : Cond) ∈ fg_TW := fg_t5 91 rfl rfl
theorem vm_RX4_256 : (.methodLink RX4 256 yX4_readsLot : Cond) ∈ fg_TW := fg_t5 95 rfl rfl
theorem vm_RX4_260 : (.methodLink RX4 260 yX4_readsSun : Cond) ∈ fg_TW := fg_t5 99 rfl rfl
theorem vm_RL_141 : (.methodLink RL 141 yX4_hold : Cond) ∈ fg_TW := fg_t5 103 rfl rfl
theorem vm_RX4_267 : (.methodLink RX4 267 yX4_isSpot : Cond) ∈ fg_TW := fg_t5 107 rfl rfl
theorem vm_RL_145 : (.methodLink RL 145 yX4_as : Cond) ∈ fg_TW := fg_t5 110 rfl rfl
theorem vm_RX4_270 : (.methodLink RX4 270 yX4_above : Cond) ∈ fg_TW := fg_t5 114 rfl rfl
theorem vm_RL_149 : (.methodLink RL 149 yX4_sheet : Cond) ∈ fg_TW := fg_t5 117 rfl rfl
theorem vm_RL_153 : (.methodLink RL 153 yX4_write : Cond) ∈ fg_TW := fg_t5 121 rfl rfl
theorem vm_RL_158 : (.methodLink RL 158 yX4_copy : Cond) ∈ fg_TW := fg_t5 125 rfl rfl
theorem vm_RL_162 : (.methodLink RL 162 yX4_load : Cond) ∈ fg_TW := fg_t5 129 rfl rfl
theorem vm_RL_166 : (.methodLink RL 166 yX4_judge : Cond) ∈ fg_TW := fg_t5 133 rfl rfl
theorem vm_RL_170 : (.methodLink RL 170 yX4_image : Cond) ∈ fg_TW := fg_t5 137 rfl rfl
theorem vm_RL_174 : (.methodLink RL 174 yX4_undo : Cond) ∈ fg_TW := fg_t5 141 rfl rfl
theorem vm_RL_178 : (.methodLink RL 178 yX4_tear : Cond) ∈ fg_TW := fg_t5 145 rfl rfl
theorem vm_RL_182 : (.methodLink RL 182 yX4_count : Cond) ∈ fg_TW := fg_t5 149 rfl rfl
theorem vm_RL_186 : (.methodLink RL 186 yX4_status : Cond) ∈ fg_TW := fg_t5 153 rfl rfl
theorem vc_RX3_228 : (.constant RX3 228 (-1000001) : Cond) ∈ fg_TW := fg_t1 183 rfl rfl
theorem vc_RX3_128 : (.constant RX3 128 (99999) : Cond) ∈ fg_TW := fg_t2 29 rfl rfl
theorem vc_RX2_99 : (.constant RX2 99 (99999) : Cond) ∈ fg_TW := fg_t2 75 rfl rfl
theorem vc_RJ6_265 : (.constant RJ6 265 (1431655765) : Cond) ∈ fg_TW := fg_t2 144 rfl rfl
theorem vc_RJ6_266 : (.constant RJ6 266 (858993459) : Cond) ∈ fg_TW := fg_t2 145 rfl rfl
theorem vc_RJ6_267 : (.constant RJ6 267 (252645135) : Cond) ∈ fg_TW := fg_t2 146 rfl rfl
theorem vc_RX2_75 : (.constant RX2 75 (1103515245) : Cond) ∈ fg_TW := fg_t2 186 rfl rfl
theorem vc_RX4_60 : (.constant RX4 60 (-1000001) : Cond) ∈ fg_TW := fg_t4 24 rfl rfl
theorem vc_RX4_122 : (.constant RX4 122 (99999) : Cond) ∈ fg_TW := fg_t4 112 rfl rfl
theorem vc_RX4_205 : (.constant RX4 205 (1103515245) : Cond) ∈ fg_TW := fg_t5 42 rfl rfl
theorem vl_RX4_209 : (.constantLong RX4 209 (10) : Cond) ∈ fg_TW := fg_t5 47 rfl rfl
theorem vl_RX4_230 : (.constantLong RX4 230 (9999999999999) : Cond) ∈ fg_TW := fg_t5 71 rfl rfl
theorem vl_RX4_232 : (.constantLong RX4 232 (27) : Cond) ∈ fg_TW := fg_t5 72 rfl rfl
theorem vl_RX4_234 : (.constantLong RX4 234 (96) : Cond) ∈ fg_TW := fg_t5 73 rfl rfl
theorem vl_RX4_239 : (.constantLong RX4 239 (9999) : Cond) ∈ fg_TW := fg_t5 77 rfl rfl
theorem vl_RX4_241 : (.constantLong RX4 241 (48) : Cond) ∈ fg_TW := fg_t5 78 rfl rfl
theorem vk_X3_init : (.code yX3_init cX3_init 2 none : Cond) ∈ fg_TW := fg_t1 17 rfl rfl
theorem vk_X2_init : (.code yX2_init cX2_init 2 none : Cond) ∈ fg_TW := fg_t1 25 rfl rfl
theorem vk_X1_init : (.code yX1_init cX1_init 1 none : Cond) ∈ fg_TW := fg_t1 104 rfl rfl
theorem vk_X0_init : (.code yX0_init cX0_init 1 none : Cond) ∈ fg_TW := fg_t1 135 rfl rfl
theorem vk_X3_lot : (.code yX3_lot cX3_lot 4 (some .int) : Cond) ∈ fg_TW := fg_t1 175 rfl rfl
theorem vk_X3_isLot : (.code yX3_isLot cX3_isLot 1 (some .boolean) : Cond) ∈ fg_TW := fg_t1 178 rfl rfl
theorem vk_X3_finding : (.code yX3_finding cX3_finding 2 (some .int) : Cond) ∈ fg_TW := fg_t1 182 rfl rfl
theorem vk_X3_within : (.code yX3_within cX3_within 3 (some .boolean) : Cond) ∈ fg_TW := fg_t1 186 rfl rfl
theorem vk_X3_exchange : (.code yX3_exchange cX3_exchange 4 (some .int) : Cond) ∈ fg_TW := fg_t1 189 rfl rfl
theorem vk_X2_isPerson : (.code yX2_isPerson cX2_isPerson 2 (some .boolean) : Cond) ∈ fg_TW := fg_t1 193 rfl rfl
theorem vk_X3_lotOf : (.code yX3_lotOf cX3_lotOf 3 (some .int) : Cond) ∈ fg_TW := fg_t1 197 rfl rfl
theorem vk_X2_thoseOn : (.code yX2_thoseOn cX2_thoseOn 4 (some .int) : Cond) ∈ fg_TW := fg_t1 201 rfl rfl
theorem vk_X2_thoseStanding : (.code yX2_thoseStanding cX2_thoseStanding 4 (some .int) : Cond) ∈ fg_TW := fg_t1 205 rfl rfl
theorem vk_X2_stands : (.code yX2_stands cX2_stands 3 (some .boolean) : Cond) ∈ fg_TW := fg_t1 209 rfl rfl
theorem vk_X2_trustOf : (.code yX2_trustOf cX2_trustOf 7 (some .int) : Cond) ∈ fg_TW := fg_t1 213 rfl rfl
theorem vk_X3_sun : (.code yX3_sun cX3_sun 3 (some .int) : Cond) ∈ fg_TW := fg_t1 217 rfl rfl
theorem vk_X3_mist : (.code yX3_mist cX3_mist 3 (some .int) : Cond) ∈ fg_TW := fg_t1 221 rfl rfl
theorem vk_X3_person : (.code yX3_person cX3_person 2 (some .int) : Cond) ∈ fg_TW := fg_t1 225 rfl rfl
theorem vk_X3_isKind : (.code yX3_isKind cX3_isKind 1 (some .boolean) : Cond) ∈ fg_TW := fg_t1 228 rfl rfl
theorem vk_X2_add : (.code yX2_add cX2_add 3 (some .int) : Cond) ∈ fg_TW := fg_t1 232 rfl rfl
theorem vk_X3_of : (.code yX3_of cX3_of 3 (some .int) : Cond) ∈ fg_TW := fg_t1 236 rfl rfl
theorem vk_X3_losesOf : (.code yX3_losesOf cX3_losesOf 1 (some .int) : Cond) ∈ fg_TW := fg_t1 239 rfl rfl
theorem vk_X2_lotMadeFor : (.code yX2_lotMadeFor cX2_lotMadeFor 4 (some .int) : Cond) ∈ fg_TW := fg_t2 3 rfl rfl
theorem vk_X2_prefers : (.code yX2_prefers cX2_prefers 4 (some .boolean) : Cond) ∈ fg_TW := fg_t2 7 rfl rfl
theorem vk_X2_lotsOwnedBy : (.code yX2_lotsOwnedBy cX2_lotsOwnedBy 4 (some .int) : Cond) ∈ fg_TW := fg_t2 11 rfl rfl
theorem vk_X2_valueOf : (.code yX2_valueOf cX2_valueOf 3 (some .int) : Cond) ∈ fg_TW := fg_t2 15 rfl rfl
theorem vk_X3_change : (.code yX3_change cX3_change 4 (some .int) : Cond) ∈ fg_TW := fg_t2 19 rfl rfl
theorem vk_X3_trust : (.code yX3_trust cX3_trust 3 (some .int) : Cond) ∈ fg_TW := fg_t2 23 rfl rfl
theorem vk_X3_go : (.code yX3_go cX3_go 2 (some .int) : Cond) ∈ fg_TW := fg_t2 28 rfl rfl
theorem vk_X2_passDays : (.code yX2_passDays cX2_passDays 3 none : Cond) ∈ fg_TW := fg_t2 33 rfl rfl
theorem vk_X2_thinAndThicken : (.code yX2_thinAndThicken cX2_thinAndThicken 3 none : Cond) ∈ fg_TW := fg_t2 37 rfl rfl
theorem vk_J9_min_7cf53 : (.code yJ9_min_7cf53 cJ9_min_7cf53 2 (some .int) : Cond) ∈ fg_TW := fg_t2 40 rfl rfl
theorem vk_J9_max_7cf53 : (.code yJ9_max_7cf53 cJ9_max_7cf53 2 (some .int) : Cond) ∈ fg_TW := fg_t2 43 rfl rfl
theorem vk_X2_spreadFog : (.code yX2_spreadFog cX2_spreadFog 2 none : Cond) ∈ fg_TW := fg_t2 47 rfl rfl
theorem vk_X2_movePeople : (.code yX2_movePeople cX2_movePeople 2 none : Cond) ∈ fg_TW := fg_t2 51 rfl rfl
theorem vk_X2_isGone : (.code yX2_isGone cX2_isGone 2 (some .boolean) : Cond) ∈ fg_TW := fg_t2 55 rfl rfl
theorem vk_X2_fall : (.code yX2_fall cX2_fall 2 none : Cond) ∈ fg_TW := fg_t2 60 rfl rfl
theorem vk_X2_payRents : (.code yX2_payRents cX2_payRents 4 none : Cond) ∈ fg_TW := fg_t2 65 rfl rfl
theorem vk_X2_spreadBelief : (.code yX2_spreadBelief cX2_spreadBelief 3 none : Cond) ∈ fg_TW := fg_t2 70 rfl rfl
theorem vk_X2_greatestBeliefBeside : (.code yX2_greatestBeliefBeside cX2_greatestBeliefBeside 4 (some .int) : Cond) ∈ fg_TW := fg_t2 74 rfl rfl
theorem vk_X2_thoseOnLots : (.code yX2_thoseOnLots cX2_thoseOnLots 3 (some .int) : Cond) ∈ fg_TW := fg_t2 79 rfl rfl
theorem vk_X3_now : (.code yX3_now cX3_now 2 (some .int) : Cond) ∈ fg_TW := fg_t2 83 rfl rfl
theorem vk_X3_sumOf : (.code yX3_sumOf cX3_sumOf 4 (some .int) : Cond) ∈ fg_TW := fg_t2 86 rfl rfl
theorem vk_X3_firstGreatest : (.code yX3_firstGreatest cX3_firstGreatest 4 (some .int) : Cond) ∈ fg_TW := fg_t2 89 rfl rfl
theorem vk_X3_ahead : (.code yX3_ahead cX3_ahead 4 (some .int) : Cond) ∈ fg_TW := fg_t2 93 rfl rfl
theorem vk_X2_become : (.code yX2_become cX2_become 2 none : Cond) ∈ fg_TW := fg_t2 97 rfl rfl
theorem vk_X3_fog : (.code yX3_fog cX3_fog 3 (some .int) : Cond) ∈ fg_TW := fg_t2 104 rfl rfl
theorem vk_X3_falls : (.code yX3_falls cX3_falls 3 (some .int) : Cond) ∈ fg_TW := fg_t2 108 rfl rfl
theorem vk_X3_bare : (.code yX3_bare cX3_bare 2 (some .int) : Cond) ∈ fg_TW := fg_t2 112 rfl rfl
theorem vk_X3_meet : (.code yX3_meet cX3_meet 4 (some .int) : Cond) ∈ fg_TW := fg_t2 116 rfl rfl
theorem vk_X3_beliefFor : (.code yX3_beliefFor cX3_beliefFor 5 (some .int) : Cond) ∈ fg_TW := fg_t2 120 rfl rfl
theorem vk_X3_settle : (.code yX3_settle cX3_settle 6 (some .int) : Cond) ∈ fg_TW := fg_t2 124 rfl rfl
theorem vk_X3_kindFor : (.code yX3_kindFor cX3_kindFor 6 (some .int) : Cond) ∈ fg_TW := fg_t2 128 rfl rfl
theorem vk_X3_rentFor : (.code yX3_rentFor cX3_rentFor 7 (some .int) : Cond) ∈ fg_TW := fg_t2 132 rfl rfl
theorem vk_X3_sunFor : (.code yX3_sunFor cX3_sunFor 5 (some .int) : Cond) ∈ fg_TW := fg_t2 136 rfl rfl
theorem vk_X3_away : (.code yX3_away cX3_away 7 (some .int) : Cond) ∈ fg_TW := fg_t2 140 rfl rfl
theorem vk_J6_bitCount_0f7a4 : (.code yJ6_bitCount_0f7a4 cJ6_bitCount_0f7a4 1 (some .int) : Cond) ∈ fg_TW := fg_t2 143 rfl rfl
theorem vk_X2_sendAway : (.code yX2_sendAway cX2_sendAway 3 none : Cond) ∈ fg_TW := fg_t2 150 rfl rfl
theorem vk_X3_fits : (.code yX3_fits cX3_fits 6 (some .int) : Cond) ∈ fg_TW := fg_t2 154 rfl rfl
theorem vk_X3_faultOfTold : (.code yX3_faultOfTold cX3_faultOfTold 3 (some .int) : Cond) ∈ fg_TW := fg_t2 158 rfl rfl
theorem vk_X3_isSheet : (.code yX3_isSheet cX3_isSheet 1 (some .boolean) : Cond) ∈ fg_TW := fg_t2 161 rfl rfl
theorem vk_X0_isMissing : (.code yX0_isMissing cX0_isMissing 1 (some .boolean) : Cond) ∈ fg_TW := fg_t2 165 rfl rfl
theorem vk_X3_goesAsTold : (.code yX3_goesAsTold cX3_goesAsTold 5 (some .boolean) : Cond) ∈ fg_TW := fg_t2 169 rfl rfl
theorem vk_X3_believed : (.code yX3_believed cX3_believed 5 (some .int) : Cond) ∈ fg_TW := fg_t2 173 rfl rfl
theorem vk_X3_kinds : (.code yX3_kinds cX3_kinds 6 (some .int) : Cond) ∈ fg_TW := fg_t2 177 rfl rfl
theorem vk_X3_fine : (.code yX3_fine cX3_fine 3 (some .int) : Cond) ∈ fg_TW := fg_t2 181 rfl rfl
theorem vk_X2_draw : (.code yX2_draw cX2_draw 1 (some .int) : Cond) ∈ fg_TW := fg_t2 185 rfl rfl
theorem vk_X3_odds : (.code yX3_odds cX3_odds 10 (some .long) : Cond) ∈ fg_TW := fg_t2 190 rfl rfl
theorem vk_X3_greatestCommon : (.code yX3_greatestCommon cX3_greatestCommon 4 (some .int) : Cond) ∈ fg_TW := fg_t2 194 rfl rfl
theorem vk_X3_seed : (.code yX3_seed cX3_seed 3 (some .int) : Cond) ∈ fg_TW := fg_t2 198 rfl rfl
theorem vk_X3_feed : (.code yX3_feed cX3_feed 4 (some .int) : Cond) ∈ fg_TW := fg_t2 202 rfl rfl
theorem vk_X1_append : (.code yX1_append cX1_append 2 none : Cond) ∈ fg_TW := fg_t2 206 rfl rfl
theorem vk_X3_wipe : (.code yX3_wipe cX3_wipe 2 (some .int) : Cond) ∈ fg_TW := fg_t2 210 rfl rfl
theorem vk_X3_text : (.code yX3_text cX3_text 2 (some .int) : Cond) ∈ fg_TW := fg_t2 214 rfl rfl
theorem vk_X1_tellTo : (.code yX1_tellTo cX1_tellTo 4 (some .int) : Cond) ∈ fg_TW := fg_t2 218 rfl rfl
theorem vk_X1_nextToken : (.code yX1_nextToken cX1_nextToken 1 none : Cond) ∈ fg_TW := fg_t2 222 rfl rfl
theorem vk_X1_isLetter : (.code yX1_isLetter cX1_isLetter 1 (some .boolean) : Cond) ∈ fg_TW := fg_t2 225 rfl rfl
theorem vk_X1_readWord : (.code yX1_readWord cX1_readWord 1 none : Cond) ∈ fg_TW := fg_t2 229 rfl rfl
theorem vk_X1_isDigit : (.code yX1_isDigit cX1_isDigit 1 (some .boolean) : Cond) ∈ fg_TW := fg_t2 232 rfl rfl
theorem vk_X1_readNumber : (.code yX1_readNumber cX1_readNumber 1 none : Cond) ∈ fg_TW := fg_t2 236 rfl rfl
theorem vk_X1_tellItem : (.code yX1_tellItem cX1_tellItem 3 none : Cond) ∈ fg_TW := fg_t3 1 rfl rfl
theorem vk_X1_kindOfWord : (.code yX1_kindOfWord cX1_kindOfWord 1 (some .int) : Cond) ∈ fg_TW := fg_t3 5 rfl rfl
theorem vk_X1_isWord : (.code yX1_isWord cX1_isWord 3 (some .boolean) : Cond) ∈ fg_TW := fg_t3 10 rfl rfl
theorem vk_J0_length_8abf5 : (.code yJ0_length_8abf5 cJ0_length_8abf5 1 (some .int) : Cond) ∈ fg_TW := fg_t3 14 rfl rfl
theorem vk_J0_coder_7d493 : (.code yJ0_coder_7d493 cJ0_coder_7d493 1 (some .byte) : Cond) ∈ fg_TW := fg_t3 18 rfl rfl
theorem vk_J0_charAt_5068e : (.code yJ0_charAt_5068e cJ0_charAt_5068e 2 (some .char) : Cond) ∈ fg_TW := fg_t3 24 rfl rfl
theorem vk_J0_isLatin1_aae02 : (.code yJ0_isLatin1_aae02 cJ0_isLatin1_aae02 1 (some .boolean) : Cond) ∈ fg_TW := fg_t3 28 rfl rfl
theorem vk_J1_charAt_3b067 : (.code yJ1_charAt_3b067 cJ1_charAt_3b067 2 (some .char) : Cond) ∈ fg_TW := fg_t3 31 rfl rfl
theorem vk_J0_checkIndex_df160 : (.code yJ0_checkIndex_df160 cJ0_checkIndex_df160 2 none : Cond) ∈ fg_TW := fg_t3 34 rfl rfl
theorem vk_J3_checkIndex_8e157 : (.code yJ3_checkIndex_8e157 cJ3_checkIndex_8e157 3 (some .int) : Cond) ∈ fg_TW := fg_t3 39 rfl rfl
theorem vk_J2_charAt_3b067 : (.code yJ2_charAt_3b067 cJ2_charAt_3b067 2 (some .char) : Cond) ∈ fg_TW := fg_t3 42 rfl rfl
theorem vk_J2_checkIndex_2214a : (.code yJ2_checkIndex_2214a cJ2_checkIndex_2214a 2 none : Cond) ∈ fg_TW := fg_t3 45 rfl rfl
theorem vk_J2_length_9d52b : (.code yJ2_length_9d52b cJ2_length_9d52b 1 (some .int) : Cond) ∈ fg_TW := fg_t3 48 rfl rfl
theorem vk_J2_getChar_3b067 : (.code yJ2_getChar_3b067 cJ2_getChar_3b067 2 (some .char) : Cond) ∈ fg_TW := fg_t3 52 rfl rfl
theorem vk_X1_tellPerson : (.code yX1_tellPerson cX1_tellPerson 4 none : Cond) ∈ fg_TW := fg_t3 68 rfl rfl
theorem vk_X1_faultHere : (.code yX1_faultHere cX1_faultHere 1 none : Cond) ∈ fg_TW := fg_t3 72 rfl rfl
theorem vk_X1_took : (.code yX1_took cX1_took 3 (some .boolean) : Cond) ∈ fg_TW := fg_t3 78 rfl rfl
theorem vk_X1_takeNumber : (.code yX1_takeNumber cX1_takeNumber 3 (some .int) : Cond) ∈ fg_TW := fg_t3 82 rfl rfl
theorem vk_X1_tellLot : (.code yX1_tellLot cX1_tellLot 3 none : Cond) ∈ fg_TW := fg_t3 89 rfl rfl
theorem vk_X1_tellSun : (.code yX1_tellSun cX1_tellSun 4 none : Cond) ∈ fg_TW := fg_t3 98 rfl rfl
theorem vk_X3_hold : (.code yX3_hold cX3_hold 3 (some .int) : Cond) ∈ fg_TW := fg_t3 104 rfl rfl
theorem vk_X3_as : (.code yX3_as cX3_as 4 (some .int) : Cond) ∈ fg_TW := fg_t3 108 rfl rfl
theorem vk_X3_isUnder : (.code yX3_isUnder cX3_isUnder 4 (some .boolean) : Cond) ∈ fg_TW := fg_t3 111 rfl rfl
theorem vk_X3_kindAbove : (.code yX3_kindAbove cX3_kindAbove 1 (some .int) : Cond) ∈ fg_TW := fg_t3 114 rfl rfl
theorem vk_X3_sheet : (.code yX3_sheet cX3_sheet 5 (some .int) : Cond) ∈ fg_TW := fg_t3 118 rfl rfl
theorem vk_X0_begin : (.code yX0_begin cX0_begin 4 none : Cond) ∈ fg_TW := fg_t3 122 rfl rfl
theorem vk_X3_write : (.code yX3_write cX3_write 4 (some .int) : Cond) ∈ fg_TW := fg_t3 126 rfl rfl
theorem vk_X0_put : (.code yX0_put cX0_put 3 none : Cond) ∈ fg_TW := fg_t3 130 rfl rfl
theorem vk_X3_copy : (.code yX3_copy cX3_copy 6 (some .int) : Cond) ∈ fg_TW := fg_t3 134 rfl rfl
theorem vk_X0_has : (.code yX0_has cX0_has 3 (some .boolean) : Cond) ∈ fg_TW := fg_t3 138 rfl rfl
theorem vk_X3_load : (.code yX3_load cX3_load 4 (some .int) : Cond) ∈ fg_TW := fg_t3 143 rfl rfl
theorem vk_X3_judge : (.code yX3_judge cX3_judge 4 (some .int) : Cond) ∈ fg_TW := fg_t3 147 rfl rfl
theorem vk_X3_image : (.code yX3_image cX3_image 1 (some .int) : Cond) ∈ fg_TW := fg_t3 151 rfl rfl
theorem vk_X3_undo : (.code yX3_undo cX3_undo 1 (some .int) : Cond) ∈ fg_TW := fg_t3 155 rfl rfl
theorem vk_X3_tear : (.code yX3_tear cX3_tear 2 (some .int) : Cond) ∈ fg_TW := fg_t3 159 rfl rfl
theorem vk_X3_count : (.code yX3_count cX3_count 2 (some .int) : Cond) ∈ fg_TW := fg_t3 163 rfl rfl
theorem vk_X2_spotsHeld : (.code yX2_spotsHeld cX2_spotsHeld 3 (some .int) : Cond) ∈ fg_TW := fg_t3 167 rfl rfl
theorem vk_X3_status : (.code yX3_status cX3_status 2 (some .int) : Cond) ∈ fg_TW := fg_t3 171 rfl rfl
theorem vk_X4_init : (.code yX4_init cX4_init 2 none : Cond) ∈ fg_TW := fg_t3 176 rfl rfl
theorem vk_X4_lays1 : (.code yX4_lays1 cX4_lays1 4 none : Cond) ∈ fg_TW := fg_t3 181 rfl rfl
theorem vk_X4_lot : (.code yX4_lot cX4_lot 5 (some .int) : Cond) ∈ fg_TW := fg_t4 13 rfl rfl
theorem vk_X4_isLot : (.code yX4_isLot cX4_isLot 1 (some .boolean) : Cond) ∈ fg_TW := fg_t4 16 rfl rfl
theorem vk_X4_in1 : (.code yX4_in1 cX4_in1 3 (some .boolean) : Cond) ∈ fg_TW := fg_t4 19 rfl rfl
theorem vk_X4_no : (.code yX4_no cX4_no 2 (some .int) : Cond) ∈ fg_TW := fg_t4 23 rfl rfl
theorem vk_X4_of1 : (.code yX4_of1 cX4_of1 3 (some .int) : Cond) ∈ fg_TW := fg_t4 28 rfl rfl
theorem vk_X4_lotOf : (.code yX4_lotOf cX4_lotOf 3 (some .int) : Cond) ∈ fg_TW := fg_t4 32 rfl rfl
theorem vk_X4_whoIsOn : (.code yX4_whoIsOn cX4_whoIsOn 4 (some .int) : Cond) ∈ fg_TW := fg_t4 36 rfl rfl
theorem vk_X4_get : (.code yX4_get cX4_get 3 (some .int) : Cond) ∈ fg_TW := fg_t4 40 rfl rfl
theorem vk_X4_standing : (.code yX4_standing cX4_standing 4 (some .int) : Cond) ∈ fg_TW := fg_t4 44 rfl rfl
theorem vk_X4_stands : (.code yX4_stands cX4_stands 3 (some .boolean) : Cond) ∈ fg_TW := fg_t4 48 rfl rfl
theorem vk_X4_trustOf : (.code yX4_trustOf cX4_trustOf 5 (some .int) : Cond) ∈ fg_TW := fg_t4 52 rfl rfl
theorem vk_X4_bits : (.code yX4_bits cX4_bits 3 (some .int) : Cond) ∈ fg_TW := fg_t4 55 rfl rfl
theorem vk_X4_sun : (.code yX4_sun cX4_sun 4 (some .int) : Cond) ∈ fg_TW := fg_t4 59 rfl rfl
theorem vk_X4_mist : (.code yX4_mist cX4_mist 3 (some .int) : Cond) ∈ fg_TW := fg_t4 63 rfl rfl
theorem vk_X4_person : (.code yX4_person cX4_person 2 (some .int) : Cond) ∈ fg_TW := fg_t4 67 rfl rfl
theorem vk_X4_adds : (.code yX4_adds cX4_adds 3 none : Cond) ∈ fg_TW := fg_t4 71 rfl rfl
theorem vk_X4_puts : (.code yX4_puts cX4_puts 4 none : Cond) ∈ fg_TW := fg_t4 75 rfl rfl
theorem vk_X4_of : (.code yX4_of cX4_of 3 (some .int) : Cond) ∈ fg_TW := fg_t4 79 rfl rfl
theorem vk_X4_isPerson : (.code yX4_isPerson cX4_isPerson 2 (some .boolean) : Cond) ∈ fg_TW := fg_t4 83 rfl rfl
theorem vk_X4_losesOf : (.code yX4_losesOf cX4_losesOf 2 (some .int) : Cond) ∈ fg_TW := fg_t4 87 rfl rfl
theorem vk_X4_makesFor : (.code yX4_makesFor cX4_makesFor 4 (some .int) : Cond) ∈ fg_TW := fg_t4 91 rfl rfl
theorem vk_X4_isBetter : (.code yX4_isBetter cX4_isBetter 6 (some .boolean) : Cond) ∈ fg_TW := fg_t4 95 rfl rfl
theorem vk_X4_ownedBy : (.code yX4_ownedBy cX4_ownedBy 4 (some .int) : Cond) ∈ fg_TW := fg_t4 99 rfl rfl
theorem vk_X4_change : (.code yX4_change cX4_change 5 (some .int) : Cond) ∈ fg_TW := fg_t4 103 rfl rfl
theorem vk_X4_trust : (.code yX4_trust cX4_trust 3 (some .int) : Cond) ∈ fg_TW := fg_t4 107 rfl rfl
theorem vk_X4_go : (.code yX4_go cX4_go 2 (some .int) : Cond) ∈ fg_TW := fg_t4 111 rfl rfl
theorem vk_X4_goes : (.code yX4_goes cX4_goes 3 none : Cond) ∈ fg_TW := fg_t4 116 rfl rfl
theorem vk_X4_day : (.code yX4_day cX4_day 2 none : Cond) ∈ fg_TW := fg_t4 120 rfl rfl
theorem vk_X4_drifts : (.code yX4_drifts cX4_drifts 3 none : Cond) ∈ fg_TW := fg_t4 124 rfl rfl
theorem vk_X4_less : (.code yX4_less cX4_less 2 (some .int) : Cond) ∈ fg_TW := fg_t4 127 rfl rfl
theorem vk_X4_isAway : (.code yX4_isAway cX4_isAway 2 (some .boolean) : Cond) ∈ fg_TW := fg_t4 131 rfl rfl
theorem vk_X4_moves : (.code yX4_moves cX4_moves 4 none : Cond) ∈ fg_TW := fg_t4 135 rfl rfl
theorem vk_X4_pays : (.code yX4_pays cX4_pays 5 none : Cond) ∈ fg_TW := fg_t4 139 rfl rfl
theorem vk_X4_finds : (.code yX4_finds cX4_finds 5 none : Cond) ∈ fg_TW := fg_t4 143 rfl rfl
theorem vk_X4_onLots : (.code yX4_onLots cX4_onLots 1 (some .int) : Cond) ∈ fg_TW := fg_t4 147 rfl rfl
theorem vk_X4_now : (.code yX4_now cX4_now 2 (some .int) : Cond) ∈ fg_TW := fg_t4 151 rfl rfl
theorem vk_X4_fogs : (.code yX4_fogs cX4_fogs 3 (some .int) : Cond) ∈ fg_TW := fg_t4 155 rfl rfl
theorem vk_X4_sumOf : (.code yX4_sumOf cX4_sumOf 4 (some .int) : Cond) ∈ fg_TW := fg_t4 159 rfl rfl
theorem vk_X4_mostFog : (.code yX4_mostFog cX4_mostFog 3 (some .int) : Cond) ∈ fg_TW := fg_t4 163 rfl rfl
theorem vk_X4_richest : (.code yX4_richest cX4_richest 3 (some .int) : Cond) ∈ fg_TW := fg_t4 167 rfl rfl
theorem vk_X4_ahead : (.code yX4_ahead cX4_ahead 5 (some .int) : Cond) ∈ fg_TW := fg_t4 171 rfl rfl
theorem vk_X4_setsAside : (.code yX4_setsAside cX4_setsAside 2 none : Cond) ∈ fg_TW := fg_t4 175 rfl rfl
theorem vk_X4_laysBack : (.code yX4_laysBack cX4_laysBack 2 none : Cond) ∈ fg_TW := fg_t4 179 rfl rfl
theorem vk_X4_fog : (.code yX4_fog cX4_fog 4 (some .int) : Cond) ∈ fg_TW := fg_t4 183 rfl rfl
theorem vk_X4_falls : (.code yX4_falls cX4_falls 2 (some .int) : Cond) ∈ fg_TW := fg_t4 187 rfl rfl
theorem vk_X4_firstBy : (.code yX4_firstBy cX4_firstBy 5 (some .int) : Cond) ∈ fg_TW := fg_t4 191 rfl rfl
theorem vk_X4_isSo : (.code yX4_isSo cX4_isSo 4 (some .boolean) : Cond) ∈ fg_TW := fg_t4 195 rfl rfl
theorem vk_X4_bare : (.code yX4_bare cX4_bare 1 (some .int) : Cond) ∈ fg_TW := fg_t4 199 rfl rfl
theorem vk_X4_meet : (.code yX4_meet cX4_meet 3 (some .int) : Cond) ∈ fg_TW := fg_t4 203 rfl rfl
theorem vk_X4_beliefFor : (.code yX4_beliefFor cX4_beliefFor 4 (some .int) : Cond) ∈ fg_TW := fg_t4 207 rfl rfl
theorem vk_X4_isSoon : (.code yX4_isSoon cX4_isSoon 1 (some .boolean) : Cond) ∈ fg_TW := fg_t4 210 rfl rfl
theorem vk_X4_thenWith : (.code yX4_thenWith cX4_thenWith 7 (some .int) : Cond) ∈ fg_TW := fg_t4 214 rfl rfl
theorem vk_X4_settle : (.code yX4_settle cX4_settle 7 (some .int) : Cond) ∈ fg_TW := fg_t4 218 rfl rfl
theorem vk_X4_kindFor : (.code yX4_kindFor cX4_kindFor 7 (some .int) : Cond) ∈ fg_TW := fg_t4 222 rfl rfl
theorem vk_X4_rentFor : (.code yX4_rentFor cX4_rentFor 8 (some .int) : Cond) ∈ fg_TW := fg_t4 226 rfl rfl
theorem vk_X4_sunFor : (.code yX4_sunFor cX4_sunFor 3 (some .int) : Cond) ∈ fg_TW := fg_t4 230 rfl rfl
theorem vk_X4_fellBy : (.code yX4_fellBy cX4_fellBy 4 (some .int) : Cond) ∈ fg_TW := fg_t4 234 rfl rfl
theorem vk_X4_away : (.code yX4_away cX4_away 6 (some .int) : Cond) ∈ fg_TW := fg_t4 238 rfl rfl
theorem vk_X4_standsWithout : (.code yX4_standsWithout cX4_standsWithout 5 (some .boolean) : Cond) ∈ fg_TW := fg_t5 2 rfl rfl
theorem vk_X4_fits : (.code yX4_fits cX4_fits 6 (some .int) : Cond) ∈ fg_TW := fg_t5 6 rfl rfl
theorem vk_X4_wrongTold : (.code yX4_wrongTold cX4_wrongTold 4 (some .int) : Cond) ∈ fg_TW := fg_t5 10 rfl rfl
theorem vk_X4_wrongSheet : (.code yX4_wrongSheet cX4_wrongSheet 2 (some .int) : Cond) ∈ fg_TW := fg_t5 14 rfl rfl
theorem vk_X4_isSheet : (.code yX4_isSheet cX4_isSheet 1 (some .boolean) : Cond) ∈ fg_TW := fg_t5 17 rfl rfl
theorem vk_X4_fitsAs : (.code yX4_fitsAs cX4_fitsAs 7 (some .boolean) : Cond) ∈ fg_TW := fg_t5 21 rfl rfl
theorem vk_X4_told : (.code yX4_told cX4_told 3 (some .int) : Cond) ∈ fg_TW := fg_t5 25 rfl rfl
theorem vk_X4_believed : (.code yX4_believed cX4_believed 5 (some .int) : Cond) ∈ fg_TW := fg_t5 29 rfl rfl
theorem vk_X4_kinds : (.code yX4_kinds cX4_kinds 6 (some .int) : Cond) ∈ fg_TW := fg_t5 33 rfl rfl
theorem vk_X4_fine : (.code yX4_fine cX4_fine 3 (some .int) : Cond) ∈ fg_TW := fg_t5 37 rfl rfl
theorem vk_X4_draw : (.code yX4_draw cX4_draw 1 (some .int) : Cond) ∈ fg_TW := fg_t5 41 rfl rfl
theorem vk_X4_odds : (.code yX4_odds cX4_odds 15 (some .long) : Cond) ∈ fg_TW := fg_t5 46 rfl rfl
theorem vk_X4_seed : (.code yX4_seed cX4_seed 3 (some .int) : Cond) ∈ fg_TW := fg_t5 51 rfl rfl
theorem vk_X4_feed : (.code yX4_feed cX4_feed 4 (some .int) : Cond) ∈ fg_TW := fg_t5 55 rfl rfl
theorem vk_X4_wipe : (.code yX4_wipe cX4_wipe 2 (some .int) : Cond) ∈ fg_TW := fg_t5 59 rfl rfl
theorem vk_X4_text : (.code yX4_text cX4_text 3 (some .int) : Cond) ∈ fg_TW := fg_t5 63 rfl rfl
theorem vk_X4_nextToken : (.code yX4_nextToken cX4_nextToken 1 none : Cond) ∈ fg_TW := fg_t5 67 rfl rfl
theorem vk_X4_isLetter : (.code yX4_isLetter cX4_isLetter 1 (some .boolean) : Cond) ∈ fg_TW := fg_t5 70 rfl rfl
theorem vk_X4_isDigit : (.code yX4_isDigit cX4_isDigit 1 (some .boolean) : Cond) ∈ fg_TW := fg_t5 76 rfl rfl
theorem vk_X4_readsItem : (.code yX4_readsItem cX4_readsItem 3 (some .boolean) : Cond) ∈ fg_TW := fg_t5 82 rfl rfl
theorem vk_X4_wordOf : (.code yX4_wordOf cX4_wordOf 7 (some .int) : Cond) ∈ fg_TW := fg_t5 86 rfl rfl
theorem vk_X4_readsPerson : (.code yX4_readsPerson cX4_readsPerson 5 (some .boolean) : Cond) ∈ fg_TW := fg_t5 90 rfl rfl
theorem vk_X4_takesNumber : (.code yX4_takesNumber cX4_takesNumber 4 (some .int) : Cond) ∈ fg_TW := fg_t5 94 rfl rfl
theorem vk_X4_readsLot : (.code yX4_readsLot cX4_readsLot 4 (some .boolean) : Cond) ∈ fg_TW := fg_t5 98 rfl rfl
theorem vk_X4_readsSun : (.code yX4_readsSun cX4_readsSun 4 (some .boolean) : Cond) ∈ fg_TW := fg_t5 102 rfl rfl
theorem vk_X4_hold : (.code yX4_hold cX4_hold 3 (some .int) : Cond) ∈ fg_TW := fg_t5 106 rfl rfl
theorem vk_X4_isSpot : (.code yX4_isSpot cX4_isSpot 1 (some .boolean) : Cond) ∈ fg_TW := fg_t5 109 rfl rfl
theorem vk_X4_as : (.code yX4_as cX4_as 5 (some .int) : Cond) ∈ fg_TW := fg_t5 113 rfl rfl
theorem vk_X4_above : (.code yX4_above cX4_above 1 (some .int) : Cond) ∈ fg_TW := fg_t5 116 rfl rfl
theorem vk_X4_sheet : (.code yX4_sheet cX4_sheet 5 (some .int) : Cond) ∈ fg_TW := fg_t5 120 rfl rfl
theorem vk_X4_write : (.code yX4_write cX4_write 5 (some .int) : Cond) ∈ fg_TW := fg_t5 124 rfl rfl
theorem vk_X4_copy : (.code yX4_copy cX4_copy 7 (some .int) : Cond) ∈ fg_TW := fg_t5 128 rfl rfl
theorem vk_X4_load : (.code yX4_load cX4_load 4 (some .int) : Cond) ∈ fg_TW := fg_t5 132 rfl rfl
theorem vk_X4_judge : (.code yX4_judge cX4_judge 4 (some .int) : Cond) ∈ fg_TW := fg_t5 136 rfl rfl
theorem vk_X4_image : (.code yX4_image cX4_image 2 (some .int) : Cond) ∈ fg_TW := fg_t5 140 rfl rfl
theorem vk_X4_undo : (.code yX4_undo cX4_undo 2 (some .int) : Cond) ∈ fg_TW := fg_t5 144 rfl rfl
theorem vk_X4_tear : (.code yX4_tear cX4_tear 2 (some .int) : Cond) ∈ fg_TW := fg_t5 148 rfl rfl
theorem vk_X4_count : (.code yX4_count cX4_count 4 (some .int) : Cond) ∈ fg_TW := fg_t5 152 rfl rfl
theorem vk_X4_status : (.code yX4_status cX4_status 4 (some .int) : Cond) ∈ fg_TW := fg_t5 156 rfl rfl
theorem vh_X3_init : (.instanceMethod yX3_init : Cond) ∈ fg_TW := fg_t1 16 rfl rfl
theorem vh_X2_init : (.instanceMethod yX2_init : Cond) ∈ fg_TW := fg_t1 24 rfl rfl
theorem vh_X1_init : (.instanceMethod yX1_init : Cond) ∈ fg_TW := fg_t1 103 rfl rfl
theorem vh_X0_init : (.instanceMethod yX0_init : Cond) ∈ fg_TW := fg_t1 134 rfl rfl
theorem vh_X3_lot : (.instanceMethod yX3_lot : Cond) ∈ fg_TW := fg_t1 173 rfl rfl
theorem vh_X3_finding : (.instanceMethod yX3_finding : Cond) ∈ fg_TW := fg_t1 181 rfl rfl
theorem vh_X2_isPerson : (.instanceMethod yX2_isPerson : Cond) ∈ fg_TW := fg_t1 191 rfl rfl
theorem vh_X3_lotOf : (.instanceMethod yX3_lotOf : Cond) ∈ fg_TW := fg_t1 195 rfl rfl
theorem vh_X2_thoseOn : (.instanceMethod yX2_thoseOn : Cond) ∈ fg_TW := fg_t1 199 rfl rfl
theorem vh_X2_thoseStanding : (.instanceMethod yX2_thoseStanding : Cond) ∈ fg_TW := fg_t1 203 rfl rfl
theorem vh_X2_stands : (.instanceMethod yX2_stands : Cond) ∈ fg_TW := fg_t1 207 rfl rfl
theorem vh_X2_trustOf : (.instanceMethod yX2_trustOf : Cond) ∈ fg_TW := fg_t1 211 rfl rfl
theorem vh_X3_sun : (.instanceMethod yX3_sun : Cond) ∈ fg_TW := fg_t1 215 rfl rfl
theorem vh_X3_mist : (.instanceMethod yX3_mist : Cond) ∈ fg_TW := fg_t1 219 rfl rfl
theorem vh_X3_person : (.instanceMethod yX3_person : Cond) ∈ fg_TW := fg_t1 223 rfl rfl
theorem vh_X2_add : (.instanceMethod yX2_add : Cond) ∈ fg_TW := fg_t1 230 rfl rfl
theorem vh_X3_of : (.instanceMethod yX3_of : Cond) ∈ fg_TW := fg_t1 234 rfl rfl
theorem vh_X2_lotMadeFor : (.instanceMethod yX2_lotMadeFor : Cond) ∈ fg_TW := fg_t2 1 rfl rfl
theorem vh_X2_prefers : (.instanceMethod yX2_prefers : Cond) ∈ fg_TW := fg_t2 6 rfl rfl
theorem vh_X2_lotsOwnedBy : (.instanceMethod yX2_lotsOwnedBy : Cond) ∈ fg_TW := fg_t2 9 rfl rfl
theorem vh_X2_valueOf : (.instanceMethod yX2_valueOf : Cond) ∈ fg_TW := fg_t2 13 rfl rfl
theorem vh_X3_change : (.instanceMethod yX3_change : Cond) ∈ fg_TW := fg_t2 17 rfl rfl
theorem vh_X3_trust : (.instanceMethod yX3_trust : Cond) ∈ fg_TW := fg_t2 21 rfl rfl
theorem vh_X3_go : (.instanceMethod yX3_go : Cond) ∈ fg_TW := fg_t2 26 rfl rfl
theorem vh_X2_passDays : (.instanceMethod yX2_passDays : Cond) ∈ fg_TW := fg_t2 31 rfl rfl
theorem vh_X2_thinAndThicken : (.instanceMethod yX2_thinAndThicken : Cond) ∈ fg_TW := fg_t2 36 rfl rfl
theorem vh_X2_spreadFog : (.instanceMethod yX2_spreadFog : Cond) ∈ fg_TW := fg_t2 46 rfl rfl
theorem vh_X2_movePeople : (.instanceMethod yX2_movePeople : Cond) ∈ fg_TW := fg_t2 50 rfl rfl
theorem vh_X2_isGone : (.instanceMethod yX2_isGone : Cond) ∈ fg_TW := fg_t2 54 rfl rfl
theorem vh_X2_fall : (.instanceMethod yX2_fall : Cond) ∈ fg_TW := fg_t2 59 rfl rfl
theorem vh_X2_payRents : (.instanceMethod yX2_payRents : Cond) ∈ fg_TW := fg_t2 64 rfl rfl
theorem vh_X2_spreadBelief : (.instanceMethod yX2_spreadBelief : Cond) ∈ fg_TW := fg_t2 69 rfl rfl
theorem vh_X2_greatestBeliefBeside : (.instanceMethod yX2_greatestBeliefBeside : Cond) ∈ fg_TW := fg_t2 73 rfl rfl
theorem vh_X2_thoseOnLots : (.instanceMethod yX2_thoseOnLots : Cond) ∈ fg_TW := fg_t2 77 rfl rfl
theorem vh_X3_now : (.instanceMethod yX3_now : Cond) ∈ fg_TW := fg_t2 81 rfl rfl
theorem vh_X3_ahead : (.instanceMethod yX3_ahead : Cond) ∈ fg_TW := fg_t2 91 rfl rfl
theorem vh_X2_become : (.instanceMethod yX2_become : Cond) ∈ fg_TW := fg_t2 95 rfl rfl
theorem vh_X3_fog : (.instanceMethod yX3_fog : Cond) ∈ fg_TW := fg_t2 102 rfl rfl
theorem vh_X3_falls : (.instanceMethod yX3_falls : Cond) ∈ fg_TW := fg_t2 106 rfl rfl
theorem vh_X3_bare : (.instanceMethod yX3_bare : Cond) ∈ fg_TW := fg_t2 110 rfl rfl
theorem vh_X3_meet : (.instanceMethod yX3_meet : Cond) ∈ fg_TW := fg_t2 114 rfl rfl
theorem vh_X3_beliefFor : (.instanceMethod yX3_beliefFor : Cond) ∈ fg_TW := fg_t2 118 rfl rfl
theorem vh_X3_settle : (.instanceMethod yX3_settle : Cond) ∈ fg_TW := fg_t2 122 rfl rfl
theorem vh_X3_kindFor : (.instanceMethod yX3_kindFor : Cond) ∈ fg_TW := fg_t2 126 rfl rfl
theorem vh_X3_rentFor : (.instanceMethod yX3_rentFor : Cond) ∈ fg_TW := fg_t2 130 rfl rfl
theorem vh_X3_sunFor : (.instanceMethod yX3_sunFor : Cond) ∈ fg_TW := fg_t2 134 rfl rfl
theorem vh_X3_away : (.instanceMethod yX3_away : Cond) ∈ fg_TW := fg_t2 138 rfl rfl
theorem vh_X2_sendAway : (.instanceMethod yX2_sendAway : Cond) ∈ fg_TW := fg_t2 148 rfl rfl
theorem vh_X3_fits : (.instanceMethod yX3_fits : Cond) ∈ fg_TW := fg_t2 152 rfl rfl
theorem vh_X3_faultOfTold : (.instanceMethod yX3_faultOfTold : Cond) ∈ fg_TW := fg_t2 157 rfl rfl
theorem vh_X0_isMissing : (.instanceMethod yX0_isMissing : Cond) ∈ fg_TW := fg_t2 163 rfl rfl
theorem vh_X3_goesAsTold : (.instanceMethod yX3_goesAsTold : Cond) ∈ fg_TW := fg_t2 168 rfl rfl
theorem vh_X3_believed : (.instanceMethod yX3_believed : Cond) ∈ fg_TW := fg_t2 171 rfl rfl
theorem vh_X3_kinds : (.instanceMethod yX3_kinds : Cond) ∈ fg_TW := fg_t2 175 rfl rfl
theorem vh_X3_fine : (.instanceMethod yX3_fine : Cond) ∈ fg_TW := fg_t2 179 rfl rfl
theorem vh_X2_draw : (.instanceMethod yX2_draw : Cond) ∈ fg_TW := fg_t2 183 rfl rfl
theorem vh_X3_odds : (.instanceMethod yX3_odds : Cond) ∈ fg_TW := fg_t2 188 rfl rfl
theorem vh_X3_seed : (.instanceMethod yX3_seed : Cond) ∈ fg_TW := fg_t2 196 rfl rfl
theorem vh_X3_feed : (.instanceMethod yX3_feed : Cond) ∈ fg_TW := fg_t2 200 rfl rfl
theorem vh_X1_append : (.instanceMethod yX1_append : Cond) ∈ fg_TW := fg_t2 204 rfl rfl
theorem vh_X3_wipe : (.instanceMethod yX3_wipe : Cond) ∈ fg_TW := fg_t2 208 rfl rfl
theorem vh_X3_text : (.instanceMethod yX3_text : Cond) ∈ fg_TW := fg_t2 212 rfl rfl
theorem vh_X1_tellTo : (.instanceMethod yX1_tellTo : Cond) ∈ fg_TW := fg_t2 216 rfl rfl
theorem vh_X1_nextToken : (.instanceMethod yX1_nextToken : Cond) ∈ fg_TW := fg_t2 221 rfl rfl
theorem vh_X1_readWord : (.instanceMethod yX1_readWord : Cond) ∈ fg_TW := fg_t2 228 rfl rfl
theorem vh_X1_readNumber : (.instanceMethod yX1_readNumber : Cond) ∈ fg_TW := fg_t2 235 rfl rfl
theorem vh_X1_tellItem : (.instanceMethod yX1_tellItem : Cond) ∈ fg_TW := fg_t3 0 rfl rfl
theorem vh_X1_kindOfWord : (.instanceMethod yX1_kindOfWord : Cond) ∈ fg_TW := fg_t3 4 rfl rfl
theorem vh_X1_isWord : (.instanceMethod yX1_isWord : Cond) ∈ fg_TW := fg_t3 9 rfl rfl
theorem vh_J0_length_8abf5 : (.instanceMethod yJ0_length_8abf5 : Cond) ∈ fg_TW := fg_t3 12 rfl rfl
theorem vh_J0_coder_7d493 : (.instanceMethod yJ0_coder_7d493 : Cond) ∈ fg_TW := fg_t3 16 rfl rfl
theorem vh_J0_charAt_5068e : (.instanceMethod yJ0_charAt_5068e : Cond) ∈ fg_TW := fg_t3 22 rfl rfl
theorem vh_J0_isLatin1_aae02 : (.instanceMethod yJ0_isLatin1_aae02 : Cond) ∈ fg_TW := fg_t3 26 rfl rfl
theorem vh_X1_tellPerson : (.instanceMethod yX1_tellPerson : Cond) ∈ fg_TW := fg_t3 67 rfl rfl
theorem vh_X1_faultHere : (.instanceMethod yX1_faultHere : Cond) ∈ fg_TW := fg_t3 71 rfl rfl
theorem vh_X1_took : (.instanceMethod yX1_took : Cond) ∈ fg_TW := fg_t3 77 rfl rfl
theorem vh_X1_takeNumber : (.instanceMethod yX1_takeNumber : Cond) ∈ fg_TW := fg_t3 81 rfl rfl
theorem vh_X1_tellLot : (.instanceMethod yX1_tellLot : Cond) ∈ fg_TW := fg_t3 88 rfl rfl
theorem vh_X1_tellSun : (.instanceMethod yX1_tellSun : Cond) ∈ fg_TW := fg_t3 97 rfl rfl
theorem vh_X3_hold : (.instanceMethod yX3_hold : Cond) ∈ fg_TW := fg_t3 102 rfl rfl
theorem vh_X3_as : (.instanceMethod yX3_as : Cond) ∈ fg_TW := fg_t3 106 rfl rfl
theorem vh_X3_sheet : (.instanceMethod yX3_sheet : Cond) ∈ fg_TW := fg_t3 116 rfl rfl
theorem vh_X0_begin : (.instanceMethod yX0_begin : Cond) ∈ fg_TW := fg_t3 120 rfl rfl
theorem vh_X3_write : (.instanceMethod yX3_write : Cond) ∈ fg_TW := fg_t3 124 rfl rfl
theorem vh_X0_put : (.instanceMethod yX0_put : Cond) ∈ fg_TW := fg_t3 128 rfl rfl
theorem vh_X3_copy : (.instanceMethod yX3_copy : Cond) ∈ fg_TW := fg_t3 132 rfl rfl
theorem vh_X0_has : (.instanceMethod yX0_has : Cond) ∈ fg_TW := fg_t3 136 rfl rfl
theorem vh_X3_load : (.instanceMethod yX3_load : Cond) ∈ fg_TW := fg_t3 141 rfl rfl
theorem vh_X3_judge : (.instanceMethod yX3_judge : Cond) ∈ fg_TW := fg_t3 145 rfl rfl
theorem vh_X3_image : (.instanceMethod yX3_image : Cond) ∈ fg_TW := fg_t3 149 rfl rfl
theorem vh_X3_undo : (.instanceMethod yX3_undo : Cond) ∈ fg_TW := fg_t3 153 rfl rfl
theorem vh_X3_tear : (.instanceMethod yX3_tear : Cond) ∈ fg_TW := fg_t3 157 rfl rfl
theorem vh_X3_count : (.instanceMethod yX3_count : Cond) ∈ fg_TW := fg_t3 161 rfl rfl
theorem vh_X2_spotsHeld : (.instanceMethod yX2_spotsHeld : Cond) ∈ fg_TW := fg_t3 165 rfl rfl
theorem vh_X3_status : (.instanceMethod yX3_status : Cond) ∈ fg_TW := fg_t3 169 rfl rfl
theorem vh_X4_init : (.instanceMethod yX4_init : Cond) ∈ fg_TW := fg_t3 175 rfl rfl
theorem vh_X4_lays1 : (.instanceMethod yX4_lays1 : Cond) ∈ fg_TW := fg_t3 180 rfl rfl
theorem vh_X4_lot : (.instanceMethod yX4_lot : Cond) ∈ fg_TW := fg_t4 11 rfl rfl
theorem vh_X4_no : (.instanceMethod yX4_no : Cond) ∈ fg_TW := fg_t4 22 rfl rfl
theorem vh_X4_of1 : (.instanceMethod yX4_of1 : Cond) ∈ fg_TW := fg_t4 27 rfl rfl
theorem vh_X4_lotOf : (.instanceMethod yX4_lotOf : Cond) ∈ fg_TW := fg_t4 30 rfl rfl
theorem vh_X4_whoIsOn : (.instanceMethod yX4_whoIsOn : Cond) ∈ fg_TW := fg_t4 35 rfl rfl
theorem vh_X4_get : (.instanceMethod yX4_get : Cond) ∈ fg_TW := fg_t4 39 rfl rfl
theorem vh_X4_standing : (.instanceMethod yX4_standing : Cond) ∈ fg_TW := fg_t4 43 rfl rfl
theorem vh_X4_stands : (.instanceMethod yX4_stands : Cond) ∈ fg_TW := fg_t4 47 rfl rfl
theorem vh_X4_trustOf : (.instanceMethod yX4_trustOf : Cond) ∈ fg_TW := fg_t4 51 rfl rfl
theorem vh_X4_sun : (.instanceMethod yX4_sun : Cond) ∈ fg_TW := fg_t4 57 rfl rfl
theorem vh_X4_mist : (.instanceMethod yX4_mist : Cond) ∈ fg_TW := fg_t4 61 rfl rfl
theorem vh_X4_person : (.instanceMethod yX4_person : Cond) ∈ fg_TW := fg_t4 65 rfl rfl
theorem vh_X4_adds : (.instanceMethod yX4_adds : Cond) ∈ fg_TW := fg_t4 70 rfl rfl
theorem vh_X4_puts : (.instanceMethod yX4_puts : Cond) ∈ fg_TW := fg_t4 74 rfl rfl
theorem vh_X4_of : (.instanceMethod yX4_of : Cond) ∈ fg_TW := fg_t4 77 rfl rfl
theorem vh_X4_isPerson : (.instanceMethod yX4_isPerson : Cond) ∈ fg_TW := fg_t4 82 rfl rfl
theorem vh_X4_losesOf : (.instanceMethod yX4_losesOf : Cond) ∈ fg_TW := fg_t4 86 rfl rfl
theorem vh_X4_makesFor : (.instanceMethod yX4_makesFor : Cond) ∈ fg_TW := fg_t4 90 rfl rfl
theorem vh_X4_isBetter : (.instanceMethod yX4_isBetter : Cond) ∈ fg_TW := fg_t4 94 rfl rfl
theorem vh_X4_ownedBy : (.instanceMethod yX4_ownedBy : Cond) ∈ fg_TW := fg_t4 98 rfl rfl
theorem vh_X4_change : (.instanceMethod yX4_change : Cond) ∈ fg_TW := fg_t4 101 rfl rfl
theorem vh_X4_trust : (.instanceMethod yX4_trust : Cond) ∈ fg_TW := fg_t4 105 rfl rfl
theorem vh_X4_go : (.instanceMethod yX4_go : Cond) ∈ fg_TW := fg_t4 109 rfl rfl
theorem vh_X4_goes : (.instanceMethod yX4_goes : Cond) ∈ fg_TW := fg_t4 115 rfl rfl
theorem vh_X4_day : (.instanceMethod yX4_day : Cond) ∈ fg_TW := fg_t4 119 rfl rfl
theorem vh_X4_drifts : (.instanceMethod yX4_drifts : Cond) ∈ fg_TW := fg_t4 123 rfl rfl
theorem vh_X4_isAway : (.instanceMethod yX4_isAway : Cond) ∈ fg_TW := fg_t4 130 rfl rfl
theorem vh_X4_moves : (.instanceMethod yX4_moves : Cond) ∈ fg_TW := fg_t4 134 rfl rfl
theorem vh_X4_pays : (.instanceMethod yX4_pays : Cond) ∈ fg_TW := fg_t4 138 rfl rfl
theorem vh_X4_finds : (.instanceMethod yX4_finds : Cond) ∈ fg_TW := fg_t4 142 rfl rfl
theorem vh_X4_onLots : (.instanceMethod yX4_onLots : Cond) ∈ fg_TW := fg_t4 146 rfl rfl
theorem vh_X4_now : (.instanceMethod yX4_now : Cond) ∈ fg_TW := fg_t4 149 rfl rfl
theorem vh_X4_fogs : (.instanceMethod yX4_fogs : Cond) ∈ fg_TW := fg_t4 154 rfl rfl
theorem vh_X4_sumOf : (.instanceMethod yX4_sumOf : Cond) ∈ fg_TW := fg_t4 158 rfl rfl
theorem vh_X4_mostFog : (.instanceMethod yX4_mostFog : Cond) ∈ fg_TW := fg_t4 162 rfl rfl
theorem vh_X4_richest : (.instanceMethod yX4_richest : Cond) ∈ fg_TW := fg_t4 166 rfl rfl
theorem vh_X4_ahead : (.instanceMethod yX4_ahead : Cond) ∈ fg_TW := fg_t4 169 rfl rfl
theorem vh_X4_setsAside : (.instanceMethod yX4_setsAside : Cond) ∈ fg_TW := fg_t4 174 rfl rfl
theorem vh_X4_laysBack : (.instanceMethod yX4_laysBack : Cond) ∈ fg_TW := fg_t4 178 rfl rfl
theorem vh_X4_fog : (.instanceMethod yX4_fog : Cond) ∈ fg_TW := fg_t4 181 rfl rfl
theorem vh_X4_falls : (.instanceMethod yX4_falls : Cond) ∈ fg_TW := fg_t4 185 rfl rfl
theorem vh_X4_firstBy : (.instanceMethod yX4_firstBy : Cond) ∈ fg_TW := fg_t4 190 rfl rfl
theorem vh_X4_isSo : (.instanceMethod yX4_isSo : Cond) ∈ fg_TW := fg_t4 194 rfl rfl
theorem vh_X4_bare : (.instanceMethod yX4_bare : Cond) ∈ fg_TW := fg_t4 197 rfl rfl
theorem vh_X4_meet : (.instanceMethod yX4_meet : Cond) ∈ fg_TW := fg_t4 201 rfl rfl
theorem vh_X4_beliefFor : (.instanceMethod yX4_beliefFor : Cond) ∈ fg_TW := fg_t4 205 rfl rfl
theorem vh_X4_thenWith : (.instanceMethod yX4_thenWith : Cond) ∈ fg_TW := fg_t4 213 rfl rfl
theorem vh_X4_settle : (.instanceMethod yX4_settle : Cond) ∈ fg_TW := fg_t4 216 rfl rfl
theorem vh_X4_kindFor : (.instanceMethod yX4_kindFor : Cond) ∈ fg_TW := fg_t4 220 rfl rfl
theorem vh_X4_rentFor : (.instanceMethod yX4_rentFor : Cond) ∈ fg_TW := fg_t4 224 rfl rfl
theorem vh_X4_sunFor : (.instanceMethod yX4_sunFor : Cond) ∈ fg_TW := fg_t4 228 rfl rfl
theorem vh_X4_fellBy : (.instanceMethod yX4_fellBy : Cond) ∈ fg_TW := fg_t4 233 rfl rfl
theorem vh_X4_away : (.instanceMethod yX4_away : Cond) ∈ fg_TW := fg_t4 236 rfl rfl
theorem vh_X4_standsWithout : (.instanceMethod yX4_standsWithout : Cond) ∈ fg_TW := fg_t5 1 rfl rfl
theorem vh_X4_fits : (.instanceMethod yX4_fits : Cond) ∈ fg_TW := fg_t5 4 rfl rfl
theorem vh_X4_wrongTold : (.instanceMethod yX4_wrongTold : Cond) ∈ fg_TW := fg_t5 9 rfl rfl
theorem vh_X4_wrongSheet : (.instanceMethod yX4_wrongSheet : Cond) ∈ fg_TW := fg_t5 13 rfl rfl
theorem vh_X4_fitsAs : (.instanceMethod yX4_fitsAs : Cond) ∈ fg_TW := fg_t5 20 rfl rfl
theorem vh_X4_told : (.instanceMethod yX4_told : Cond) ∈ fg_TW := fg_t5 24 rfl rfl
theorem vh_X4_believed : (.instanceMethod yX4_believed : Cond) ∈ fg_TW := fg_t5 27 rfl rfl
theorem vh_X4_kinds : (.instanceMethod yX4_kinds : Cond) ∈ fg_TW := fg_t5 31 rfl rfl
theorem vh_X4_fine : (.instanceMethod yX4_fine : Cond) ∈ fg_TW := fg_t5 35 rfl rfl
theorem vh_X4_draw : (.instanceMethod yX4_draw : Cond) ∈ fg_TW := fg_t5 40 rfl rfl
theorem vh_X4_odds : (.instanceMethod yX4_odds : Cond) ∈ fg_TW := fg_t5 44 rfl rfl
theorem vh_X4_seed : (.instanceMethod yX4_seed : Cond) ∈ fg_TW := fg_t5 49 rfl rfl
theorem vh_X4_feed : (.instanceMethod yX4_feed : Cond) ∈ fg_TW := fg_t5 53 rfl rfl
theorem vh_X4_wipe : (.instanceMethod yX4_wipe : Cond) ∈ fg_TW := fg_t5 57 rfl rfl
theorem vh_X4_text : (.instanceMethod yX4_text : Cond) ∈ fg_TW := fg_t5 61 rfl rfl
theorem vh_X4_nextToken : (.instanceMethod yX4_nextToken : Cond) ∈ fg_TW := fg_t5 66 rfl rfl
theorem vh_X4_readsItem : (.instanceMethod yX4_readsItem : Cond) ∈ fg_TW := fg_t5 81 rfl rfl
theorem vh_X4_wordOf : (.instanceMethod yX4_wordOf : Cond) ∈ fg_TW := fg_t5 85 rfl rfl
theorem vh_X4_readsPerson : (.instanceMethod yX4_readsPerson : Cond) ∈ fg_TW := fg_t5 89 rfl rfl
theorem vh_X4_takesNumber : (.instanceMethod yX4_takesNumber : Cond) ∈ fg_TW := fg_t5 93 rfl rfl
theorem vh_X4_readsLot : (.instanceMethod yX4_readsLot : Cond) ∈ fg_TW := fg_t5 97 rfl rfl
theorem vh_X4_readsSun : (.instanceMethod yX4_readsSun : Cond) ∈ fg_TW := fg_t5 101 rfl rfl
theorem vh_X4_hold : (.instanceMethod yX4_hold : Cond) ∈ fg_TW := fg_t5 104 rfl rfl
theorem vh_X4_as : (.instanceMethod yX4_as : Cond) ∈ fg_TW := fg_t5 111 rfl rfl
theorem vh_X4_sheet : (.instanceMethod yX4_sheet : Cond) ∈ fg_TW := fg_t5 118 rfl rfl
theorem vh_X4_write : (.instanceMethod yX4_write : Cond) ∈ fg_TW := fg_t5 122 rfl rfl
theorem vh_X4_copy : (.instanceMethod yX4_copy : Cond) ∈ fg_TW := fg_t5 126 rfl rfl
theorem vh_X4_load : (.instanceMethod yX4_load : Cond) ∈ fg_TW := fg_t5 130 rfl rfl
theorem vh_X4_judge : (.instanceMethod yX4_judge : Cond) ∈ fg_TW := fg_t5 134 rfl rfl
theorem vh_X4_image : (.instanceMethod yX4_image : Cond) ∈ fg_TW := fg_t5 138 rfl rfl
theorem vh_X4_undo : (.instanceMethod yX4_undo : Cond) ∈ fg_TW := fg_t5 142 rfl rfl
theorem vh_X4_tear : (.instanceMethod yX4_tear : Cond) ∈ fg_TW := fg_t5 146 rfl rfl
theorem vh_X4_count : (.instanceMethod yX4_count : Cond) ∈ fg_TW := fg_t5 150 rfl rfl
theorem vh_X4_status : (.instanceMethod yX4_status : Cond) ∈ fg_TW := fg_t5 154 rfl rfl
theorem vs_X3_isLot : (.static yX3_isLot : Cond) ∈ fg_TW := fg_t1 177 rfl rfl
theorem vs_X3_within : (.static yX3_within : Cond) ∈ fg_TW := fg_t1 185 rfl rfl
theorem vs_X3_exchange : (.static yX3_exchange : Cond) ∈ fg_TW := fg_t1 188 rfl rfl
theorem vs_X3_isKind : (.static yX3_isKind : Cond) ∈ fg_TW := fg_t1 227 rfl rfl
theorem vs_X3_losesOf : (.static yX3_losesOf : Cond) ∈ fg_TW := fg_t1 238 rfl rfl
theorem vs_J9_min_7cf53 : (.static yJ9_min_7cf53 : Cond) ∈ fg_TW := fg_t2 39 rfl rfl
theorem vs_J9_max_7cf53 : (.static yJ9_max_7cf53 : Cond) ∈ fg_TW := fg_t2 42 rfl rfl
theorem vs_X3_sumOf : (.static yX3_sumOf : Cond) ∈ fg_TW := fg_t2 85 rfl rfl
theorem vs_X3_firstGreatest : (.static yX3_firstGreatest : Cond) ∈ fg_TW := fg_t2 88 rfl rfl
theorem vs_J6_bitCount_0f7a4 : (.static yJ6_bitCount_0f7a4 : Cond) ∈ fg_TW := fg_t2 142 rfl rfl
theorem vs_X3_isSheet : (.static yX3_isSheet : Cond) ∈ fg_TW := fg_t2 160 rfl rfl
theorem vs_X3_greatestCommon : (.static yX3_greatestCommon : Cond) ∈ fg_TW := fg_t2 193 rfl rfl
theorem vs_X1_isLetter : (.static yX1_isLetter : Cond) ∈ fg_TW := fg_t2 224 rfl rfl
theorem vs_X1_isDigit : (.static yX1_isDigit : Cond) ∈ fg_TW := fg_t2 231 rfl rfl
theorem vs_J1_charAt_3b067 : (.static yJ1_charAt_3b067 : Cond) ∈ fg_TW := fg_t3 30 rfl rfl
theorem vs_J0_checkIndex_df160 : (.static yJ0_checkIndex_df160 : Cond) ∈ fg_TW := fg_t3 33 rfl rfl
theorem vs_J3_checkIndex_8e157 : (.static yJ3_checkIndex_8e157 : Cond) ∈ fg_TW := fg_t3 38 rfl rfl
theorem vs_J2_charAt_3b067 : (.static yJ2_charAt_3b067 : Cond) ∈ fg_TW := fg_t3 41 rfl rfl
theorem vs_J2_checkIndex_2214a : (.static yJ2_checkIndex_2214a : Cond) ∈ fg_TW := fg_t3 44 rfl rfl
theorem vs_J2_length_9d52b : (.static yJ2_length_9d52b : Cond) ∈ fg_TW := fg_t3 47 rfl rfl
theorem vs_J2_getChar_3b067 : (.static yJ2_getChar_3b067 : Cond) ∈ fg_TW := fg_t3 51 rfl rfl
theorem vs_X3_isUnder : (.static yX3_isUnder : Cond) ∈ fg_TW := fg_t3 110 rfl rfl
theorem vs_X3_kindAbove : (.static yX3_kindAbove : Cond) ∈ fg_TW := fg_t3 113 rfl rfl
theorem vs_X4_isLot : (.static yX4_isLot : Cond) ∈ fg_TW := fg_t4 15 rfl rfl
theorem vs_X4_in1 : (.static yX4_in1 : Cond) ∈ fg_TW := fg_t4 18 rfl rfl
theorem vs_X4_bits : (.static yX4_bits : Cond) ∈ fg_TW := fg_t4 54 rfl rfl
theorem vs_X4_less : (.static yX4_less : Cond) ∈ fg_TW := fg_t4 126 rfl rfl
theorem vs_X4_isSoon : (.static yX4_isSoon : Cond) ∈ fg_TW := fg_t4 209 rfl rfl
theorem vs_X4_isSheet : (.static yX4_isSheet : Cond) ∈ fg_TW := fg_t5 16 rfl rfl
theorem vs_X4_isLetter : (.static yX4_isLetter : Cond) ∈ fg_TW := fg_t5 69 rfl rfl
theorem vs_X4_isDigit : (.static yX4_isDigit : Cond) ∈ fg_TW := fg_t5 75 rfl rfl
theorem vs_X4_isSpot : (.static yX4_isSpot : Cond) ∈ fg_TW := fg_t5 108 rfl rfl
theorem vs_X4_above : (.static yX4_above : Cond) ∈ fg_TW := fg_t5 115 rfl rfl
theorem ve_X3_lot : (.selects RX3 yX3_lot yX3_lot : Cond) ∈ fg_TW := fg_t1 174 rfl rfl
theorem ve_X2_isPerson : (.selects RX2 yX2_isPerson yX2_isPerson : Cond) ∈ fg_TW := fg_t1 192 rfl rfl
theorem ve_X3_lotOf : (.selects RX3 yX3_lotOf yX3_lotOf : Cond) ∈ fg_TW := fg_t1 196 rfl rfl
theorem ve_X2_thoseOn : (.selects RX2 yX2_thoseOn yX2_thoseOn : Cond) ∈ fg_TW := fg_t1 200 rfl rfl
theorem ve_X2_thoseStanding : (.selects RX2 yX2_thoseStanding yX2_thoseStanding : Cond) ∈ fg_TW := fg_t1 204 rfl rfl
theorem ve_X2_stands : (.selects RX2 yX2_stands yX2_stands : Cond) ∈ fg_TW := fg_t1 208 rfl rfl
theorem ve_X2_trustOf : (.selects RX2 yX2_trustOf yX2_trustOf : Cond) ∈ fg_TW := fg_t1 212 rfl rfl
theorem ve_X3_sun : (.selects RX3 yX3_sun yX3_sun : Cond) ∈ fg_TW := fg_t1 216 rfl rfl
theorem ve_X3_mist : (.selects RX3 yX3_mist yX3_mist : Cond) ∈ fg_TW := fg_t1 220 rfl rfl
theorem ve_X3_person : (.selects RX3 yX3_person yX3_person : Cond) ∈ fg_TW := fg_t1 224 rfl rfl
theorem ve_X2_add : (.selects RX2 yX2_add yX2_add : Cond) ∈ fg_TW := fg_t1 231 rfl rfl
theorem ve_X3_of : (.selects RX3 yX3_of yX3_of : Cond) ∈ fg_TW := fg_t1 235 rfl rfl
theorem ve_X2_lotMadeFor : (.selects RX2 yX2_lotMadeFor yX2_lotMadeFor : Cond) ∈ fg_TW := fg_t2 2 rfl rfl
theorem ve_X2_lotsOwnedBy : (.selects RX2 yX2_lotsOwnedBy yX2_lotsOwnedBy : Cond) ∈ fg_TW := fg_t2 10 rfl rfl
theorem ve_X2_valueOf : (.selects RX2 yX2_valueOf yX2_valueOf : Cond) ∈ fg_TW := fg_t2 14 rfl rfl
theorem ve_X3_change : (.selects RX3 yX3_change yX3_change : Cond) ∈ fg_TW := fg_t2 18 rfl rfl
theorem ve_X3_trust : (.selects RX3 yX3_trust yX3_trust : Cond) ∈ fg_TW := fg_t2 22 rfl rfl
theorem ve_X3_go : (.selects RX3 yX3_go yX3_go : Cond) ∈ fg_TW := fg_t2 27 rfl rfl
theorem ve_X2_passDays : (.selects RX2 yX2_passDays yX2_passDays : Cond) ∈ fg_TW := fg_t2 32 rfl rfl
theorem ve_X2_thoseOnLots : (.selects RX2 yX2_thoseOnLots yX2_thoseOnLots : Cond) ∈ fg_TW := fg_t2 78 rfl rfl
theorem ve_X3_now : (.selects RX3 yX3_now yX3_now : Cond) ∈ fg_TW := fg_t2 82 rfl rfl
theorem ve_X3_ahead : (.selects RX3 yX3_ahead yX3_ahead : Cond) ∈ fg_TW := fg_t2 92 rfl rfl
theorem ve_X2_become : (.selects RX2 yX2_become yX2_become : Cond) ∈ fg_TW := fg_t2 96 rfl rfl
theorem ve_X3_fog : (.selects RX3 yX3_fog yX3_fog : Cond) ∈ fg_TW := fg_t2 103 rfl rfl
theorem ve_X3_falls : (.selects RX3 yX3_falls yX3_falls : Cond) ∈ fg_TW := fg_t2 107 rfl rfl
theorem ve_X3_bare : (.selects RX3 yX3_bare yX3_bare : Cond) ∈ fg_TW := fg_t2 111 rfl rfl
theorem ve_X3_meet : (.selects RX3 yX3_meet yX3_meet : Cond) ∈ fg_TW := fg_t2 115 rfl rfl
theorem ve_X3_beliefFor : (.selects RX3 yX3_beliefFor yX3_beliefFor : Cond) ∈ fg_TW := fg_t2 119 rfl rfl
theorem ve_X3_settle : (.selects RX3 yX3_settle yX3_settle : Cond) ∈ fg_TW := fg_t2 123 rfl rfl
theorem ve_X3_kindFor : (.selects RX3 yX3_kindFor yX3_kindFor : Cond) ∈ fg_TW := fg_t2 127 rfl rfl
theorem ve_X3_rentFor : (.selects RX3 yX3_rentFor yX3_rentFor : Cond) ∈ fg_TW := fg_t2 131 rfl rfl
theorem ve_X3_sunFor : (.selects RX3 yX3_sunFor yX3_sunFor : Cond) ∈ fg_TW := fg_t2 135 rfl rfl
theorem ve_X3_away : (.selects RX3 yX3_away yX3_away : Cond) ∈ fg_TW := fg_t2 139 rfl rfl
theorem ve_X2_sendAway : (.selects RX2 yX2_sendAway yX2_sendAway : Cond) ∈ fg_TW := fg_t2 149 rfl rfl
theorem ve_X3_fits : (.selects RX3 yX3_fits yX3_fits : Cond) ∈ fg_TW := fg_t2 153 rfl rfl
theorem ve_X0_isMissing : (.selects RX0 yX0_isMissing yX0_isMissing : Cond) ∈ fg_TW := fg_t2 164 rfl rfl
theorem ve_X3_believed : (.selects RX3 yX3_believed yX3_believed : Cond) ∈ fg_TW := fg_t2 172 rfl rfl
theorem ve_X3_kinds : (.selects RX3 yX3_kinds yX3_kinds : Cond) ∈ fg_TW := fg_t2 176 rfl rfl
theorem ve_X3_fine : (.selects RX3 yX3_fine yX3_fine : Cond) ∈ fg_TW := fg_t2 180 rfl rfl
theorem ve_X2_draw : (.selects RX2 yX2_draw yX2_draw : Cond) ∈ fg_TW := fg_t2 184 rfl rfl
theorem ve_X3_odds : (.selects RX3 yX3_odds yX3_odds : Cond) ∈ fg_TW := fg_t2 189 rfl rfl
theorem ve_X3_seed : (.selects RX3 yX3_seed yX3_seed : Cond) ∈ fg_TW := fg_t2 197 rfl rfl
theorem ve_X3_feed : (.selects RX3 yX3_feed yX3_feed : Cond) ∈ fg_TW := fg_t2 201 rfl rfl
theorem ve_X1_append : (.selects RX1 yX1_append yX1_append : Cond) ∈ fg_TW := fg_t2 205 rfl rfl
theorem ve_X3_wipe : (.selects RX3 yX3_wipe yX3_wipe : Cond) ∈ fg_TW := fg_t2 209 rfl rfl
theorem ve_X3_text : (.selects RX3 yX3_text yX3_text : Cond) ∈ fg_TW := fg_t2 213 rfl rfl
theorem ve_X1_tellTo : (.selects RX1 yX1_tellTo yX1_tellTo : Cond) ∈ fg_TW := fg_t2 217 rfl rfl
theorem ve_J0_length_8abf5 : (.selects RJ0 yJ0_length_8abf5 yJ0_length_8abf5 : Cond) ∈ fg_TW := fg_t3 13 rfl rfl
theorem ve_J0_coder_7d493 : (.selects RJ0 yJ0_coder_7d493 yJ0_coder_7d493 : Cond) ∈ fg_TW := fg_t3 17 rfl rfl
theorem ve_J0_charAt_5068e : (.selects RJ0 yJ0_charAt_5068e yJ0_charAt_5068e : Cond) ∈ fg_TW := fg_t3 23 rfl rfl
theorem ve_J0_isLatin1_aae02 : (.selects RJ0 yJ0_isLatin1_aae02 yJ0_isLatin1_aae02 : Cond) ∈ fg_TW := fg_t3 27 rfl rfl
theorem ve_X3_hold : (.selects RX3 yX3_hold yX3_hold : Cond) ∈ fg_TW := fg_t3 103 rfl rfl
theorem ve_X3_as : (.selects RX3 yX3_as yX3_as : Cond) ∈ fg_TW := fg_t3 107 rfl rfl
theorem ve_X3_sheet : (.selects RX3 yX3_sheet yX3_sheet : Cond) ∈ fg_TW := fg_t3 117 rfl rfl
theorem ve_X0_begin : (.selects RX0 yX0_begin yX0_begin : Cond) ∈ fg_TW := fg_t3 121 rfl rfl
theorem ve_X3_write : (.selects RX3 yX3_write yX3_write : Cond) ∈ fg_TW := fg_t3 125 rfl rfl
theorem ve_X0_put : (.selects RX0 yX0_put yX0_put : Cond) ∈ fg_TW := fg_t3 129 rfl rfl
theorem ve_X3_copy : (.selects RX3 yX3_copy yX3_copy : Cond) ∈ fg_TW := fg_t3 133 rfl rfl
theorem ve_X0_has : (.selects RX0 yX0_has yX0_has : Cond) ∈ fg_TW := fg_t3 137 rfl rfl
theorem ve_X3_load : (.selects RX3 yX3_load yX3_load : Cond) ∈ fg_TW := fg_t3 142 rfl rfl
theorem ve_X3_judge : (.selects RX3 yX3_judge yX3_judge : Cond) ∈ fg_TW := fg_t3 146 rfl rfl
theorem ve_X3_image : (.selects RX3 yX3_image yX3_image : Cond) ∈ fg_TW := fg_t3 150 rfl rfl
theorem ve_X3_undo : (.selects RX3 yX3_undo yX3_undo : Cond) ∈ fg_TW := fg_t3 154 rfl rfl
theorem ve_X3_tear : (.selects RX3 yX3_tear yX3_tear : Cond) ∈ fg_TW := fg_t3 158 rfl rfl
theorem ve_X3_count : (.selects RX3 yX3_count yX3_count : Cond) ∈ fg_TW := fg_t3 162 rfl rfl
theorem ve_X2_spotsHeld : (.selects RX2 yX2_spotsHeld yX2_spotsHeld : Cond) ∈ fg_TW := fg_t3 166 rfl rfl
theorem ve_X3_status : (.selects RX3 yX3_status yX3_status : Cond) ∈ fg_TW := fg_t3 170 rfl rfl
theorem ve_X4_lot : (.selects RX4 yX4_lot yX4_lot : Cond) ∈ fg_TW := fg_t4 12 rfl rfl
theorem ve_X4_lotOf : (.selects RX4 yX4_lotOf yX4_lotOf : Cond) ∈ fg_TW := fg_t4 31 rfl rfl
theorem ve_X4_sun : (.selects RX4 yX4_sun yX4_sun : Cond) ∈ fg_TW := fg_t4 58 rfl rfl
theorem ve_X4_mist : (.selects RX4 yX4_mist yX4_mist : Cond) ∈ fg_TW := fg_t4 62 rfl rfl
theorem ve_X4_person : (.selects RX4 yX4_person yX4_person : Cond) ∈ fg_TW := fg_t4 66 rfl rfl
theorem ve_X4_of : (.selects RX4 yX4_of yX4_of : Cond) ∈ fg_TW := fg_t4 78 rfl rfl
theorem ve_X4_change : (.selects RX4 yX4_change yX4_change : Cond) ∈ fg_TW := fg_t4 102 rfl rfl
theorem ve_X4_trust : (.selects RX4 yX4_trust yX4_trust : Cond) ∈ fg_TW := fg_t4 106 rfl rfl
theorem ve_X4_go : (.selects RX4 yX4_go yX4_go : Cond) ∈ fg_TW := fg_t4 110 rfl rfl
theorem ve_X4_now : (.selects RX4 yX4_now yX4_now : Cond) ∈ fg_TW := fg_t4 150 rfl rfl
theorem ve_X4_ahead : (.selects RX4 yX4_ahead yX4_ahead : Cond) ∈ fg_TW := fg_t4 170 rfl rfl
theorem ve_X4_fog : (.selects RX4 yX4_fog yX4_fog : Cond) ∈ fg_TW := fg_t4 182 rfl rfl
theorem ve_X4_falls : (.selects RX4 yX4_falls yX4_falls : Cond) ∈ fg_TW := fg_t4 186 rfl rfl
theorem ve_X4_bare : (.selects RX4 yX4_bare yX4_bare : Cond) ∈ fg_TW := fg_t4 198 rfl rfl
theorem ve_X4_meet : (.selects RX4 yX4_meet yX4_meet : Cond) ∈ fg_TW := fg_t4 202 rfl rfl
theorem ve_X4_beliefFor : (.selects RX4 yX4_beliefFor yX4_beliefFor : Cond) ∈ fg_TW := fg_t4 206 rfl rfl
theorem ve_X4_settle : (.selects RX4 yX4_settle yX4_settle : Cond) ∈ fg_TW := fg_t4 217 rfl rfl
theorem ve_X4_kindFor : (.selects RX4 yX4_kindFor yX4_kindFor : Cond) ∈ fg_TW := fg_t4 221 rfl rfl
theorem ve_X4_rentFor : (.selects RX4 yX4_rentFor yX4_rentFor : Cond) ∈ fg_TW := fg_t4 225 rfl rfl
theorem ve_X4_sunFor : (.selects RX4 yX4_sunFor yX4_sunFor : Cond) ∈ fg_TW := fg_t4 229 rfl rfl
theorem ve_X4_away : (.selects RX4 yX4_away yX4_away : Cond) ∈ fg_TW := fg_t4 237 rfl rfl
theorem ve_X4_fits : (.selects RX4 yX4_fits yX4_fits : Cond) ∈ fg_TW := fg_t5 5 rfl rfl
theorem ve_X4_believed : (.selects RX4 yX4_believed yX4_believed : Cond) ∈ fg_TW := fg_t5 28 rfl rfl
theorem ve_X4_kinds : (.selects RX4 yX4_kinds yX4_kinds : Cond) ∈ fg_TW := fg_t5 32 rfl rfl
theorem ve_X4_fine : (.selects RX4 yX4_fine yX4_fine : Cond) ∈ fg_TW := fg_t5 36 rfl rfl
theorem ve_X4_odds : (.selects RX4 yX4_odds yX4_odds : Cond) ∈ fg_TW := fg_t5 45 rfl rfl
theorem ve_X4_seed : (.selects RX4 yX4_seed yX4_seed : Cond) ∈ fg_TW := fg_t5 50 rfl rfl
theorem ve_X4_feed : (.selects RX4 yX4_feed yX4_feed : Cond) ∈ fg_TW := fg_t5 54 rfl rfl
theorem ve_X4_wipe : (.selects RX4 yX4_wipe yX4_wipe : Cond) ∈ fg_TW := fg_t5 58 rfl rfl
theorem ve_X4_text : (.selects RX4 yX4_text yX4_text : Cond) ∈ fg_TW := fg_t5 62 rfl rfl
theorem ve_X4_hold : (.selects RX4 yX4_hold yX4_hold : Cond) ∈ fg_TW := fg_t5 105 rfl rfl
theorem ve_X4_as : (.selects RX4 yX4_as yX4_as : Cond) ∈ fg_TW := fg_t5 112 rfl rfl
theorem ve_X4_sheet : (.selects RX4 yX4_sheet yX4_sheet : Cond) ∈ fg_TW := fg_t5 119 rfl rfl
theorem ve_X4_write : (.selects RX4 yX4_write yX4_write : Cond) ∈ fg_TW := fg_t5 123 rfl rfl
theorem ve_X4_copy : (.selects RX4 yX4_copy yX4_copy : Cond) ∈ fg_TW := fg_t5 127 rfl rfl
theorem ve_X4_load : (.selects RX4 yX4_load yX4_load : Cond) ∈ fg_TW := fg_t5 131 rfl rfl
theorem ve_X4_judge : (.selects RX4 yX4_judge yX4_judge : Cond) ∈ fg_TW := fg_t5 135 rfl rfl
theorem ve_X4_image : (.selects RX4 yX4_image yX4_image : Cond) ∈ fg_TW := fg_t5 139 rfl rfl
theorem ve_X4_undo : (.selects RX4 yX4_undo yX4_undo : Cond) ∈ fg_TW := fg_t5 143 rfl rfl
theorem ve_X4_tear : (.selects RX4 yX4_tear yX4_tear : Cond) ∈ fg_TW := fg_t5 147 rfl rfl
theorem ve_X4_count : (.selects RX4 yX4_count yX4_count : Cond) ∈ fg_TW := fg_t5 151 rfl rfl
theorem ve_X4_status : (.selects RX4 yX4_status yX4_status : Cond) ∈ fg_TW := fg_t5 155 rfl rfl
theorem ve_X3_finding : (.selects RX3 yX3_finding yX3_finding : Cond) ∈ fg_TW := fg_tp 0 rfl rfl
theorem ve_X2_prefers : (.selects RX2 yX2_prefers yX2_prefers : Cond) ∈ fg_TW := fg_tp 1 rfl rfl
theorem ve_X2_thinAndThicken : (.selects RX2 yX2_thinAndThicken yX2_thinAndThicken : Cond) ∈ fg_TW := fg_tp 2 rfl rfl
theorem ve_X2_spreadFog : (.selects RX2 yX2_spreadFog yX2_spreadFog : Cond) ∈ fg_TW := fg_tp 3 rfl rfl
theorem ve_X2_movePeople : (.selects RX2 yX2_movePeople yX2_movePeople : Cond) ∈ fg_TW := fg_tp 4 rfl rfl
theorem ve_X2_isGone : (.selects RX2 yX2_isGone yX2_isGone : Cond) ∈ fg_TW := fg_tp 5 rfl rfl
theorem ve_X2_fall : (.selects RX2 yX2_fall yX2_fall : Cond) ∈ fg_TW := fg_tp 6 rfl rfl
theorem ve_X2_payRents : (.selects RX2 yX2_payRents yX2_payRents : Cond) ∈ fg_TW := fg_tp 7 rfl rfl
theorem ve_X2_spreadBelief : (.selects RX2 yX2_spreadBelief yX2_spreadBelief : Cond) ∈ fg_TW := fg_tp 8 rfl rfl
theorem ve_X2_greatestBeliefBeside : (.selects RX2 yX2_greatestBeliefBeside yX2_greatestBeliefBeside : Cond) ∈ fg_TW := fg_tp 9 rfl rfl
theorem ve_X3_faultOfTold : (.selects RX3 yX3_faultOfTold yX3_faultOfTold : Cond) ∈ fg_TW := fg_tp 10 rfl rfl
theorem ve_X3_goesAsTold : (.selects RX3 yX3_goesAsTold yX3_goesAsTold : Cond) ∈ fg_TW := fg_tp 11 rfl rfl
theorem ve_X1_nextToken : (.selects RX1 yX1_nextToken yX1_nextToken : Cond) ∈ fg_TW := fg_tp 12 rfl rfl
theorem ve_X1_readWord : (.selects RX1 yX1_readWord yX1_readWord : Cond) ∈ fg_TW := fg_tp 13 rfl rfl
theorem ve_X1_readNumber : (.selects RX1 yX1_readNumber yX1_readNumber : Cond) ∈ fg_TW := fg_tp 14 rfl rfl
theorem ve_X1_tellItem : (.selects RX1 yX1_tellItem yX1_tellItem : Cond) ∈ fg_TW := fg_tp 15 rfl rfl
theorem ve_X1_kindOfWord : (.selects RX1 yX1_kindOfWord yX1_kindOfWord : Cond) ∈ fg_TW := fg_tp 16 rfl rfl
theorem ve_X1_isWord : (.selects RX1 yX1_isWord yX1_isWord : Cond) ∈ fg_TW := fg_tp 17 rfl rfl
theorem ve_X1_tellPerson : (.selects RX1 yX1_tellPerson yX1_tellPerson : Cond) ∈ fg_TW := fg_tp 18 rfl rfl
theorem ve_X1_faultHere : (.selects RX1 yX1_faultHere yX1_faultHere : Cond) ∈ fg_TW := fg_tp 19 rfl rfl
theorem ve_X1_took : (.selects RX1 yX1_took yX1_took : Cond) ∈ fg_TW := fg_tp 20 rfl rfl
theorem ve_X1_takeNumber : (.selects RX1 yX1_takeNumber yX1_takeNumber : Cond) ∈ fg_TW := fg_tp 21 rfl rfl
theorem ve_X1_tellLot : (.selects RX1 yX1_tellLot yX1_tellLot : Cond) ∈ fg_TW := fg_tp 22 rfl rfl
theorem ve_X1_tellSun : (.selects RX1 yX1_tellSun yX1_tellSun : Cond) ∈ fg_TW := fg_tp 23 rfl rfl
theorem ve_X4_lays1 : (.selects RX4 yX4_lays1 yX4_lays1 : Cond) ∈ fg_TW := fg_tp 24 rfl rfl
theorem ve_X4_no : (.selects RX4 yX4_no yX4_no : Cond) ∈ fg_TW := fg_tp 25 rfl rfl
theorem ve_X4_of1 : (.selects RX4 yX4_of1 yX4_of1 : Cond) ∈ fg_TW := fg_tp 26 rfl rfl
theorem ve_X4_whoIsOn : (.selects RX4 yX4_whoIsOn yX4_whoIsOn : Cond) ∈ fg_TW := fg_tp 27 rfl rfl
theorem ve_X4_get : (.selects RX4 yX4_get yX4_get : Cond) ∈ fg_TW := fg_tp 28 rfl rfl
theorem ve_X4_standing : (.selects RX4 yX4_standing yX4_standing : Cond) ∈ fg_TW := fg_tp 29 rfl rfl
theorem ve_X4_stands : (.selects RX4 yX4_stands yX4_stands : Cond) ∈ fg_TW := fg_tp 30 rfl rfl
theorem ve_X4_trustOf : (.selects RX4 yX4_trustOf yX4_trustOf : Cond) ∈ fg_TW := fg_tp 31 rfl rfl
theorem ve_X4_adds : (.selects RX4 yX4_adds yX4_adds : Cond) ∈ fg_TW := fg_tp 32 rfl rfl
theorem ve_X4_puts : (.selects RX4 yX4_puts yX4_puts : Cond) ∈ fg_TW := fg_tp 33 rfl rfl
theorem ve_X4_isPerson : (.selects RX4 yX4_isPerson yX4_isPerson : Cond) ∈ fg_TW := fg_tp 34 rfl rfl
theorem ve_X4_losesOf : (.selects RX4 yX4_losesOf yX4_losesOf : Cond) ∈ fg_TW := fg_tp 35 rfl rfl
theorem ve_X4_makesFor : (.selects RX4 yX4_makesFor yX4_makesFor : Cond) ∈ fg_TW := fg_tp 36 rfl rfl
theorem ve_X4_isBetter : (.selects RX4 yX4_isBetter yX4_isBetter : Cond) ∈ fg_TW := fg_tp 37 rfl rfl
theorem ve_X4_ownedBy : (.selects RX4 yX4_ownedBy yX4_ownedBy : Cond) ∈ fg_TW := fg_tp 38 rfl rfl
theorem ve_X4_goes : (.selects RX4 yX4_goes yX4_goes : Cond) ∈ fg_TW := fg_tp 39 rfl rfl
theorem ve_X4_day : (.selects RX4 yX4_day yX4_day : Cond) ∈ fg_TW := fg_tp 40 rfl rfl
theorem ve_X4_drifts : (.selects RX4 yX4_drifts yX4_drifts : Cond) ∈ fg_TW := fg_tp 41 rfl rfl
theorem ve_X4_isAway : (.selects RX4 yX4_isAway yX4_isAway : Cond) ∈ fg_TW := fg_tp 42 rfl rfl
theorem ve_X4_moves : (.selects RX4 yX4_moves yX4_moves : Cond) ∈ fg_TW := fg_tp 43 rfl rfl
theorem ve_X4_pays : (.selects RX4 yX4_pays yX4_pays : Cond) ∈ fg_TW := fg_tp 44 rfl rfl
theorem ve_X4_finds : (.selects RX4 yX4_finds yX4_finds : Cond) ∈ fg_TW := fg_tp 45 rfl rfl
theorem ve_X4_onLots : (.selects RX4 yX4_onLots yX4_onLots : Cond) ∈ fg_TW := fg_tp 46 rfl rfl
theorem ve_X4_fogs : (.selects RX4 yX4_fogs yX4_fogs : Cond) ∈ fg_TW := fg_tp 47 rfl rfl
theorem ve_X4_sumOf : (.selects RX4 yX4_sumOf yX4_sumOf : Cond) ∈ fg_TW := fg_tp 48 rfl rfl
theorem ve_X4_mostFog : (.selects RX4 yX4_mostFog yX4_mostFog : Cond) ∈ fg_TW := fg_tp 49 rfl rfl
theorem ve_X4_richest : (.selects RX4 yX4_richest yX4_richest : Cond) ∈ fg_TW := fg_tp 50 rfl rfl
theorem ve_X4_setsAside : (.selects RX4 yX4_setsAside yX4_setsAside : Cond) ∈ fg_TW := fg_tp 51 rfl rfl
theorem ve_X4_laysBack : (.selects RX4 yX4_laysBack yX4_laysBack : Cond) ∈ fg_TW := fg_tp 52 rfl rfl
theorem ve_X4_firstBy : (.selects RX4 yX4_firstBy yX4_firstBy : Cond) ∈ fg_TW := fg_tp 53 rfl rfl
theorem ve_X4_isSo : (.selects RX4 yX4_isSo yX4_isSo : Cond) ∈ fg_TW := fg_tp 54 rfl rfl
theorem ve_X4_thenWith : (.selects RX4 yX4_thenWith yX4_thenWith : Cond) ∈ fg_TW := fg_tp 55 rfl rfl
theorem ve_X4_fellBy : (.selects RX4 yX4_fellBy yX4_fellBy : Cond) ∈ fg_TW := fg_tp 56 rfl rfl
theorem ve_X4_standsWithout : (.selects RX4 yX4_standsWithout yX4_standsWithout : Cond) ∈ fg_TW := fg_tp 57 rfl rfl
theorem ve_X4_wrongTold : (.selects RX4 yX4_wrongTold yX4_wrongTold : Cond) ∈ fg_TW := fg_tp 58 rfl rfl
theorem ve_X4_wrongSheet : (.selects RX4 yX4_wrongSheet yX4_wrongSheet : Cond) ∈ fg_TW := fg_tp 59 rfl rfl
theorem ve_X4_fitsAs : (.selects RX4 yX4_fitsAs yX4_fitsAs : Cond) ∈ fg_TW := fg_tp 60 rfl rfl
theorem ve_X4_told : (.selects RX4 yX4_told yX4_told : Cond) ∈ fg_TW := fg_tp 61 rfl rfl
theorem ve_X4_draw : (.selects RX4 yX4_draw yX4_draw : Cond) ∈ fg_TW := fg_tp 62 rfl rfl
theorem ve_X4_nextToken : (.selects RX4 yX4_nextToken yX4_nextToken : Cond) ∈ fg_TW := fg_tp 63 rfl rfl
theorem ve_X4_readsItem : (.selects RX4 yX4_readsItem yX4_readsItem : Cond) ∈ fg_TW := fg_tp 64 rfl rfl
theorem ve_X4_wordOf : (.selects RX4 yX4_wordOf yX4_wordOf : Cond) ∈ fg_TW := fg_tp 65 rfl rfl
theorem ve_X4_readsPerson : (.selects RX4 yX4_readsPerson yX4_readsPerson : Cond) ∈ fg_TW := fg_tp 66 rfl rfl
theorem ve_X4_takesNumber : (.selects RX4 yX4_takesNumber yX4_takesNumber : Cond) ∈ fg_TW := fg_tp 67 rfl rfl
theorem ve_X4_readsLot : (.selects RX4 yX4_readsLot yX4_readsLot : Cond) ∈ fg_TW := fg_tp 68 rfl rfl
theorem ve_X4_readsSun : (.selects RX4 yX4_readsSun yX4_readsSun : Cond) ∈ fg_TW := fg_tp 69 rfl rfl
theorem vn_acopy : (.native arraycopyName : Cond) ∈ fg_TW := fg_t2 100 rfl rfl
theorem vs_acopy : (.static arraycopyName : Cond) ∈ fg_TW := fg_t2 99 rfl rfl
theorem vm_RX2_61 : (.methodLink RX2 61 arraycopyName : Cond) ∈ fg_TW := fg_t2 98 rfl rfl
theorem vm_RX3_219 : (.methodLink RX3 219 arraycopyName : Cond) ∈ fg_TW := fg_t3 139 rfl rfl
theorem vk_Mmin : (.code Lib.Math.min.name Lib.Math.min.code 2 (some .int) : Cond) ∈ fg_TW := fg_t2 40 rfl rfl
theorem vk_Mmax : (.code Lib.Math.max.name Lib.Math.max.code 2 (some .int) : Cond) ∈ fg_TW := fg_t2 43 rfl rfl
theorem vu_X0 : ∀ w ∈ u_ws RX0 TX0 3, w ∈ fg_TW := by
  intro w hw
  have h : ∀ w ∈ u_ws RX0 TX0 3, w ∈ lw_tbl ∧ goodWord w = true := by decide +kernel
  exact fg_tm (h w hw).1 (h w hw).2
theorem vu_X1 : ∀ w ∈ u_ws RX1 TX1 7, w ∈ fg_TW := by
  intro w hw
  have h : ∀ w ∈ u_ws RX1 TX1 7, w ∈ lw_tbl ∧ goodWord w = true := by decide +kernel
  exact fg_tm (h w hw).1 (h w hw).2
theorem vu_X2 : ∀ w ∈ u_ws RX2 TX2 16, w ∈ fg_TW := by
  intro w hw
  have h : ∀ w ∈ u_ws RX2 TX2 16, w ∈ lw_tbl ∧ goodWord w = true := by decide +kernel
  exact fg_tm (h w hw).1 (h w hw).2
theorem vu_X3 : ∀ w ∈ u_ws RX3 TX3 7, w ∈ fg_TW := by
  intro w hw
  have h : ∀ w ∈ u_ws RX3 TX3 7, w ∈ lw_tbl ∧ goodWord w = true := by decide +kernel
  exact fg_tm (h w hw).1 (h w hw).2
theorem vu_X4 : ∀ w ∈ u_ws RX4 TX4 22, w ∈ fg_TW := by
  intro w hw
  have h : ∀ w ∈ u_ws RX4 TX4 22, w ∈ lw_tbl ∧ goodWord w = true := by decide +kernel
  exact fg_tm (h w hw).1 (h w hw).2
theorem vd_X3_init : yX3_init.cls = RX3 ∧ yX3_init.cls ≠ "java/lang/invoke/MethodHandle" ∧ yX3_init.cls ≠ "java/lang/invoke/VarHandle" ∧ (parseMethodDescriptor yX3_init.desc).map (fun d => d.parameters.length) = some 0 := by decide +kernel
theorem vd_X2_init : yX2_init.cls = RX2 ∧ yX2_init.cls ≠ "java/lang/invoke/MethodHandle" ∧ yX2_init.cls ≠ "java/lang/invoke/VarHandle" ∧ (parseMethodDescriptor yX2_init.desc).map (fun d => d.parameters.length) = some 0 := by decide +kernel
theorem vd_X1_init : yX1_init.cls = RX1 ∧ yX1_init.cls ≠ "java/lang/invoke/MethodHandle" ∧ yX1_init.cls ≠ "java/lang/invoke/VarHandle" ∧ (parseMethodDescriptor yX1_init.desc).map (fun d => d.parameters.length) = some 0 := by decide +kernel
theorem vd_X0_init : yX0_init.cls = RX0 ∧ yX0_init.cls ≠ "java/lang/invoke/MethodHandle" ∧ yX0_init.cls ≠ "java/lang/invoke/VarHandle" ∧ (parseMethodDescriptor yX0_init.desc).map (fun d => d.parameters.length) = some 0 := by decide +kernel
theorem vd_X3_lot : yX3_lot.cls = RX3 ∧ yX3_lot.cls ≠ "java/lang/invoke/MethodHandle" ∧ yX3_lot.cls ≠ "java/lang/invoke/VarHandle" ∧ (parseMethodDescriptor yX3_lot.desc).map (fun d => d.parameters.length) = some 3 := by decide +kernel
theorem vd_X3_isLot : yX3_isLot.cls = RX3 ∧ yX3_isLot.cls ≠ "java/lang/invoke/MethodHandle" ∧ yX3_isLot.cls ≠ "java/lang/invoke/VarHandle" ∧ (parseMethodDescriptor yX3_isLot.desc).map (fun d => d.parameters.length) = some 1 := by decide +kernel
theorem vd_X3_finding : yX3_finding.cls = RX3 ∧ yX3_finding.cls ≠ "java/lang/invoke/MethodHandle" ∧ yX3_finding.cls ≠ "java/lang/invoke/VarHandle" ∧ (parseMethodDescriptor yX3_finding.desc).map (fun d => d.parameters.length) = some 1 := by decide +kernel
theorem vd_X3_within : yX3_within.cls = RX3 ∧ yX3_within.cls ≠ "java/lang/invoke/MethodHandle" ∧ yX3_within.cls ≠ "java/lang/invoke/VarHandle" ∧ (parseMethodDescriptor yX3_within.desc).map (fun d => d.parameters.length) = some 3 := by decide +kernel
theorem vd_X3_exchange : yX3_exchange.cls = RX3 ∧ yX3_exchange.cls ≠ "java/lang/invoke/MethodHandle" ∧ yX3_exchange.cls ≠ "java/lang/invoke/VarHandle" ∧ (parseMethodDescriptor yX3_exchange.desc).map (fun d => d.parameters.length) = some 3 := by decide +kernel
theorem vd_X2_isPerson : yX2_isPerson.cls = RX2 ∧ yX2_isPerson.cls ≠ "java/lang/invoke/MethodHandle" ∧ yX2_isPerson.cls ≠ "java/lang/invoke/VarHandle" ∧ (parseMethodDescriptor yX2_isPerson.desc).map (fun d => d.parameters.length) = some 1 := by decide +kernel
theorem vd_X3_lotOf : yX3_lotOf.cls = RX3 ∧ yX3_lotOf.cls ≠ "java/lang/invoke/MethodHandle" ∧ yX3_lotOf.cls ≠ "java/lang/invoke/VarHandle" ∧ (parseMethodDescriptor yX3_lotOf.desc).map (fun d => d.parameters.length) = some 2 := by decide +kernel
theorem vd_X2_thoseOn : yX2_thoseOn.cls = RX2 ∧ yX2_thoseOn.cls ≠ "java/lang/invoke/MethodHandle" ∧ yX2_thoseOn.cls ≠ "java/lang/invoke/VarHandle" ∧ (parseMethodDescriptor yX2_thoseOn.desc).map (fun d => d.parameters.length) = some 1 := by decide +kernel
theorem vd_X2_thoseStanding : yX2_thoseStanding.cls = RX2 ∧ yX2_thoseStanding.cls ≠ "java/lang/invoke/MethodHandle" ∧ yX2_thoseStanding.cls ≠ "java/lang/invoke/VarHandle" ∧ (parseMethodDescriptor yX2_thoseStanding.desc).map (fun d => d.parameters.length) = some 1 := by decide +kernel
theorem vd_X2_stands : yX2_stands.cls = RX2 ∧ yX2_stands.cls ≠ "java/lang/invoke/MethodHandle" ∧ yX2_stands.cls ≠ "java/lang/invoke/VarHandle" ∧ (parseMethodDescriptor yX2_stands.desc).map (fun d => d.parameters.length) = some 2 := by decide +kernel
theorem vd_X2_trustOf : yX2_trustOf.cls = RX2 ∧ yX2_trustOf.cls ≠ "java/lang/invoke/MethodHandle" ∧ yX2_trustOf.cls ≠ "java/lang/invoke/VarHandle" ∧ (parseMethodDescriptor yX2_trustOf.desc).map (fun d => d.parameters.length) = some 2 := by decide +kernel
theorem vd_X3_sun : yX3_sun.cls = RX3 ∧ yX3_sun.cls ≠ "java/lang/invoke/MethodHandle" ∧ yX3_sun.cls ≠ "java/lang/invoke/VarHandle" ∧ (parseMethodDescriptor yX3_sun.desc).map (fun d => d.parameters.length) = some 2 := by decide +kernel
theorem vd_X3_mist : yX3_mist.cls = RX3 ∧ yX3_mist.cls ≠ "java/lang/invoke/MethodHandle" ∧ yX3_mist.cls ≠ "java/lang/invoke/VarHandle" ∧ (parseMethodDescriptor yX3_mist.desc).map (fun d => d.parameters.length) = some 1 := by decide +kernel
theorem vd_X3_person : yX3_person.cls = RX3 ∧ yX3_person.cls ≠ "java/lang/invoke/MethodHandle" ∧ yX3_person.cls ≠ "java/lang/invoke/VarHandle" ∧ (parseMethodDescriptor yX3_person.desc).map (fun d => d.parameters.length) = some 1 := by decide +kernel
theorem vd_X3_isKind : yX3_isKind.cls = RX3 ∧ yX3_isKind.cls ≠ "java/lang/invoke/MethodHandle" ∧ yX3_isKind.cls ≠ "java/lang/invoke/VarHandle" ∧ (parseMethodDescriptor yX3_isKind.desc).map (fun d => d.parameters.length) = some 1 := by decide +kernel
theorem vd_X2_add : yX2_add.cls = RX2 ∧ yX2_add.cls ≠ "java/lang/invoke/MethodHandle" ∧ yX2_add.cls ≠ "java/lang/invoke/VarHandle" ∧ (parseMethodDescriptor yX2_add.desc).map (fun d => d.parameters.length) = some 1 := by decide +kernel
theorem vd_X3_of : yX3_of.cls = RX3 ∧ yX3_of.cls ≠ "java/lang/invoke/MethodHandle" ∧ yX3_of.cls ≠ "java/lang/invoke/VarHandle" ∧ (parseMethodDescriptor yX3_of.desc).map (fun d => d.parameters.length) = some 2 := by decide +kernel
theorem vd_X3_losesOf : yX3_losesOf.cls = RX3 ∧ yX3_losesOf.cls ≠ "java/lang/invoke/MethodHandle" ∧ yX3_losesOf.cls ≠ "java/lang/invoke/VarHandle" ∧ (parseMethodDescriptor yX3_losesOf.desc).map (fun d => d.parameters.length) = some 1 := by decide +kernel
theorem vd_X2_lotMadeFor : yX2_lotMadeFor.cls = RX2 ∧ yX2_lotMadeFor.cls ≠ "java/lang/invoke/MethodHandle" ∧ yX2_lotMadeFor.cls ≠ "java/lang/invoke/VarHandle" ∧ (parseMethodDescriptor yX2_lotMadeFor.desc).map (fun d => d.parameters.length) = some 1 := by decide +kernel
theorem vd_X2_prefers : yX2_prefers.cls = RX2 ∧ yX2_prefers.cls ≠ "java/lang/invoke/MethodHandle" ∧ yX2_prefers.cls ≠ "java/lang/invoke/VarHandle" ∧ (parseMethodDescriptor yX2_prefers.desc).map (fun d => d.parameters.length) = some 3 := by decide +kernel
theorem vd_X2_lotsOwnedBy : yX2_lotsOwnedBy.cls = RX2 ∧ yX2_lotsOwnedBy.cls ≠ "java/lang/invoke/MethodHandle" ∧ yX2_lotsOwnedBy.cls ≠ "java/lang/invoke/VarHandle" ∧ (parseMethodDescriptor yX2_lotsOwnedBy.desc).map (fun d => d.parameters.length) = some 1 := by decide +kernel
theorem vd_X2_valueOf : yX2_valueOf.cls = RX2 ∧ yX2_valueOf.cls ≠ "java/lang/invoke/MethodHandle" ∧ yX2_valueOf.cls ≠ "java/lang/invoke/VarHandle" ∧ (parseMethodDescriptor yX2_valueOf.desc).map (fun d => d.parameters.length) = some 2 := by decide +kernel
theorem vd_X3_change : yX3_change.cls = RX3 ∧ yX3_change.cls ≠ "java/lang/invoke/MethodHandle" ∧ yX3_change.cls ≠ "java/lang/invoke/VarHandle" ∧ (parseMethodDescriptor yX3_change.desc).map (fun d => d.parameters.length) = some 3 := by decide +kernel
theorem vd_X3_trust : yX3_trust.cls = RX3 ∧ yX3_trust.cls ≠ "java/lang/invoke/MethodHandle" ∧ yX3_trust.cls ≠ "java/lang/invoke/VarHandle" ∧ (parseMethodDescriptor yX3_trust.desc).map (fun d => d.parameters.length) = some 2 := by decide +kernel
theorem vd_X3_go : yX3_go.cls = RX3 ∧ yX3_go.cls ≠ "java/lang/invoke/MethodHandle" ∧ yX3_go.cls ≠ "java/lang/invoke/VarHandle" ∧ (parseMethodDescriptor yX3_go.desc).map (fun d => d.parameters.length) = some 1 := by decide +kernel
theorem vd_X2_passDays : yX2_passDays.cls = RX2 ∧ yX2_passDays.cls ≠ "java/lang/invoke/MethodHandle" ∧ yX2_passDays.cls ≠ "java/lang/invoke/VarHandle" ∧ (parseMethodDescriptor yX2_passDays.desc).map (fun d => d.parameters.length) = some 1 := by decide +kernel
theorem vd_X2_thinAndThicken : yX2_thinAndThicken.cls = RX2 ∧ yX2_thinAndThicken.cls ≠ "java/lang/invoke/MethodHandle" ∧ yX2_thinAndThicken.cls ≠ "java/lang/invoke/VarHandle" ∧ (parseMethodDescriptor yX2_thinAndThicken.desc).map (fun d => d.parameters.length) = some 0 := by decide +kernel
theorem vd_J9_min_7cf53 : yJ9_min_7cf53.cls = RJ9 ∧ yJ9_min_7cf53.cls ≠ "java/lang/invoke/MethodHandle" ∧ yJ9_min_7cf53.cls ≠ "java/lang/invoke/VarHandle" ∧ (parseMethodDescriptor yJ9_min_7cf53.desc).map (fun d => d.parameters.length) = some 2 := by decide +kernel
theorem vd_J9_max_7cf53 : yJ9_max_7cf53.cls = RJ9 ∧ yJ9_max_7cf53.cls ≠ "java/lang/invoke/MethodHandle" ∧ yJ9_max_7cf53.cls ≠ "java/lang/invoke/VarHandle" ∧ (parseMethodDescriptor yJ9_max_7cf53.desc).map (fun d => d.parameters.length) = some 2 := by decide +kernel
theorem vd_X2_spreadFog : yX2_spreadFog.cls = RX2 ∧ yX2_spreadFog.cls ≠ "java/lang/invoke/MethodHandle" ∧ yX2_spreadFog.cls ≠ "java/lang/invoke/VarHandle" ∧ (parseMethodDescriptor yX2_spreadFog.desc).map (fun d => d.parameters.length) = some 0 := by decide +kernel
theorem vd_X2_movePeople : yX2_movePeople.cls = RX2 ∧ yX2_movePeople.cls ≠ "java/lang/invoke/MethodHandle" ∧ yX2_movePeople.cls ≠ "java/lang/invoke/VarHandle" ∧ (parseMethodDescriptor yX2_movePeople.desc).map (fun d => d.parameters.length) = some 0 := by decide +kernel
theorem vd_X2_isGone : yX2_isGone.cls = RX2 ∧ yX2_isGone.cls ≠ "java/lang/invoke/MethodHandle" ∧ yX2_isGone.cls ≠ "java/lang/invoke/VarHandle" ∧ (parseMethodDescriptor yX2_isGone.desc).map (fun d => d.parameters.length) = some 1 := by decide +kernel
theorem vd_X2_fall : yX2_fall.cls = RX2 ∧ yX2_fall.cls ≠ "java/lang/invoke/MethodHandle" ∧ yX2_fall.cls ≠ "java/lang/invoke/VarHandle" ∧ (parseMethodDescriptor yX2_fall.desc).map (fun d => d.parameters.length) = some 1 := by decide +kernel
theorem vd_X2_payRents : yX2_payRents.cls = RX2 ∧ yX2_payRents.cls ≠ "java/lang/invoke/MethodHandle" ∧ yX2_payRents.cls ≠ "java/lang/invoke/VarHandle" ∧ (parseMethodDescriptor yX2_payRents.desc).map (fun d => d.parameters.length) = some 0 := by decide +kernel
theorem vd_X2_spreadBelief : yX2_spreadBelief.cls = RX2 ∧ yX2_spreadBelief.cls ≠ "java/lang/invoke/MethodHandle" ∧ yX2_spreadBelief.cls ≠ "java/lang/invoke/VarHandle" ∧ (parseMethodDescriptor yX2_spreadBelief.desc).map (fun d => d.parameters.length) = some 0 := by decide +kernel
theorem vd_X2_greatestBeliefBeside : yX2_greatestBeliefBeside.cls = RX2 ∧ yX2_greatestBeliefBeside.cls ≠ "java/lang/invoke/MethodHandle" ∧ yX2_greatestBeliefBeside.cls ≠ "java/lang/invoke/VarHandle" ∧ (parseMethodDescriptor yX2_greatestBeliefBeside.desc).map (fun d => d.parameters.length) = some 1 := by decide +kernel
theorem vd_X2_thoseOnLots : yX2_thoseOnLots.cls = RX2 ∧ yX2_thoseOnLots.cls ≠ "java/lang/invoke/MethodHandle" ∧ yX2_thoseOnLots.cls ≠ "java/lang/invoke/VarHandle" ∧ (parseMethodDescriptor yX2_thoseOnLots.desc).map (fun d => d.parameters.length) = some 0 := by decide +kernel
theorem vd_X3_now : yX3_now.cls = RX3 ∧ yX3_now.cls ≠ "java/lang/invoke/MethodHandle" ∧ yX3_now.cls ≠ "java/lang/invoke/VarHandle" ∧ (parseMethodDescriptor yX3_now.desc).map (fun d => d.parameters.length) = some 1 := by decide +kernel
theorem vd_X3_sumOf : yX3_sumOf.cls = RX3 ∧ yX3_sumOf.cls ≠ "java/lang/invoke/MethodHandle" ∧ yX3_sumOf.cls ≠ "java/lang/invoke/VarHandle" ∧ (parseMethodDescriptor yX3_sumOf.desc).map (fun d => d.parameters.length) = some 2 := by decide +kernel
theorem vd_X3_firstGreatest : yX3_firstGreatest.cls = RX3 ∧ yX3_firstGreatest.cls ≠ "java/lang/invoke/MethodHandle" ∧ yX3_firstGreatest.cls ≠ "java/lang/invoke/VarHandle" ∧ (parseMethodDescriptor yX3_firstGreatest.desc).map (fun d => d.parameters.length) = some 2 := by decide +kernel
theorem vd_X3_ahead : yX3_ahead.cls = RX3 ∧ yX3_ahead.cls ≠ "java/lang/invoke/MethodHandle" ∧ yX3_ahead.cls ≠ "java/lang/invoke/VarHandle" ∧ (parseMethodDescriptor yX3_ahead.desc).map (fun d => d.parameters.length) = some 3 := by decide +kernel
theorem vd_X2_become : yX2_become.cls = RX2 ∧ yX2_become.cls ≠ "java/lang/invoke/MethodHandle" ∧ yX2_become.cls ≠ "java/lang/invoke/VarHandle" ∧ (parseMethodDescriptor yX2_become.desc).map (fun d => d.parameters.length) = some 1 := by decide +kernel
theorem vd_X3_fog : yX3_fog.cls = RX3 ∧ yX3_fog.cls ≠ "java/lang/invoke/MethodHandle" ∧ yX3_fog.cls ≠ "java/lang/invoke/VarHandle" ∧ (parseMethodDescriptor yX3_fog.desc).map (fun d => d.parameters.length) = some 2 := by decide +kernel
theorem vd_X3_falls : yX3_falls.cls = RX3 ∧ yX3_falls.cls ≠ "java/lang/invoke/MethodHandle" ∧ yX3_falls.cls ≠ "java/lang/invoke/VarHandle" ∧ (parseMethodDescriptor yX3_falls.desc).map (fun d => d.parameters.length) = some 1 := by decide +kernel
theorem vd_X3_bare : yX3_bare.cls = RX3 ∧ yX3_bare.cls ≠ "java/lang/invoke/MethodHandle" ∧ yX3_bare.cls ≠ "java/lang/invoke/VarHandle" ∧ (parseMethodDescriptor yX3_bare.desc).map (fun d => d.parameters.length) = some 0 := by decide +kernel
theorem vd_X3_meet : yX3_meet.cls = RX3 ∧ yX3_meet.cls ≠ "java/lang/invoke/MethodHandle" ∧ yX3_meet.cls ≠ "java/lang/invoke/VarHandle" ∧ (parseMethodDescriptor yX3_meet.desc).map (fun d => d.parameters.length) = some 2 := by decide +kernel
theorem vd_X3_beliefFor : yX3_beliefFor.cls = RX3 ∧ yX3_beliefFor.cls ≠ "java/lang/invoke/MethodHandle" ∧ yX3_beliefFor.cls ≠ "java/lang/invoke/VarHandle" ∧ (parseMethodDescriptor yX3_beliefFor.desc).map (fun d => d.parameters.length) = some 2 := by decide +kernel
theorem vd_X3_settle : yX3_settle.cls = RX3 ∧ yX3_settle.cls ≠ "java/lang/invoke/MethodHandle" ∧ yX3_settle.cls ≠ "java/lang/invoke/VarHandle" ∧ (parseMethodDescriptor yX3_settle.desc).map (fun d => d.parameters.length) = some 2 := by decide +kernel
theorem vd_X3_kindFor : yX3_kindFor.cls = RX3 ∧ yX3_kindFor.cls ≠ "java/lang/invoke/MethodHandle" ∧ yX3_kindFor.cls ≠ "java/lang/invoke/VarHandle" ∧ (parseMethodDescriptor yX3_kindFor.desc).map (fun d => d.parameters.length) = some 2 := by decide +kernel
theorem vd_X3_rentFor : yX3_rentFor.cls = RX3 ∧ yX3_rentFor.cls ≠ "java/lang/invoke/MethodHandle" ∧ yX3_rentFor.cls ≠ "java/lang/invoke/VarHandle" ∧ (parseMethodDescriptor yX3_rentFor.desc).map (fun d => d.parameters.length) = some 2 := by decide +kernel
theorem vd_X3_sunFor : yX3_sunFor.cls = RX3 ∧ yX3_sunFor.cls ≠ "java/lang/invoke/MethodHandle" ∧ yX3_sunFor.cls ≠ "java/lang/invoke/VarHandle" ∧ (parseMethodDescriptor yX3_sunFor.desc).map (fun d => d.parameters.length) = some 1 := by decide +kernel
theorem vd_X3_away : yX3_away.cls = RX3 ∧ yX3_away.cls ≠ "java/lang/invoke/MethodHandle" ∧ yX3_away.cls ≠ "java/lang/invoke/VarHandle" ∧ (parseMethodDescriptor yX3_away.desc).map (fun d => d.parameters.length) = some 2 := by decide +kernel
theorem vd_J6_bitCount_0f7a4 : yJ6_bitCount_0f7a4.cls = RJ6 ∧ yJ6_bitCount_0f7a4.cls ≠ "java/lang/invoke/MethodHandle" ∧ yJ6_bitCount_0f7a4.cls ≠ "java/lang/invoke/VarHandle" ∧ (parseMethodDescriptor yJ6_bitCount_0f7a4.desc).map (fun d => d.parameters.length) = some 1 := by decide +kernel
theorem vd_X2_sendAway : yX2_sendAway.cls = RX2 ∧ yX2_sendAway.cls ≠ "java/lang/invoke/MethodHandle" ∧ yX2_sendAway.cls ≠ "java/lang/invoke/VarHandle" ∧ (parseMethodDescriptor yX2_sendAway.desc).map (fun d => d.parameters.length) = some 1 := by decide +kernel
theorem vd_X3_fits : yX3_fits.cls = RX3 ∧ yX3_fits.cls ≠ "java/lang/invoke/MethodHandle" ∧ yX3_fits.cls ≠ "java/lang/invoke/VarHandle" ∧ (parseMethodDescriptor yX3_fits.desc).map (fun d => d.parameters.length) = some 2 := by decide +kernel
theorem vd_X3_faultOfTold : yX3_faultOfTold.cls = RX3 ∧ yX3_faultOfTold.cls ≠ "java/lang/invoke/MethodHandle" ∧ yX3_faultOfTold.cls ≠ "java/lang/invoke/VarHandle" ∧ (parseMethodDescriptor yX3_faultOfTold.desc).map (fun d => d.parameters.length) = some 2 := by decide +kernel
theorem vd_X3_isSheet : yX3_isSheet.cls = RX3 ∧ yX3_isSheet.cls ≠ "java/lang/invoke/MethodHandle" ∧ yX3_isSheet.cls ≠ "java/lang/invoke/VarHandle" ∧ (parseMethodDescriptor yX3_isSheet.desc).map (fun d => d.parameters.length) = some 1 := by decide +kernel
theorem vd_X0_isMissing : yX0_isMissing.cls = RX0 ∧ yX0_isMissing.cls ≠ "java/lang/invoke/MethodHandle" ∧ yX0_isMissing.cls ≠ "java/lang/invoke/VarHandle" ∧ (parseMethodDescriptor yX0_isMissing.desc).map (fun d => d.parameters.length) = some 0 := by decide +kernel
theorem vd_X3_goesAsTold : yX3_goesAsTold.cls = RX3 ∧ yX3_goesAsTold.cls ≠ "java/lang/invoke/MethodHandle" ∧ yX3_goesAsTold.cls ≠ "java/lang/invoke/VarHandle" ∧ (parseMethodDescriptor yX3_goesAsTold.desc).map (fun d => d.parameters.length) = some 2 := by decide +kernel
theorem vd_X3_believed : yX3_believed.cls = RX3 ∧ yX3_believed.cls ≠ "java/lang/invoke/MethodHandle" ∧ yX3_believed.cls ≠ "java/lang/invoke/VarHandle" ∧ (parseMethodDescriptor yX3_believed.desc).map (fun d => d.parameters.length) = some 2 := by decide +kernel
theorem vd_X3_kinds : yX3_kinds.cls = RX3 ∧ yX3_kinds.cls ≠ "java/lang/invoke/MethodHandle" ∧ yX3_kinds.cls ≠ "java/lang/invoke/VarHandle" ∧ (parseMethodDescriptor yX3_kinds.desc).map (fun d => d.parameters.length) = some 2 := by decide +kernel
theorem vd_X3_fine : yX3_fine.cls = RX3 ∧ yX3_fine.cls ≠ "java/lang/invoke/MethodHandle" ∧ yX3_fine.cls ≠ "java/lang/invoke/VarHandle" ∧ (parseMethodDescriptor yX3_fine.desc).map (fun d => d.parameters.length) = some 1 := by decide +kernel
theorem vd_X2_draw : yX2_draw.cls = RX2 ∧ yX2_draw.cls ≠ "java/lang/invoke/MethodHandle" ∧ yX2_draw.cls ≠ "java/lang/invoke/VarHandle" ∧ (parseMethodDescriptor yX2_draw.desc).map (fun d => d.parameters.length) = some 0 := by decide +kernel
theorem vd_X3_odds : yX3_odds.cls = RX3 ∧ yX3_odds.cls ≠ "java/lang/invoke/MethodHandle" ∧ yX3_odds.cls ≠ "java/lang/invoke/VarHandle" ∧ (parseMethodDescriptor yX3_odds.desc).map (fun d => d.parameters.length) = some 3 := by decide +kernel
theorem vd_X3_greatestCommon : yX3_greatestCommon.cls = RX3 ∧ yX3_greatestCommon.cls ≠ "java/lang/invoke/MethodHandle" ∧ yX3_greatestCommon.cls ≠ "java/lang/invoke/VarHandle" ∧ (parseMethodDescriptor yX3_greatestCommon.desc).map (fun d => d.parameters.length) = some 2 := by decide +kernel
theorem vd_X3_seed : yX3_seed.cls = RX3 ∧ yX3_seed.cls ≠ "java/lang/invoke/MethodHandle" ∧ yX3_seed.cls ≠ "java/lang/invoke/VarHandle" ∧ (parseMethodDescriptor yX3_seed.desc).map (fun d => d.parameters.length) = some 1 := by decide +kernel
theorem vd_X3_feed : yX3_feed.cls = RX3 ∧ yX3_feed.cls ≠ "java/lang/invoke/MethodHandle" ∧ yX3_feed.cls ≠ "java/lang/invoke/VarHandle" ∧ (parseMethodDescriptor yX3_feed.desc).map (fun d => d.parameters.length) = some 2 := by decide +kernel
theorem vd_X1_append : yX1_append.cls = RX1 ∧ yX1_append.cls ≠ "java/lang/invoke/MethodHandle" ∧ yX1_append.cls ≠ "java/lang/invoke/VarHandle" ∧ (parseMethodDescriptor yX1_append.desc).map (fun d => d.parameters.length) = some 1 := by decide +kernel
theorem vd_X3_wipe : yX3_wipe.cls = RX3 ∧ yX3_wipe.cls ≠ "java/lang/invoke/MethodHandle" ∧ yX3_wipe.cls ≠ "java/lang/invoke/VarHandle" ∧ (parseMethodDescriptor yX3_wipe.desc).map (fun d => d.parameters.length) = some 0 := by decide +kernel
theorem vd_X3_text : yX3_text.cls = RX3 ∧ yX3_text.cls ≠ "java/lang/invoke/MethodHandle" ∧ yX3_text.cls ≠ "java/lang/invoke/VarHandle" ∧ (parseMethodDescriptor yX3_text.desc).map (fun d => d.parameters.length) = some 0 := by decide +kernel
theorem vd_X1_tellTo : yX1_tellTo.cls = RX1 ∧ yX1_tellTo.cls ≠ "java/lang/invoke/MethodHandle" ∧ yX1_tellTo.cls ≠ "java/lang/invoke/VarHandle" ∧ (parseMethodDescriptor yX1_tellTo.desc).map (fun d => d.parameters.length) = some 1 := by decide +kernel
theorem vd_X1_nextToken : yX1_nextToken.cls = RX1 ∧ yX1_nextToken.cls ≠ "java/lang/invoke/MethodHandle" ∧ yX1_nextToken.cls ≠ "java/lang/invoke/VarHandle" ∧ (parseMethodDescriptor yX1_nextToken.desc).map (fun d => d.parameters.length) = some 0 := by decide +kernel
theorem vd_X1_isLetter : yX1_isLetter.cls = RX1 ∧ yX1_isLetter.cls ≠ "java/lang/invoke/MethodHandle" ∧ yX1_isLetter.cls ≠ "java/lang/invoke/VarHandle" ∧ (parseMethodDescriptor yX1_isLetter.desc).map (fun d => d.parameters.length) = some 1 := by decide +kernel
theorem vd_X1_readWord : yX1_readWord.cls = RX1 ∧ yX1_readWord.cls ≠ "java/lang/invoke/MethodHandle" ∧ yX1_readWord.cls ≠ "java/lang/invoke/VarHandle" ∧ (parseMethodDescriptor yX1_readWord.desc).map (fun d => d.parameters.length) = some 0 := by decide +kernel
theorem vd_X1_isDigit : yX1_isDigit.cls = RX1 ∧ yX1_isDigit.cls ≠ "java/lang/invoke/MethodHandle" ∧ yX1_isDigit.cls ≠ "java/lang/invoke/VarHandle" ∧ (parseMethodDescriptor yX1_isDigit.desc).map (fun d => d.parameters.length) = some 1 := by decide +kernel
theorem vd_X1_readNumber : yX1_readNumber.cls = RX1 ∧ yX1_readNumber.cls ≠ "java/lang/invoke/MethodHandle" ∧ yX1_readNumber.cls ≠ "java/lang/invoke/VarHandle" ∧ (parseMethodDescriptor yX1_readNumber.desc).map (fun d => d.parameters.length) = some 0 := by decide +kernel
theorem vd_X1_tellItem : yX1_tellItem.cls = RX1 ∧ yX1_tellItem.cls ≠ "java/lang/invoke/MethodHandle" ∧ yX1_tellItem.cls ≠ "java/lang/invoke/VarHandle" ∧ (parseMethodDescriptor yX1_tellItem.desc).map (fun d => d.parameters.length) = some 1 := by decide +kernel
theorem vd_X1_kindOfWord : yX1_kindOfWord.cls = RX1 ∧ yX1_kindOfWord.cls ≠ "java/lang/invoke/MethodHandle" ∧ yX1_kindOfWord.cls ≠ "java/lang/invoke/VarHandle" ∧ (parseMethodDescriptor yX1_kindOfWord.desc).map (fun d => d.parameters.length) = some 0 := by decide +kernel
theorem vd_X1_isWord : yX1_isWord.cls = RX1 ∧ yX1_isWord.cls ≠ "java/lang/invoke/MethodHandle" ∧ yX1_isWord.cls ≠ "java/lang/invoke/VarHandle" ∧ (parseMethodDescriptor yX1_isWord.desc).map (fun d => d.parameters.length) = some 1 := by decide +kernel
theorem vd_X1_tellPerson : yX1_tellPerson.cls = RX1 ∧ yX1_tellPerson.cls ≠ "java/lang/invoke/MethodHandle" ∧ yX1_tellPerson.cls ≠ "java/lang/invoke/VarHandle" ∧ (parseMethodDescriptor yX1_tellPerson.desc).map (fun d => d.parameters.length) = some 2 := by decide +kernel
theorem vd_X1_faultHere : yX1_faultHere.cls = RX1 ∧ yX1_faultHere.cls ≠ "java/lang/invoke/MethodHandle" ∧ yX1_faultHere.cls ≠ "java/lang/invoke/VarHandle" ∧ (parseMethodDescriptor yX1_faultHere.desc).map (fun d => d.parameters.length) = some 0 := by decide +kernel
theorem vd_X1_took : yX1_took.cls = RX1 ∧ yX1_took.cls ≠ "java/lang/invoke/MethodHandle" ∧ yX1_took.cls ≠ "java/lang/invoke/VarHandle" ∧ (parseMethodDescriptor yX1_took.desc).map (fun d => d.parameters.length) = some 1 := by decide +kernel
theorem vd_X1_takeNumber : yX1_takeNumber.cls = RX1 ∧ yX1_takeNumber.cls ≠ "java/lang/invoke/MethodHandle" ∧ yX1_takeNumber.cls ≠ "java/lang/invoke/VarHandle" ∧ (parseMethodDescriptor yX1_takeNumber.desc).map (fun d => d.parameters.length) = some 1 := by decide +kernel
theorem vd_X1_tellLot : yX1_tellLot.cls = RX1 ∧ yX1_tellLot.cls ≠ "java/lang/invoke/MethodHandle" ∧ yX1_tellLot.cls ≠ "java/lang/invoke/VarHandle" ∧ (parseMethodDescriptor yX1_tellLot.desc).map (fun d => d.parameters.length) = some 1 := by decide +kernel
theorem vd_X1_tellSun : yX1_tellSun.cls = RX1 ∧ yX1_tellSun.cls ≠ "java/lang/invoke/MethodHandle" ∧ yX1_tellSun.cls ≠ "java/lang/invoke/VarHandle" ∧ (parseMethodDescriptor yX1_tellSun.desc).map (fun d => d.parameters.length) = some 1 := by decide +kernel
theorem vd_X3_hold : yX3_hold.cls = RX3 ∧ yX3_hold.cls ≠ "java/lang/invoke/MethodHandle" ∧ yX3_hold.cls ≠ "java/lang/invoke/VarHandle" ∧ (parseMethodDescriptor yX3_hold.desc).map (fun d => d.parameters.length) = some 2 := by decide +kernel
theorem vd_X3_as : yX3_as.cls = RX3 ∧ yX3_as.cls ≠ "java/lang/invoke/MethodHandle" ∧ yX3_as.cls ≠ "java/lang/invoke/VarHandle" ∧ (parseMethodDescriptor yX3_as.desc).map (fun d => d.parameters.length) = some 2 := by decide +kernel
theorem vd_X3_isUnder : yX3_isUnder.cls = RX3 ∧ yX3_isUnder.cls ≠ "java/lang/invoke/MethodHandle" ∧ yX3_isUnder.cls ≠ "java/lang/invoke/VarHandle" ∧ (parseMethodDescriptor yX3_isUnder.desc).map (fun d => d.parameters.length) = some 2 := by decide +kernel
theorem vd_X3_kindAbove : yX3_kindAbove.cls = RX3 ∧ yX3_kindAbove.cls ≠ "java/lang/invoke/MethodHandle" ∧ yX3_kindAbove.cls ≠ "java/lang/invoke/VarHandle" ∧ (parseMethodDescriptor yX3_kindAbove.desc).map (fun d => d.parameters.length) = some 1 := by decide +kernel
theorem vd_X3_sheet : yX3_sheet.cls = RX3 ∧ yX3_sheet.cls ≠ "java/lang/invoke/MethodHandle" ∧ yX3_sheet.cls ≠ "java/lang/invoke/VarHandle" ∧ (parseMethodDescriptor yX3_sheet.desc).map (fun d => d.parameters.length) = some 3 := by decide +kernel
theorem vd_X0_begin : yX0_begin.cls = RX0 ∧ yX0_begin.cls ≠ "java/lang/invoke/MethodHandle" ∧ yX0_begin.cls ≠ "java/lang/invoke/VarHandle" ∧ (parseMethodDescriptor yX0_begin.desc).map (fun d => d.parameters.length) = some 2 := by decide +kernel
theorem vd_X3_write : yX3_write.cls = RX3 ∧ yX3_write.cls ≠ "java/lang/invoke/MethodHandle" ∧ yX3_write.cls ≠ "java/lang/invoke/VarHandle" ∧ (parseMethodDescriptor yX3_write.desc).map (fun d => d.parameters.length) = some 3 := by decide +kernel
theorem vd_X0_put : yX0_put.cls = RX0 ∧ yX0_put.cls ≠ "java/lang/invoke/MethodHandle" ∧ yX0_put.cls ≠ "java/lang/invoke/VarHandle" ∧ (parseMethodDescriptor yX0_put.desc).map (fun d => d.parameters.length) = some 2 := by decide +kernel
theorem vd_X3_copy : yX3_copy.cls = RX3 ∧ yX3_copy.cls ≠ "java/lang/invoke/MethodHandle" ∧ yX3_copy.cls ≠ "java/lang/invoke/VarHandle" ∧ (parseMethodDescriptor yX3_copy.desc).map (fun d => d.parameters.length) = some 5 := by decide +kernel
theorem vd_X0_has : yX0_has.cls = RX0 ∧ yX0_has.cls ≠ "java/lang/invoke/MethodHandle" ∧ yX0_has.cls ≠ "java/lang/invoke/VarHandle" ∧ (parseMethodDescriptor yX0_has.desc).map (fun d => d.parameters.length) = some 2 := by decide +kernel
theorem vd_X3_load : yX3_load.cls = RX3 ∧ yX3_load.cls ≠ "java/lang/invoke/MethodHandle" ∧ yX3_load.cls ≠ "java/lang/invoke/VarHandle" ∧ (parseMethodDescriptor yX3_load.desc).map (fun d => d.parameters.length) = some 1 := by decide +kernel
theorem vd_X3_judge : yX3_judge.cls = RX3 ∧ yX3_judge.cls ≠ "java/lang/invoke/MethodHandle" ∧ yX3_judge.cls ≠ "java/lang/invoke/VarHandle" ∧ (parseMethodDescriptor yX3_judge.desc).map (fun d => d.parameters.length) = some 1 := by decide +kernel
theorem vd_X3_image : yX3_image.cls = RX3 ∧ yX3_image.cls ≠ "java/lang/invoke/MethodHandle" ∧ yX3_image.cls ≠ "java/lang/invoke/VarHandle" ∧ (parseMethodDescriptor yX3_image.desc).map (fun d => d.parameters.length) = some 0 := by decide +kernel
theorem vd_X3_undo : yX3_undo.cls = RX3 ∧ yX3_undo.cls ≠ "java/lang/invoke/MethodHandle" ∧ yX3_undo.cls ≠ "java/lang/invoke/VarHandle" ∧ (parseMethodDescriptor yX3_undo.desc).map (fun d => d.parameters.length) = some 0 := by decide +kernel
theorem vd_X3_tear : yX3_tear.cls = RX3 ∧ yX3_tear.cls ≠ "java/lang/invoke/MethodHandle" ∧ yX3_tear.cls ≠ "java/lang/invoke/VarHandle" ∧ (parseMethodDescriptor yX3_tear.desc).map (fun d => d.parameters.length) = some 0 := by decide +kernel
theorem vd_X3_count : yX3_count.cls = RX3 ∧ yX3_count.cls ≠ "java/lang/invoke/MethodHandle" ∧ yX3_count.cls ≠ "java/lang/invoke/VarHandle" ∧ (parseMethodDescriptor yX3_count.desc).map (fun d => d.parameters.length) = some 1 := by decide +kernel
theorem vd_X2_spotsHeld : yX2_spotsHeld.cls = RX2 ∧ yX2_spotsHeld.cls ≠ "java/lang/invoke/MethodHandle" ∧ yX2_spotsHeld.cls ≠ "java/lang/invoke/VarHandle" ∧ (parseMethodDescriptor yX2_spotsHeld.desc).map (fun d => d.parameters.length) = some 0 := by decide +kernel
theorem vd_X3_status : yX3_status.cls = RX3 ∧ yX3_status.cls ≠ "java/lang/invoke/MethodHandle" ∧ yX3_status.cls ≠ "java/lang/invoke/VarHandle" ∧ (parseMethodDescriptor yX3_status.desc).map (fun d => d.parameters.length) = some 1 := by decide +kernel
theorem vd_X4_init : yX4_init.cls = RX4 ∧ yX4_init.cls ≠ "java/lang/invoke/MethodHandle" ∧ yX4_init.cls ≠ "java/lang/invoke/VarHandle" ∧ (parseMethodDescriptor yX4_init.desc).map (fun d => d.parameters.length) = some 0 := by decide +kernel
theorem vd_X4_lays1 : yX4_lays1.cls = RX4 ∧ yX4_lays1.cls ≠ "java/lang/invoke/MethodHandle" ∧ yX4_lays1.cls ≠ "java/lang/invoke/VarHandle" ∧ (parseMethodDescriptor yX4_lays1.desc).map (fun d => d.parameters.length) = some 3 := by decide +kernel
theorem vd_X4_lot : yX4_lot.cls = RX4 ∧ yX4_lot.cls ≠ "java/lang/invoke/MethodHandle" ∧ yX4_lot.cls ≠ "java/lang/invoke/VarHandle" ∧ (parseMethodDescriptor yX4_lot.desc).map (fun d => d.parameters.length) = some 3 := by decide +kernel
theorem vd_X4_isLot : yX4_isLot.cls = RX4 ∧ yX4_isLot.cls ≠ "java/lang/invoke/MethodHandle" ∧ yX4_isLot.cls ≠ "java/lang/invoke/VarHandle" ∧ (parseMethodDescriptor yX4_isLot.desc).map (fun d => d.parameters.length) = some 1 := by decide +kernel
theorem vd_X4_in1 : yX4_in1.cls = RX4 ∧ yX4_in1.cls ≠ "java/lang/invoke/MethodHandle" ∧ yX4_in1.cls ≠ "java/lang/invoke/VarHandle" ∧ (parseMethodDescriptor yX4_in1.desc).map (fun d => d.parameters.length) = some 3 := by decide +kernel
theorem vd_X4_no : yX4_no.cls = RX4 ∧ yX4_no.cls ≠ "java/lang/invoke/MethodHandle" ∧ yX4_no.cls ≠ "java/lang/invoke/VarHandle" ∧ (parseMethodDescriptor yX4_no.desc).map (fun d => d.parameters.length) = some 1 := by decide +kernel
theorem vd_X4_of1 : yX4_of1.cls = RX4 ∧ yX4_of1.cls ≠ "java/lang/invoke/MethodHandle" ∧ yX4_of1.cls ≠ "java/lang/invoke/VarHandle" ∧ (parseMethodDescriptor yX4_of1.desc).map (fun d => d.parameters.length) = some 2 := by decide +kernel
theorem vd_X4_lotOf : yX4_lotOf.cls = RX4 ∧ yX4_lotOf.cls ≠ "java/lang/invoke/MethodHandle" ∧ yX4_lotOf.cls ≠ "java/lang/invoke/VarHandle" ∧ (parseMethodDescriptor yX4_lotOf.desc).map (fun d => d.parameters.length) = some 2 := by decide +kernel
theorem vd_X4_whoIsOn : yX4_whoIsOn.cls = RX4 ∧ yX4_whoIsOn.cls ≠ "java/lang/invoke/MethodHandle" ∧ yX4_whoIsOn.cls ≠ "java/lang/invoke/VarHandle" ∧ (parseMethodDescriptor yX4_whoIsOn.desc).map (fun d => d.parameters.length) = some 1 := by decide +kernel
theorem vd_X4_get : yX4_get.cls = RX4 ∧ yX4_get.cls ≠ "java/lang/invoke/MethodHandle" ∧ yX4_get.cls ≠ "java/lang/invoke/VarHandle" ∧ (parseMethodDescriptor yX4_get.desc).map (fun d => d.parameters.length) = some 2 := by decide +kernel
theorem vd_X4_standing : yX4_standing.cls = RX4 ∧ yX4_standing.cls ≠ "java/lang/invoke/MethodHandle" ∧ yX4_standing.cls ≠ "java/lang/invoke/VarHandle" ∧ (parseMethodDescriptor yX4_standing.desc).map (fun d => d.parameters.length) = some 1 := by decide +kernel
theorem vd_X4_stands : yX4_stands.cls = RX4 ∧ yX4_stands.cls ≠ "java/lang/invoke/MethodHandle" ∧ yX4_stands.cls ≠ "java/lang/invoke/VarHandle" ∧ (parseMethodDescriptor yX4_stands.desc).map (fun d => d.parameters.length) = some 2 := by decide +kernel
theorem vd_X4_trustOf : yX4_trustOf.cls = RX4 ∧ yX4_trustOf.cls ≠ "java/lang/invoke/MethodHandle" ∧ yX4_trustOf.cls ≠ "java/lang/invoke/VarHandle" ∧ (parseMethodDescriptor yX4_trustOf.desc).map (fun d => d.parameters.length) = some 2 := by decide +kernel
theorem vd_X4_bits : yX4_bits.cls = RX4 ∧ yX4_bits.cls ≠ "java/lang/invoke/MethodHandle" ∧ yX4_bits.cls ≠ "java/lang/invoke/VarHandle" ∧ (parseMethodDescriptor yX4_bits.desc).map (fun d => d.parameters.length) = some 1 := by decide +kernel
theorem vd_X4_sun : yX4_sun.cls = RX4 ∧ yX4_sun.cls ≠ "java/lang/invoke/MethodHandle" ∧ yX4_sun.cls ≠ "java/lang/invoke/VarHandle" ∧ (parseMethodDescriptor yX4_sun.desc).map (fun d => d.parameters.length) = some 2 := by decide +kernel
theorem vd_X4_mist : yX4_mist.cls = RX4 ∧ yX4_mist.cls ≠ "java/lang/invoke/MethodHandle" ∧ yX4_mist.cls ≠ "java/lang/invoke/VarHandle" ∧ (parseMethodDescriptor yX4_mist.desc).map (fun d => d.parameters.length) = some 1 := by decide +kernel
theorem vd_X4_person : yX4_person.cls = RX4 ∧ yX4_person.cls ≠ "java/lang/invoke/MethodHandle" ∧ yX4_person.cls ≠ "java/lang/invoke/VarHandle" ∧ (parseMethodDescriptor yX4_person.desc).map (fun d => d.parameters.length) = some 1 := by decide +kernel
theorem vd_X4_adds : yX4_adds.cls = RX4 ∧ yX4_adds.cls ≠ "java/lang/invoke/MethodHandle" ∧ yX4_adds.cls ≠ "java/lang/invoke/VarHandle" ∧ (parseMethodDescriptor yX4_adds.desc).map (fun d => d.parameters.length) = some 1 := by decide +kernel
theorem vd_X4_puts : yX4_puts.cls = RX4 ∧ yX4_puts.cls ≠ "java/lang/invoke/MethodHandle" ∧ yX4_puts.cls ≠ "java/lang/invoke/VarHandle" ∧ (parseMethodDescriptor yX4_puts.desc).map (fun d => d.parameters.length) = some 3 := by decide +kernel
theorem vd_X4_of : yX4_of.cls = RX4 ∧ yX4_of.cls ≠ "java/lang/invoke/MethodHandle" ∧ yX4_of.cls ≠ "java/lang/invoke/VarHandle" ∧ (parseMethodDescriptor yX4_of.desc).map (fun d => d.parameters.length) = some 2 := by decide +kernel
theorem vd_X4_isPerson : yX4_isPerson.cls = RX4 ∧ yX4_isPerson.cls ≠ "java/lang/invoke/MethodHandle" ∧ yX4_isPerson.cls ≠ "java/lang/invoke/VarHandle" ∧ (parseMethodDescriptor yX4_isPerson.desc).map (fun d => d.parameters.length) = some 1 := by decide +kernel
theorem vd_X4_losesOf : yX4_losesOf.cls = RX4 ∧ yX4_losesOf.cls ≠ "java/lang/invoke/MethodHandle" ∧ yX4_losesOf.cls ≠ "java/lang/invoke/VarHandle" ∧ (parseMethodDescriptor yX4_losesOf.desc).map (fun d => d.parameters.length) = some 1 := by decide +kernel
theorem vd_X4_makesFor : yX4_makesFor.cls = RX4 ∧ yX4_makesFor.cls ≠ "java/lang/invoke/MethodHandle" ∧ yX4_makesFor.cls ≠ "java/lang/invoke/VarHandle" ∧ (parseMethodDescriptor yX4_makesFor.desc).map (fun d => d.parameters.length) = some 1 := by decide +kernel
theorem vd_X4_isBetter : yX4_isBetter.cls = RX4 ∧ yX4_isBetter.cls ≠ "java/lang/invoke/MethodHandle" ∧ yX4_isBetter.cls ≠ "java/lang/invoke/VarHandle" ∧ (parseMethodDescriptor yX4_isBetter.desc).map (fun d => d.parameters.length) = some 3 := by decide +kernel
theorem vd_X4_ownedBy : yX4_ownedBy.cls = RX4 ∧ yX4_ownedBy.cls ≠ "java/lang/invoke/MethodHandle" ∧ yX4_ownedBy.cls ≠ "java/lang/invoke/VarHandle" ∧ (parseMethodDescriptor yX4_ownedBy.desc).map (fun d => d.parameters.length) = some 1 := by decide +kernel
theorem vd_X4_change : yX4_change.cls = RX4 ∧ yX4_change.cls ≠ "java/lang/invoke/MethodHandle" ∧ yX4_change.cls ≠ "java/lang/invoke/VarHandle" ∧ (parseMethodDescriptor yX4_change.desc).map (fun d => d.parameters.length) = some 3 := by decide +kernel
theorem vd_X4_trust : yX4_trust.cls = RX4 ∧ yX4_trust.cls ≠ "java/lang/invoke/MethodHandle" ∧ yX4_trust.cls ≠ "java/lang/invoke/VarHandle" ∧ (parseMethodDescriptor yX4_trust.desc).map (fun d => d.parameters.length) = some 2 := by decide +kernel
theorem vd_X4_go : yX4_go.cls = RX4 ∧ yX4_go.cls ≠ "java/lang/invoke/MethodHandle" ∧ yX4_go.cls ≠ "java/lang/invoke/VarHandle" ∧ (parseMethodDescriptor yX4_go.desc).map (fun d => d.parameters.length) = some 1 := by decide +kernel
theorem vd_X4_goes : yX4_goes.cls = RX4 ∧ yX4_goes.cls ≠ "java/lang/invoke/MethodHandle" ∧ yX4_goes.cls ≠ "java/lang/invoke/VarHandle" ∧ (parseMethodDescriptor yX4_goes.desc).map (fun d => d.parameters.length) = some 1 := by decide +kernel
theorem vd_X4_day : yX4_day.cls = RX4 ∧ yX4_day.cls ≠ "java/lang/invoke/MethodHandle" ∧ yX4_day.cls ≠ "java/lang/invoke/VarHandle" ∧ (parseMethodDescriptor yX4_day.desc).map (fun d => d.parameters.length) = some 0 := by decide +kernel
theorem vd_X4_drifts : yX4_drifts.cls = RX4 ∧ yX4_drifts.cls ≠ "java/lang/invoke/MethodHandle" ∧ yX4_drifts.cls ≠ "java/lang/invoke/VarHandle" ∧ (parseMethodDescriptor yX4_drifts.desc).map (fun d => d.parameters.length) = some 0 := by decide +kernel
theorem vd_X4_less : yX4_less.cls = RX4 ∧ yX4_less.cls ≠ "java/lang/invoke/MethodHandle" ∧ yX4_less.cls ≠ "java/lang/invoke/VarHandle" ∧ (parseMethodDescriptor yX4_less.desc).map (fun d => d.parameters.length) = some 2 := by decide +kernel
theorem vd_X4_isAway : yX4_isAway.cls = RX4 ∧ yX4_isAway.cls ≠ "java/lang/invoke/MethodHandle" ∧ yX4_isAway.cls ≠ "java/lang/invoke/VarHandle" ∧ (parseMethodDescriptor yX4_isAway.desc).map (fun d => d.parameters.length) = some 1 := by decide +kernel
theorem vd_X4_moves : yX4_moves.cls = RX4 ∧ yX4_moves.cls ≠ "java/lang/invoke/MethodHandle" ∧ yX4_moves.cls ≠ "java/lang/invoke/VarHandle" ∧ (parseMethodDescriptor yX4_moves.desc).map (fun d => d.parameters.length) = some 1 := by decide +kernel
theorem vd_X4_pays : yX4_pays.cls = RX4 ∧ yX4_pays.cls ≠ "java/lang/invoke/MethodHandle" ∧ yX4_pays.cls ≠ "java/lang/invoke/VarHandle" ∧ (parseMethodDescriptor yX4_pays.desc).map (fun d => d.parameters.length) = some 1 := by decide +kernel
theorem vd_X4_finds : yX4_finds.cls = RX4 ∧ yX4_finds.cls ≠ "java/lang/invoke/MethodHandle" ∧ yX4_finds.cls ≠ "java/lang/invoke/VarHandle" ∧ (parseMethodDescriptor yX4_finds.desc).map (fun d => d.parameters.length) = some 1 := by decide +kernel
theorem vd_X4_onLots : yX4_onLots.cls = RX4 ∧ yX4_onLots.cls ≠ "java/lang/invoke/MethodHandle" ∧ yX4_onLots.cls ≠ "java/lang/invoke/VarHandle" ∧ (parseMethodDescriptor yX4_onLots.desc).map (fun d => d.parameters.length) = some 0 := by decide +kernel
theorem vd_X4_now : yX4_now.cls = RX4 ∧ yX4_now.cls ≠ "java/lang/invoke/MethodHandle" ∧ yX4_now.cls ≠ "java/lang/invoke/VarHandle" ∧ (parseMethodDescriptor yX4_now.desc).map (fun d => d.parameters.length) = some 1 := by decide +kernel
theorem vd_X4_fogs : yX4_fogs.cls = RX4 ∧ yX4_fogs.cls ≠ "java/lang/invoke/MethodHandle" ∧ yX4_fogs.cls ≠ "java/lang/invoke/VarHandle" ∧ (parseMethodDescriptor yX4_fogs.desc).map (fun d => d.parameters.length) = some 0 := by decide +kernel
theorem vd_X4_sumOf : yX4_sumOf.cls = RX4 ∧ yX4_sumOf.cls ≠ "java/lang/invoke/MethodHandle" ∧ yX4_sumOf.cls ≠ "java/lang/invoke/VarHandle" ∧ (parseMethodDescriptor yX4_sumOf.desc).map (fun d => d.parameters.length) = some 1 := by decide +kernel
theorem vd_X4_mostFog : yX4_mostFog.cls = RX4 ∧ yX4_mostFog.cls ≠ "java/lang/invoke/MethodHandle" ∧ yX4_mostFog.cls ≠ "java/lang/invoke/VarHandle" ∧ (parseMethodDescriptor yX4_mostFog.desc).map (fun d => d.parameters.length) = some 0 := by decide +kernel
theorem vd_X4_richest : yX4_richest.cls = RX4 ∧ yX4_richest.cls ≠ "java/lang/invoke/MethodHandle" ∧ yX4_richest.cls ≠ "java/lang/invoke/VarHandle" ∧ (parseMethodDescriptor yX4_richest.desc).map (fun d => d.parameters.length) = some 0 := by decide +kernel
theorem vd_X4_ahead : yX4_ahead.cls = RX4 ∧ yX4_ahead.cls ≠ "java/lang/invoke/MethodHandle" ∧ yX4_ahead.cls ≠ "java/lang/invoke/VarHandle" ∧ (parseMethodDescriptor yX4_ahead.desc).map (fun d => d.parameters.length) = some 3 := by decide +kernel
theorem vd_X4_setsAside : yX4_setsAside.cls = RX4 ∧ yX4_setsAside.cls ≠ "java/lang/invoke/MethodHandle" ∧ yX4_setsAside.cls ≠ "java/lang/invoke/VarHandle" ∧ (parseMethodDescriptor yX4_setsAside.desc).map (fun d => d.parameters.length) = some 0 := by decide +kernel
theorem vd_X4_laysBack : yX4_laysBack.cls = RX4 ∧ yX4_laysBack.cls ≠ "java/lang/invoke/MethodHandle" ∧ yX4_laysBack.cls ≠ "java/lang/invoke/VarHandle" ∧ (parseMethodDescriptor yX4_laysBack.desc).map (fun d => d.parameters.length) = some 0 := by decide +kernel
theorem vd_X4_fog : yX4_fog.cls = RX4 ∧ yX4_fog.cls ≠ "java/lang/invoke/MethodHandle" ∧ yX4_fog.cls ≠ "java/lang/invoke/VarHandle" ∧ (parseMethodDescriptor yX4_fog.desc).map (fun d => d.parameters.length) = some 2 := by decide +kernel
theorem vd_X4_falls : yX4_falls.cls = RX4 ∧ yX4_falls.cls ≠ "java/lang/invoke/MethodHandle" ∧ yX4_falls.cls ≠ "java/lang/invoke/VarHandle" ∧ (parseMethodDescriptor yX4_falls.desc).map (fun d => d.parameters.length) = some 1 := by decide +kernel
theorem vd_X4_firstBy : yX4_firstBy.cls = RX4 ∧ yX4_firstBy.cls ≠ "java/lang/invoke/MethodHandle" ∧ yX4_firstBy.cls ≠ "java/lang/invoke/VarHandle" ∧ (parseMethodDescriptor yX4_firstBy.desc).map (fun d => d.parameters.length) = some 3 := by decide +kernel
theorem vd_X4_isSo : yX4_isSo.cls = RX4 ∧ yX4_isSo.cls ≠ "java/lang/invoke/MethodHandle" ∧ yX4_isSo.cls ≠ "java/lang/invoke/VarHandle" ∧ (parseMethodDescriptor yX4_isSo.desc).map (fun d => d.parameters.length) = some 3 := by decide +kernel
theorem vd_X4_bare : yX4_bare.cls = RX4 ∧ yX4_bare.cls ≠ "java/lang/invoke/MethodHandle" ∧ yX4_bare.cls ≠ "java/lang/invoke/VarHandle" ∧ (parseMethodDescriptor yX4_bare.desc).map (fun d => d.parameters.length) = some 0 := by decide +kernel
theorem vd_X4_meet : yX4_meet.cls = RX4 ∧ yX4_meet.cls ≠ "java/lang/invoke/MethodHandle" ∧ yX4_meet.cls ≠ "java/lang/invoke/VarHandle" ∧ (parseMethodDescriptor yX4_meet.desc).map (fun d => d.parameters.length) = some 2 := by decide +kernel
theorem vd_X4_beliefFor : yX4_beliefFor.cls = RX4 ∧ yX4_beliefFor.cls ≠ "java/lang/invoke/MethodHandle" ∧ yX4_beliefFor.cls ≠ "java/lang/invoke/VarHandle" ∧ (parseMethodDescriptor yX4_beliefFor.desc).map (fun d => d.parameters.length) = some 2 := by decide +kernel
theorem vd_X4_isSoon : yX4_isSoon.cls = RX4 ∧ yX4_isSoon.cls ≠ "java/lang/invoke/MethodHandle" ∧ yX4_isSoon.cls ≠ "java/lang/invoke/VarHandle" ∧ (parseMethodDescriptor yX4_isSoon.desc).map (fun d => d.parameters.length) = some 1 := by decide +kernel
theorem vd_X4_thenWith : yX4_thenWith.cls = RX4 ∧ yX4_thenWith.cls ≠ "java/lang/invoke/MethodHandle" ∧ yX4_thenWith.cls ≠ "java/lang/invoke/VarHandle" ∧ (parseMethodDescriptor yX4_thenWith.desc).map (fun d => d.parameters.length) = some 5 := by decide +kernel
theorem vd_X4_settle : yX4_settle.cls = RX4 ∧ yX4_settle.cls ≠ "java/lang/invoke/MethodHandle" ∧ yX4_settle.cls ≠ "java/lang/invoke/VarHandle" ∧ (parseMethodDescriptor yX4_settle.desc).map (fun d => d.parameters.length) = some 2 := by decide +kernel
theorem vd_X4_kindFor : yX4_kindFor.cls = RX4 ∧ yX4_kindFor.cls ≠ "java/lang/invoke/MethodHandle" ∧ yX4_kindFor.cls ≠ "java/lang/invoke/VarHandle" ∧ (parseMethodDescriptor yX4_kindFor.desc).map (fun d => d.parameters.length) = some 2 := by decide +kernel
theorem vd_X4_rentFor : yX4_rentFor.cls = RX4 ∧ yX4_rentFor.cls ≠ "java/lang/invoke/MethodHandle" ∧ yX4_rentFor.cls ≠ "java/lang/invoke/VarHandle" ∧ (parseMethodDescriptor yX4_rentFor.desc).map (fun d => d.parameters.length) = some 2 := by decide +kernel
theorem vd_X4_sunFor : yX4_sunFor.cls = RX4 ∧ yX4_sunFor.cls ≠ "java/lang/invoke/MethodHandle" ∧ yX4_sunFor.cls ≠ "java/lang/invoke/VarHandle" ∧ (parseMethodDescriptor yX4_sunFor.desc).map (fun d => d.parameters.length) = some 1 := by decide +kernel
theorem vd_X4_fellBy : yX4_fellBy.cls = RX4 ∧ yX4_fellBy.cls ≠ "java/lang/invoke/MethodHandle" ∧ yX4_fellBy.cls ≠ "java/lang/invoke/VarHandle" ∧ (parseMethodDescriptor yX4_fellBy.desc).map (fun d => d.parameters.length) = some 2 := by decide +kernel
theorem vd_X4_away : yX4_away.cls = RX4 ∧ yX4_away.cls ≠ "java/lang/invoke/MethodHandle" ∧ yX4_away.cls ≠ "java/lang/invoke/VarHandle" ∧ (parseMethodDescriptor yX4_away.desc).map (fun d => d.parameters.length) = some 2 := by decide +kernel
theorem vd_X4_standsWithout : yX4_standsWithout.cls = RX4 ∧ yX4_standsWithout.cls ≠ "java/lang/invoke/MethodHandle" ∧ yX4_standsWithout.cls ≠ "java/lang/invoke/VarHandle" ∧ (parseMethodDescriptor yX4_standsWithout.desc).map (fun d => d.parameters.length) = some 3 := by decide +kernel
theorem vd_X4_fits : yX4_fits.cls = RX4 ∧ yX4_fits.cls ≠ "java/lang/invoke/MethodHandle" ∧ yX4_fits.cls ≠ "java/lang/invoke/VarHandle" ∧ (parseMethodDescriptor yX4_fits.desc).map (fun d => d.parameters.length) = some 2 := by decide +kernel
theorem vd_X4_wrongTold : yX4_wrongTold.cls = RX4 ∧ yX4_wrongTold.cls ≠ "java/lang/invoke/MethodHandle" ∧ yX4_wrongTold.cls ≠ "java/lang/invoke/VarHandle" ∧ (parseMethodDescriptor yX4_wrongTold.desc).map (fun d => d.parameters.length) = some 2 := by decide +kernel
theorem vd_X4_wrongSheet : yX4_wrongSheet.cls = RX4 ∧ yX4_wrongSheet.cls ≠ "java/lang/invoke/MethodHandle" ∧ yX4_wrongSheet.cls ≠ "java/lang/invoke/VarHandle" ∧ (parseMethodDescriptor yX4_wrongSheet.desc).map (fun d => d.parameters.length) = some 1 := by decide +kernel
theorem vd_X4_isSheet : yX4_isSheet.cls = RX4 ∧ yX4_isSheet.cls ≠ "java/lang/invoke/MethodHandle" ∧ yX4_isSheet.cls ≠ "java/lang/invoke/VarHandle" ∧ (parseMethodDescriptor yX4_isSheet.desc).map (fun d => d.parameters.length) = some 1 := by decide +kernel
theorem vd_X4_fitsAs : yX4_fitsAs.cls = RX4 ∧ yX4_fitsAs.cls ≠ "java/lang/invoke/MethodHandle" ∧ yX4_fitsAs.cls ≠ "java/lang/invoke/VarHandle" ∧ (parseMethodDescriptor yX4_fitsAs.desc).map (fun d => d.parameters.length) = some 4 := by decide +kernel
theorem vd_X4_told : yX4_told.cls = RX4 ∧ yX4_told.cls ≠ "java/lang/invoke/MethodHandle" ∧ yX4_told.cls ≠ "java/lang/invoke/VarHandle" ∧ (parseMethodDescriptor yX4_told.desc).map (fun d => d.parameters.length) = some 2 := by decide +kernel
theorem vd_X4_believed : yX4_believed.cls = RX4 ∧ yX4_believed.cls ≠ "java/lang/invoke/MethodHandle" ∧ yX4_believed.cls ≠ "java/lang/invoke/VarHandle" ∧ (parseMethodDescriptor yX4_believed.desc).map (fun d => d.parameters.length) = some 2 := by decide +kernel
theorem vd_X4_kinds : yX4_kinds.cls = RX4 ∧ yX4_kinds.cls ≠ "java/lang/invoke/MethodHandle" ∧ yX4_kinds.cls ≠ "java/lang/invoke/VarHandle" ∧ (parseMethodDescriptor yX4_kinds.desc).map (fun d => d.parameters.length) = some 2 := by decide +kernel
theorem vd_X4_fine : yX4_fine.cls = RX4 ∧ yX4_fine.cls ≠ "java/lang/invoke/MethodHandle" ∧ yX4_fine.cls ≠ "java/lang/invoke/VarHandle" ∧ (parseMethodDescriptor yX4_fine.desc).map (fun d => d.parameters.length) = some 1 := by decide +kernel
theorem vd_X4_draw : yX4_draw.cls = RX4 ∧ yX4_draw.cls ≠ "java/lang/invoke/MethodHandle" ∧ yX4_draw.cls ≠ "java/lang/invoke/VarHandle" ∧ (parseMethodDescriptor yX4_draw.desc).map (fun d => d.parameters.length) = some 0 := by decide +kernel
theorem vd_X4_odds : yX4_odds.cls = RX4 ∧ yX4_odds.cls ≠ "java/lang/invoke/MethodHandle" ∧ yX4_odds.cls ≠ "java/lang/invoke/VarHandle" ∧ (parseMethodDescriptor yX4_odds.desc).map (fun d => d.parameters.length) = some 3 := by decide +kernel
theorem vd_X4_seed : yX4_seed.cls = RX4 ∧ yX4_seed.cls ≠ "java/lang/invoke/MethodHandle" ∧ yX4_seed.cls ≠ "java/lang/invoke/VarHandle" ∧ (parseMethodDescriptor yX4_seed.desc).map (fun d => d.parameters.length) = some 1 := by decide +kernel
theorem vd_X4_feed : yX4_feed.cls = RX4 ∧ yX4_feed.cls ≠ "java/lang/invoke/MethodHandle" ∧ yX4_feed.cls ≠ "java/lang/invoke/VarHandle" ∧ (parseMethodDescriptor yX4_feed.desc).map (fun d => d.parameters.length) = some 2 := by decide +kernel
theorem vd_X4_wipe : yX4_wipe.cls = RX4 ∧ yX4_wipe.cls ≠ "java/lang/invoke/MethodHandle" ∧ yX4_wipe.cls ≠ "java/lang/invoke/VarHandle" ∧ (parseMethodDescriptor yX4_wipe.desc).map (fun d => d.parameters.length) = some 0 := by decide +kernel
theorem vd_X4_text : yX4_text.cls = RX4 ∧ yX4_text.cls ≠ "java/lang/invoke/MethodHandle" ∧ yX4_text.cls ≠ "java/lang/invoke/VarHandle" ∧ (parseMethodDescriptor yX4_text.desc).map (fun d => d.parameters.length) = some 0 := by decide +kernel
theorem vd_X4_nextToken : yX4_nextToken.cls = RX4 ∧ yX4_nextToken.cls ≠ "java/lang/invoke/MethodHandle" ∧ yX4_nextToken.cls ≠ "java/lang/invoke/VarHandle" ∧ (parseMethodDescriptor yX4_nextToken.desc).map (fun d => d.parameters.length) = some 0 := by decide +kernel
theorem vd_X4_isLetter : yX4_isLetter.cls = RX4 ∧ yX4_isLetter.cls ≠ "java/lang/invoke/MethodHandle" ∧ yX4_isLetter.cls ≠ "java/lang/invoke/VarHandle" ∧ (parseMethodDescriptor yX4_isLetter.desc).map (fun d => d.parameters.length) = some 1 := by decide +kernel
theorem vd_X4_isDigit : yX4_isDigit.cls = RX4 ∧ yX4_isDigit.cls ≠ "java/lang/invoke/MethodHandle" ∧ yX4_isDigit.cls ≠ "java/lang/invoke/VarHandle" ∧ (parseMethodDescriptor yX4_isDigit.desc).map (fun d => d.parameters.length) = some 1 := by decide +kernel
theorem vd_X4_readsItem : yX4_readsItem.cls = RX4 ∧ yX4_readsItem.cls ≠ "java/lang/invoke/MethodHandle" ∧ yX4_readsItem.cls ≠ "java/lang/invoke/VarHandle" ∧ (parseMethodDescriptor yX4_readsItem.desc).map (fun d => d.parameters.length) = some 0 := by decide +kernel
theorem vd_X4_wordOf : yX4_wordOf.cls = RX4 ∧ yX4_wordOf.cls ≠ "java/lang/invoke/MethodHandle" ∧ yX4_wordOf.cls ≠ "java/lang/invoke/VarHandle" ∧ (parseMethodDescriptor yX4_wordOf.desc).map (fun d => d.parameters.length) = some 1 := by decide +kernel
theorem vd_X4_readsPerson : yX4_readsPerson.cls = RX4 ∧ yX4_readsPerson.cls ≠ "java/lang/invoke/MethodHandle" ∧ yX4_readsPerson.cls ≠ "java/lang/invoke/VarHandle" ∧ (parseMethodDescriptor yX4_readsPerson.desc).map (fun d => d.parameters.length) = some 1 := by decide +kernel
theorem vd_X4_takesNumber : yX4_takesNumber.cls = RX4 ∧ yX4_takesNumber.cls ≠ "java/lang/invoke/MethodHandle" ∧ yX4_takesNumber.cls ≠ "java/lang/invoke/VarHandle" ∧ (parseMethodDescriptor yX4_takesNumber.desc).map (fun d => d.parameters.length) = some 2 := by decide +kernel
theorem vd_X4_readsLot : yX4_readsLot.cls = RX4 ∧ yX4_readsLot.cls ≠ "java/lang/invoke/MethodHandle" ∧ yX4_readsLot.cls ≠ "java/lang/invoke/VarHandle" ∧ (parseMethodDescriptor yX4_readsLot.desc).map (fun d => d.parameters.length) = some 0 := by decide +kernel
theorem vd_X4_readsSun : yX4_readsSun.cls = RX4 ∧ yX4_readsSun.cls ≠ "java/lang/invoke/MethodHandle" ∧ yX4_readsSun.cls ≠ "java/lang/invoke/VarHandle" ∧ (parseMethodDescriptor yX4_readsSun.desc).map (fun d => d.parameters.length) = some 1 := by decide +kernel
theorem vd_X4_hold : yX4_hold.cls = RX4 ∧ yX4_hold.cls ≠ "java/lang/invoke/MethodHandle" ∧ yX4_hold.cls ≠ "java/lang/invoke/VarHandle" ∧ (parseMethodDescriptor yX4_hold.desc).map (fun d => d.parameters.length) = some 2 := by decide +kernel
theorem vd_X4_isSpot : yX4_isSpot.cls = RX4 ∧ yX4_isSpot.cls ≠ "java/lang/invoke/MethodHandle" ∧ yX4_isSpot.cls ≠ "java/lang/invoke/VarHandle" ∧ (parseMethodDescriptor yX4_isSpot.desc).map (fun d => d.parameters.length) = some 1 := by decide +kernel
theorem vd_X4_as : yX4_as.cls = RX4 ∧ yX4_as.cls ≠ "java/lang/invoke/MethodHandle" ∧ yX4_as.cls ≠ "java/lang/invoke/VarHandle" ∧ (parseMethodDescriptor yX4_as.desc).map (fun d => d.parameters.length) = some 2 := by decide +kernel
theorem vd_X4_above : yX4_above.cls = RX4 ∧ yX4_above.cls ≠ "java/lang/invoke/MethodHandle" ∧ yX4_above.cls ≠ "java/lang/invoke/VarHandle" ∧ (parseMethodDescriptor yX4_above.desc).map (fun d => d.parameters.length) = some 1 := by decide +kernel
theorem vd_X4_sheet : yX4_sheet.cls = RX4 ∧ yX4_sheet.cls ≠ "java/lang/invoke/MethodHandle" ∧ yX4_sheet.cls ≠ "java/lang/invoke/VarHandle" ∧ (parseMethodDescriptor yX4_sheet.desc).map (fun d => d.parameters.length) = some 3 := by decide +kernel
theorem vd_X4_write : yX4_write.cls = RX4 ∧ yX4_write.cls ≠ "java/lang/invoke/MethodHandle" ∧ yX4_write.cls ≠ "java/lang/invoke/VarHandle" ∧ (parseMethodDescriptor yX4_write.desc).map (fun d => d.parameters.length) = some 3 := by decide +kernel
theorem vd_X4_copy : yX4_copy.cls = RX4 ∧ yX4_copy.cls ≠ "java/lang/invoke/MethodHandle" ∧ yX4_copy.cls ≠ "java/lang/invoke/VarHandle" ∧ (parseMethodDescriptor yX4_copy.desc).map (fun d => d.parameters.length) = some 5 := by decide +kernel
theorem vd_X4_load : yX4_load.cls = RX4 ∧ yX4_load.cls ≠ "java/lang/invoke/MethodHandle" ∧ yX4_load.cls ≠ "java/lang/invoke/VarHandle" ∧ (parseMethodDescriptor yX4_load.desc).map (fun d => d.parameters.length) = some 1 := by decide +kernel
theorem vd_X4_judge : yX4_judge.cls = RX4 ∧ yX4_judge.cls ≠ "java/lang/invoke/MethodHandle" ∧ yX4_judge.cls ≠ "java/lang/invoke/VarHandle" ∧ (parseMethodDescriptor yX4_judge.desc).map (fun d => d.parameters.length) = some 1 := by decide +kernel
theorem vd_X4_image : yX4_image.cls = RX4 ∧ yX4_image.cls ≠ "java/lang/invoke/MethodHandle" ∧ yX4_image.cls ≠ "java/lang/invoke/VarHandle" ∧ (parseMethodDescriptor yX4_image.desc).map (fun d => d.parameters.length) = some 0 := by decide +kernel
theorem vd_X4_undo : yX4_undo.cls = RX4 ∧ yX4_undo.cls ≠ "java/lang/invoke/MethodHandle" ∧ yX4_undo.cls ≠ "java/lang/invoke/VarHandle" ∧ (parseMethodDescriptor yX4_undo.desc).map (fun d => d.parameters.length) = some 0 := by decide +kernel
theorem vd_X4_tear : yX4_tear.cls = RX4 ∧ yX4_tear.cls ≠ "java/lang/invoke/MethodHandle" ∧ yX4_tear.cls ≠ "java/lang/invoke/VarHandle" ∧ (parseMethodDescriptor yX4_tear.desc).map (fun d => d.parameters.length) = some 0 := by decide +kernel
theorem vd_X4_count : yX4_count.cls = RX4 ∧ yX4_count.cls ≠ "java/lang/invoke/MethodHandle" ∧ yX4_count.cls ≠ "java/lang/invoke/VarHandle" ∧ (parseMethodDescriptor yX4_count.desc).map (fun d => d.parameters.length) = some 1 := by decide +kernel
theorem vd_X4_status : yX4_status.cls = RX4 ∧ yX4_status.cls ≠ "java/lang/invoke/MethodHandle" ∧ yX4_status.cls ≠ "java/lang/invoke/VarHandle" ∧ (parseMethodDescriptor yX4_status.desc).map (fun d => d.parameters.length) = some 1 := by decide +kernel
theorem vg_RX3_48 : GoodIn fg_TW (wsV RX3 48 RX3 yX3_finding (.code yX3_finding cX3_finding 2 (some .int) :: fg_TW)) := fg_gV vm_RX3_48 vh_X3_finding ve_X3_finding vi_RX3 vk_X3_finding
theorem vg_RX3_66 : GoodIn fg_TW (wsV RX3 66 RX2 yX2_isPerson (.code yX2_isPerson cX2_isPerson 2 (some .boolean) :: fg_TW)) := fg_gV vm_RX3_66 vh_X2_isPerson ve_X2_isPerson vi_RX2 vk_X2_isPerson
theorem vg_RX3_72 : GoodIn fg_TW (wsV RX3 72 RX2 yX2_thoseOn (.code yX2_thoseOn cX2_thoseOn 4 (some .int) :: fg_TW)) := fg_gV vm_RX3_72 vh_X2_thoseOn ve_X2_thoseOn vi_RX2 vk_X2_thoseOn
theorem vg_RX3_75 : GoodIn fg_TW (wsV RX3 75 RX2 yX2_thoseStanding (.code yX2_thoseStanding cX2_thoseStanding 4 (some .int) :: fg_TW)) := fg_gV vm_RX3_75 vh_X2_thoseStanding ve_X2_thoseStanding vi_RX2 vk_X2_thoseStanding
theorem vg_RX2_71 : GoodIn fg_TW (wsV RX2 71 RX2 yX2_stands (.code yX2_stands cX2_stands 3 (some .boolean) :: fg_TW)) := fg_gV vm_RX2_71 vh_X2_stands ve_X2_stands vi_RX2 vk_X2_stands
theorem vg_RX2_76 : GoodIn fg_TW (wsV RX2 76 RX2 yX2_trustOf (.code yX2_trustOf cX2_trustOf 7 (some .int) :: fg_TW)) := fg_gV vm_RX2_76 vh_X2_trustOf ve_X2_trustOf vi_RX2 vk_X2_trustOf
theorem vg_RX3_91 : GoodIn fg_TW (wsV RX3 91 RX2 yX2_add (.code yX2_add cX2_add 3 (some .int) :: fg_TW)) := fg_gV vm_RX3_91 vh_X2_add ve_X2_add vi_RX2 vk_X2_add
theorem vg_RX3_100 : GoodIn fg_TW (wsV RX3 100 RX2 yX2_lotMadeFor (.code yX2_lotMadeFor cX2_lotMadeFor 4 (some .int) :: fg_TW)) := fg_gV vm_RX3_100 vh_X2_lotMadeFor ve_X2_lotMadeFor vi_RX2 vk_X2_lotMadeFor
theorem vg_RX2_80 : GoodIn fg_TW (wsV RX2 80 RX2 yX2_prefers (.code yX2_prefers cX2_prefers 4 (some .boolean) :: fg_TW)) := fg_gV vm_RX2_80 vh_X2_prefers ve_X2_prefers vi_RX2 vk_X2_prefers
theorem vg_RX3_103 : GoodIn fg_TW (wsV RX3 103 RX2 yX2_lotsOwnedBy (.code yX2_lotsOwnedBy cX2_lotsOwnedBy 4 (some .int) :: fg_TW)) := fg_gV vm_RX3_103 vh_X2_lotsOwnedBy ve_X2_lotsOwnedBy vi_RX2 vk_X2_lotsOwnedBy
theorem vg_RX3_106 : GoodIn fg_TW (wsV RX3 106 RX2 yX2_valueOf (.code yX2_valueOf cX2_valueOf 3 (some .int) :: fg_TW)) := fg_gV vm_RX3_106 vh_X2_valueOf ve_X2_valueOf vi_RX2 vk_X2_valueOf
theorem vg_RX3_122 : GoodIn fg_TW (wsV RX3 122 RX2 yX2_trustOf (.code yX2_trustOf cX2_trustOf 7 (some .int) :: fg_TW)) := fg_gV vm_RX3_122 vh_X2_trustOf ve_X2_trustOf vi_RX2 vk_X2_trustOf
theorem vg_RX3_129 : GoodIn fg_TW (wsV RX3 129 RX2 yX2_passDays (.code yX2_passDays cX2_passDays 3 none :: fg_TW)) := fg_gV vm_RX3_129 vh_X2_passDays ve_X2_passDays vi_RX2 vk_X2_passDays
theorem vg_RX2_84 : GoodIn fg_TW (wsV RX2 84 RX2 yX2_thinAndThicken (.code yX2_thinAndThicken cX2_thinAndThicken 3 none :: fg_TW)) := fg_gV vm_RX2_84 vh_X2_thinAndThicken ve_X2_thinAndThicken vi_RX2 vk_X2_thinAndThicken
theorem vg_RX2_87 : GoodIn fg_TW (wsV RX2 87 RX2 yX2_spreadFog (.code yX2_spreadFog cX2_spreadFog 2 none :: fg_TW)) := fg_gV vm_RX2_87 vh_X2_spreadFog ve_X2_spreadFog vi_RX2 vk_X2_spreadFog
theorem vg_RX2_90 : GoodIn fg_TW (wsV RX2 90 RX2 yX2_movePeople (.code yX2_movePeople cX2_movePeople 2 none :: fg_TW)) := fg_gV vm_RX2_90 vh_X2_movePeople ve_X2_movePeople vi_RX2 vk_X2_movePeople
theorem vg_RX2_67 : GoodIn fg_TW (wsV RX2 67 RX2 yX2_isGone (.code yX2_isGone cX2_isGone 2 (some .boolean) :: fg_TW)) := fg_gV vm_RX2_67 vh_X2_isGone ve_X2_isGone vi_RX2 vk_X2_isGone
theorem vg_RX2_108 : GoodIn fg_TW (wsV RX2 108 RX2 yX2_lotMadeFor (.code yX2_lotMadeFor cX2_lotMadeFor 4 (some .int) :: fg_TW)) := fg_gV vm_RX2_108 vh_X2_lotMadeFor ve_X2_lotMadeFor vi_RX2 vk_X2_lotMadeFor
theorem vg_RX2_112 : GoodIn fg_TW (wsV RX2 112 RX2 yX2_fall (.code yX2_fall cX2_fall 2 none :: fg_TW)) := fg_gV vm_RX2_112 vh_X2_fall ve_X2_fall vi_RX2 vk_X2_fall
theorem vg_RX2_93 : GoodIn fg_TW (wsV RX2 93 RX2 yX2_payRents (.code yX2_payRents cX2_payRents 4 none :: fg_TW)) := fg_gV vm_RX2_93 vh_X2_payRents ve_X2_payRents vi_RX2 vk_X2_payRents
theorem vg_RX2_119 : GoodIn fg_TW (wsV RX2 119 RX2 yX2_isPerson (.code yX2_isPerson cX2_isPerson 2 (some .boolean) :: fg_TW)) := fg_gV vm_RX2_119 vh_X2_isPerson ve_X2_isPerson vi_RX2 vk_X2_isPerson
theorem vg_RX2_96 : GoodIn fg_TW (wsV RX2 96 RX2 yX2_spreadBelief (.code yX2_spreadBelief cX2_spreadBelief 3 none :: fg_TW)) := fg_gV vm_RX2_96 vh_X2_spreadBelief ve_X2_spreadBelief vi_RX2 vk_X2_spreadBelief
theorem vg_RX2_122 : GoodIn fg_TW (wsV RX2 122 RX2 yX2_greatestBeliefBeside (.code yX2_greatestBeliefBeside cX2_greatestBeliefBeside 4 (some .int) :: fg_TW)) := fg_gV vm_RX2_122 vh_X2_greatestBeliefBeside ve_X2_greatestBeliefBeside vi_RX2 vk_X2_greatestBeliefBeside
theorem vg_RX3_133 : GoodIn fg_TW (wsV RX3 133 RX2 yX2_thoseOnLots (.code yX2_thoseOnLots cX2_thoseOnLots 3 (some .int) :: fg_TW)) := fg_gV vm_RX3_133 vh_X2_thoseOnLots ve_X2_thoseOnLots vi_RX2 vk_X2_thoseOnLots
theorem vg_RX3_144 : GoodIn fg_TW (wsV RX3 144 RX2 yX2_become (.code yX2_become cX2_become 2 none :: fg_TW)) := fg_gV vm_RX3_144 vh_X2_become ve_X2_become vi_RX2 vk_X2_become
theorem vg_RX3_153 : GoodIn fg_TW (wsV RX3 153 RX2 yX2_sendAway (.code yX2_sendAway cX2_sendAway 3 none :: fg_TW)) := fg_gV vm_RX3_153 vh_X2_sendAway ve_X2_sendAway vi_RX2 vk_X2_sendAway
theorem vg_RX3_156 : GoodIn fg_TW (wsV RX3 156 RX3 yX3_faultOfTold (.code yX3_faultOfTold cX3_faultOfTold 3 (some .int) :: fg_TW)) := fg_gV vm_RX3_156 vh_X3_faultOfTold ve_X3_faultOfTold vi_RX3 vk_X3_faultOfTold
theorem vg_RX3_203 : GoodIn fg_TW (wsV RX3 203 RX0 yX0_isMissing (.code yX0_isMissing cX0_isMissing 1 (some .boolean) :: fg_TW)) := fg_gV vm_RX3_203 vh_X0_isMissing ve_X0_isMissing vi_RX0 vk_X0_isMissing
theorem vg_RX3_159 : GoodIn fg_TW (wsV RX3 159 RX3 yX3_goesAsTold (.code yX3_goesAsTold cX3_goesAsTold 5 (some .boolean) :: fg_TW)) := fg_gV vm_RX3_159 vh_X3_goesAsTold ve_X3_goesAsTold vi_RX3 vk_X3_goesAsTold
theorem vg_RX3_163 : GoodIn fg_TW (wsV RX3 163 RX2 yX2_draw (.code yX2_draw cX2_draw 1 (some .int) :: fg_TW)) := fg_gV vm_RX3_163 vh_X2_draw ve_X2_draw vi_RX2 vk_X2_draw
theorem vg_RX3_166 : GoodIn fg_TW (wsV RX3 166 RX2 yX2_stands (.code yX2_stands cX2_stands 3 (some .boolean) :: fg_TW)) := fg_gV vm_RX3_166 vh_X2_stands ve_X2_stands vi_RX2 vk_X2_stands
theorem vg_RX3_179 : GoodIn fg_TW (wsV RX3 179 RX1 yX1_append (.code yX1_append cX1_append 2 none :: fg_TW)) := fg_gV vm_RX3_179 vh_X1_append ve_X1_append vi_RX1 vk_X1_append
theorem vg_RX3_182 : GoodIn fg_TW (wsV RX3 182 RX1 yX1_tellTo (.code yX1_tellTo cX1_tellTo 4 (some .int) :: fg_TW)) := fg_gV vm_RX3_182 vh_X1_tellTo ve_X1_tellTo vi_RX1 vk_X1_tellTo
theorem vg_RX1_34 : GoodIn fg_TW (wsV RX1 34 RX1 yX1_nextToken (.code yX1_nextToken cX1_nextToken 1 none :: fg_TW)) := fg_gV vm_RX1_34 vh_X1_nextToken ve_X1_nextToken vi_RX1 vk_X1_nextToken
theorem vg_RX1_143 : GoodIn fg_TW (wsV RX1 143 RX1 yX1_readWord (.code yX1_readWord cX1_readWord 1 none :: fg_TW)) := fg_gV vm_RX1_143 vh_X1_readWord ve_X1_readWord vi_RX1 vk_X1_readWord
theorem vg_RX1_149 : GoodIn fg_TW (wsV RX1 149 RX1 yX1_readNumber (.code yX1_readNumber cX1_readNumber 1 none :: fg_TW)) := fg_gV vm_RX1_149 vh_X1_readNumber ve_X1_readNumber vi_RX1 vk_X1_readNumber
theorem vg_RX1_37 : GoodIn fg_TW (wsV RX1 37 RX1 yX1_tellItem (.code yX1_tellItem cX1_tellItem 3 none :: fg_TW)) := fg_gV vm_RX1_37 vh_X1_tellItem ve_X1_tellItem vi_RX1 vk_X1_tellItem
theorem vg_RX1_44 : GoodIn fg_TW (wsV RX1 44 RX1 yX1_kindOfWord (.code yX1_kindOfWord cX1_kindOfWord 1 (some .int) :: fg_TW)) := fg_gV vm_RX1_44 vh_X1_kindOfWord ve_X1_kindOfWord vi_RX1 vk_X1_kindOfWord
theorem vg_RX1_115 : GoodIn fg_TW (wsV RX1 115 RX1 yX1_isWord (.code yX1_isWord cX1_isWord 3 (some .boolean) :: fg_TW)) := fg_gV vm_RX1_115 vh_X1_isWord ve_X1_isWord vi_RX1 vk_X1_isWord
theorem vg_RX1_48 : GoodIn fg_TW (wsV RX1 48 RX1 yX1_tellPerson (.code yX1_tellPerson cX1_tellPerson 4 none :: fg_TW)) := fg_gV vm_RX1_48 vh_X1_tellPerson ve_X1_tellPerson vi_RX1 vk_X1_tellPerson
theorem vg_RX1_41 : GoodIn fg_TW (wsV RX1 41 RX1 yX1_faultHere (.code yX1_faultHere cX1_faultHere 1 none :: fg_TW)) := fg_gV vm_RX1_41 vh_X1_faultHere ve_X1_faultHere vi_RX1 vk_X1_faultHere
theorem vg_RX1_79 : GoodIn fg_TW (wsV RX1 79 RX2 yX2_add (.code yX2_add cX2_add 3 (some .int) :: fg_TW)) := fg_gV vm_RX1_79 vh_X2_add ve_X2_add vi_RX2 vk_X2_add
theorem vg_RX1_54 : GoodIn fg_TW (wsV RX1 54 RX1 yX1_took (.code yX1_took cX1_took 3 (some .boolean) :: fg_TW)) := fg_gV vm_RX1_54 vh_X1_took ve_X1_took vi_RX1 vk_X1_took
theorem vg_RX1_68 : GoodIn fg_TW (wsV RX1 68 RX1 yX1_takeNumber (.code yX1_takeNumber cX1_takeNumber 3 (some .int) :: fg_TW)) := fg_gV vm_RX1_68 vh_X1_takeNumber ve_X1_takeNumber vi_RX1 vk_X1_takeNumber
theorem vg_RX1_58 : GoodIn fg_TW (wsV RX1 58 RX1 yX1_tellLot (.code yX1_tellLot cX1_tellLot 3 none :: fg_TW)) := fg_gV vm_RX1_58 vh_X1_tellLot ve_X1_tellLot vi_RX1 vk_X1_tellLot
theorem vg_RX1_63 : GoodIn fg_TW (wsV RX1 63 RX1 yX1_tellSun (.code yX1_tellSun cX1_tellSun 4 none :: fg_TW)) := fg_gV vm_RX1_63 vh_X1_tellSun ve_X1_tellSun vi_RX1 vk_X1_tellSun
theorem vg_RX3_198 : GoodIn fg_TW (wsV RX3 198 RX0 yX0_begin (.code yX0_begin cX0_begin 4 none :: fg_TW)) := fg_gV vm_RX3_198 vh_X0_begin ve_X0_begin vi_RX0 vk_X0_begin
theorem vg_RX3_207 : GoodIn fg_TW (wsV RX3 207 RX0 yX0_put (.code yX0_put cX0_put 3 none :: fg_TW)) := fg_gV vm_RX3_207 vh_X0_put ve_X0_put vi_RX0 vk_X0_put
theorem vg_RX3_213 : GoodIn fg_TW (wsV RX3 213 RX0 yX0_has (.code yX0_has cX0_has 3 (some .boolean) :: fg_TW)) := fg_gV vm_RX3_213 vh_X0_has ve_X0_has vi_RX0 vk_X0_has
theorem vg_RX3_225 : GoodIn fg_TW (wsV RX3 225 RX2 yX2_spotsHeld (.code yX2_spotsHeld cX2_spotsHeld 3 (some .int) :: fg_TW)) := fg_gV vm_RX3_225 vh_X2_spotsHeld ve_X2_spotsHeld vi_RX2 vk_X2_spotsHeld
theorem vg_RX4_56 : GoodIn fg_TW (wsV RX4 56 RX4 yX4_lays1 (.code yX4_lays1 cX4_lays1 4 none :: fg_TW)) := fg_gV vm_RX4_56 vh_X4_lays1 ve_X4_lays1 vi_RX4 vk_X4_lays1
theorem vg_RX4_129 : GoodIn fg_TW (wsV RX4 129 RX4 yX4_no (.code yX4_no cX4_no 2 (some .int) :: fg_TW)) := fg_gV vm_RX4_129 vh_X4_no ve_X4_no vi_RX4 vk_X4_no
theorem vg_RX4_73 : GoodIn fg_TW (wsV RX4 73 RX4 yX4_of1 (.code yX4_of1 cX4_of1 3 (some .int) :: fg_TW)) := fg_gV vm_RX4_73 vh_X4_of1 ve_X4_of1 vi_RX4 vk_X4_of1
theorem vg_RX4_69 : GoodIn fg_TW (wsV RX4 69 RX4 yX4_whoIsOn (.code yX4_whoIsOn cX4_whoIsOn 4 (some .int) :: fg_TW)) := fg_gV vm_RX4_69 vh_X4_whoIsOn ve_X4_whoIsOn vi_RX4 vk_X4_whoIsOn
theorem vg_RX4_65 : GoodIn fg_TW (wsV RX4 65 RX4 yX4_get (.code yX4_get cX4_get 3 (some .int) :: fg_TW)) := fg_gV vm_RX4_65 vh_X4_get ve_X4_get vi_RX4 vk_X4_get
theorem vg_RX4_132 : GoodIn fg_TW (wsV RX4 132 RX4 yX4_standing (.code yX4_standing cX4_standing 4 (some .int) :: fg_TW)) := fg_gV vm_RX4_132 vh_X4_standing ve_X4_standing vi_RX4 vk_X4_standing
theorem vg_RX4_82 : GoodIn fg_TW (wsV RX4 82 RX4 yX4_stands (.code yX4_stands cX4_stands 3 (some .boolean) :: fg_TW)) := fg_gV vm_RX4_82 vh_X4_stands ve_X4_stands vi_RX4 vk_X4_stands
theorem vg_RX4_79 : GoodIn fg_TW (wsV RX4 79 RX4 yX4_trustOf (.code yX4_trustOf cX4_trustOf 5 (some .int) :: fg_TW)) := fg_gV vm_RX4_79 vh_X4_trustOf ve_X4_trustOf vi_RX4 vk_X4_trustOf
theorem vg_RX4_135 : GoodIn fg_TW (wsV RX4 135 RX4 yX4_adds (.code yX4_adds cX4_adds 3 none :: fg_TW)) := fg_gV vm_RX4_135 vh_X4_adds ve_X4_adds vi_RX4 vk_X4_adds
theorem vg_RX4_95 : GoodIn fg_TW (wsV RX4 95 RX4 yX4_puts (.code yX4_puts cX4_puts 4 none :: fg_TW)) := fg_gV vm_RX4_95 vh_X4_puts ve_X4_puts vi_RX4 vk_X4_puts
theorem vg_RX4_138 : GoodIn fg_TW (wsV RX4 138 RX4 yX4_isPerson (.code yX4_isPerson cX4_isPerson 2 (some .boolean) :: fg_TW)) := fg_gV vm_RX4_138 vh_X4_isPerson ve_X4_isPerson vi_RX4 vk_X4_isPerson
theorem vg_RX4_98 : GoodIn fg_TW (wsV RX4 98 RX4 yX4_losesOf (.code yX4_losesOf cX4_losesOf 2 (some .int) :: fg_TW)) := fg_gV vm_RX4_98 vh_X4_losesOf ve_X4_losesOf vi_RX4 vk_X4_losesOf
theorem vg_RX4_92 : GoodIn fg_TW (wsV RX4 92 RX4 yX4_makesFor (.code yX4_makesFor cX4_makesFor 4 (some .int) :: fg_TW)) := fg_gV vm_RX4_92 vh_X4_makesFor ve_X4_makesFor vi_RX4 vk_X4_makesFor
theorem vg_RX4_86 : GoodIn fg_TW (wsV RX4 86 RX4 yX4_isBetter (.code yX4_isBetter cX4_isBetter 6 (some .boolean) :: fg_TW)) := fg_gV vm_RX4_86 vh_X4_isBetter ve_X4_isBetter vi_RX4 vk_X4_isBetter
theorem vg_RX4_141 : GoodIn fg_TW (wsV RX4 141 RX4 yX4_ownedBy (.code yX4_ownedBy cX4_ownedBy 4 (some .int) :: fg_TW)) := fg_gV vm_RX4_141 vh_X4_ownedBy ve_X4_ownedBy vi_RX4 vk_X4_ownedBy
theorem vg_RX4_144 : GoodIn fg_TW (wsV RX4 144 RX4 yX4_goes (.code yX4_goes cX4_goes 3 none :: fg_TW)) := fg_gV vm_RX4_144 vh_X4_goes ve_X4_goes vi_RX4 vk_X4_goes
theorem vg_RX4_123 : GoodIn fg_TW (wsV RX4 123 RX4 yX4_day (.code yX4_day cX4_day 2 none :: fg_TW)) := fg_gV vm_RX4_123 vh_X4_day ve_X4_day vi_RX4 vk_X4_day
theorem vg_RX4_105 : GoodIn fg_TW (wsV RX4 105 RX4 yX4_drifts (.code yX4_drifts cX4_drifts 3 none :: fg_TW)) := fg_gV vm_RX4_105 vh_X4_drifts ve_X4_drifts vi_RX4 vk_X4_drifts
theorem vg_RX4_108 : GoodIn fg_TW (wsV RX4 108 RX4 yX4_isAway (.code yX4_isAway cX4_isAway 2 (some .boolean) :: fg_TW)) := fg_gV vm_RX4_108 vh_X4_isAway ve_X4_isAway vi_RX4 vk_X4_isAway
theorem vg_RX4_112 : GoodIn fg_TW (wsV RX4 112 RX4 yX4_moves (.code yX4_moves cX4_moves 4 none :: fg_TW)) := fg_gV vm_RX4_112 vh_X4_moves ve_X4_moves vi_RX4 vk_X4_moves
theorem vg_RX4_116 : GoodIn fg_TW (wsV RX4 116 RX4 yX4_pays (.code yX4_pays cX4_pays 5 none :: fg_TW)) := fg_gV vm_RX4_116 vh_X4_pays ve_X4_pays vi_RX4 vk_X4_pays
theorem vg_RX4_119 : GoodIn fg_TW (wsV RX4 119 RX4 yX4_finds (.code yX4_finds cX4_finds 5 none :: fg_TW)) := fg_gV vm_RX4_119 vh_X4_finds ve_X4_finds vi_RX4 vk_X4_finds
theorem vg_RX4_147 : GoodIn fg_TW (wsV RX4 147 RX4 yX4_onLots (.code yX4_onLots cX4_onLots 1 (some .int) :: fg_TW)) := fg_gV vm_RX4_147 vh_X4_onLots ve_X4_onLots vi_RX4 vk_X4_onLots
theorem vg_RX4_151 : GoodIn fg_TW (wsV RX4 151 RX4 yX4_fogs (.code yX4_fogs cX4_fogs 3 (some .int) :: fg_TW)) := fg_gV vm_RX4_151 vh_X4_fogs ve_X4_fogs vi_RX4 vk_X4_fogs
theorem vg_RX4_154 : GoodIn fg_TW (wsV RX4 154 RX4 yX4_sumOf (.code yX4_sumOf cX4_sumOf 4 (some .int) :: fg_TW)) := fg_gV vm_RX4_154 vh_X4_sumOf ve_X4_sumOf vi_RX4 vk_X4_sumOf
theorem vg_RX4_157 : GoodIn fg_TW (wsV RX4 157 RX4 yX4_mostFog (.code yX4_mostFog cX4_mostFog 3 (some .int) :: fg_TW)) := fg_gV vm_RX4_157 vh_X4_mostFog ve_X4_mostFog vi_RX4 vk_X4_mostFog
theorem vg_RX4_160 : GoodIn fg_TW (wsV RX4 160 RX4 yX4_richest (.code yX4_richest cX4_richest 3 (some .int) :: fg_TW)) := fg_gV vm_RX4_160 vh_X4_richest ve_X4_richest vi_RX4 vk_X4_richest
theorem vg_RX4_163 : GoodIn fg_TW (wsV RX4 163 RX4 yX4_setsAside (.code yX4_setsAside cX4_setsAside 2 none :: fg_TW)) := fg_gV vm_RX4_163 vh_X4_setsAside ve_X4_setsAside vi_RX4 vk_X4_setsAside
theorem vg_RX4_166 : GoodIn fg_TW (wsV RX4 166 RX4 yX4_laysBack (.code yX4_laysBack cX4_laysBack 2 none :: fg_TW)) := fg_gV vm_RX4_166 vh_X4_laysBack ve_X4_laysBack vi_RX4 vk_X4_laysBack
theorem vg_RX4_172 : GoodIn fg_TW (wsV RX4 172 RX4 yX4_firstBy (.code yX4_firstBy cX4_firstBy 5 (some .int) :: fg_TW)) := fg_gV vm_RX4_172 vh_X4_firstBy ve_X4_firstBy vi_RX4 vk_X4_firstBy
theorem vg_RX4_169 : GoodIn fg_TW (wsV RX4 169 RX4 yX4_isSo (.code yX4_isSo cX4_isSo 4 (some .boolean) :: fg_TW)) := fg_gV vm_RX4_169 vh_X4_isSo ve_X4_isSo vi_RX4 vk_X4_isSo
theorem vg_RX4_179 : GoodIn fg_TW (wsV RX4 179 RX4 yX4_thenWith (.code yX4_thenWith cX4_thenWith 7 (some .int) :: fg_TW)) := fg_gV vm_RX4_179 vh_X4_thenWith ve_X4_thenWith vi_RX4 vk_X4_thenWith
theorem vg_RX4_183 : GoodIn fg_TW (wsV RX4 183 RX4 yX4_fellBy (.code yX4_fellBy cX4_fellBy 4 (some .int) :: fg_TW)) := fg_gV vm_RX4_183 vh_X4_fellBy ve_X4_fellBy vi_RX4 vk_X4_fellBy
theorem vg_RX4_186 : GoodIn fg_TW (wsV RX4 186 RX4 yX4_standsWithout (.code yX4_standsWithout cX4_standsWithout 5 (some .boolean) :: fg_TW)) := fg_gV vm_RX4_186 vh_X4_standsWithout ve_X4_standsWithout vi_RX4 vk_X4_standsWithout
theorem vg_RX4_198 : GoodIn fg_TW (wsV RX4 198 RX4 yX4_wrongTold (.code yX4_wrongTold cX4_wrongTold 4 (some .int) :: fg_TW)) := fg_gV vm_RX4_198 vh_X4_wrongTold ve_X4_wrongTold vi_RX4 vk_X4_wrongTold
theorem vg_RX4_192 : GoodIn fg_TW (wsV RX4 192 RX4 yX4_wrongSheet (.code yX4_wrongSheet cX4_wrongSheet 2 (some .int) :: fg_TW)) := fg_gV vm_RX4_192 vh_X4_wrongSheet ve_X4_wrongSheet vi_RX4 vk_X4_wrongSheet
theorem vg_RX4_201 : GoodIn fg_TW (wsV RX4 201 RX4 yX4_fitsAs (.code yX4_fitsAs cX4_fitsAs 7 (some .boolean) :: fg_TW)) := fg_gV vm_RX4_201 vh_X4_fitsAs ve_X4_fitsAs vi_RX4 vk_X4_fitsAs
theorem vg_RX4_195 : GoodIn fg_TW (wsV RX4 195 RX4 yX4_told (.code yX4_told cX4_told 3 (some .int) :: fg_TW)) := fg_gV vm_RX4_195 vh_X4_told ve_X4_told vi_RX4 vk_X4_told
theorem vg_RX4_206 : GoodIn fg_TW (wsV RX4 206 RX4 yX4_draw (.code yX4_draw cX4_draw 1 (some .int) :: fg_TW)) := fg_gV vm_RX4_206 vh_X4_draw ve_X4_draw vi_RX4 vk_X4_draw
theorem vg_RX4_243 : GoodIn fg_TW (wsV RX4 243 RX4 yX4_nextToken (.code yX4_nextToken cX4_nextToken 1 none :: fg_TW)) := fg_gV vm_RX4_243 vh_X4_nextToken ve_X4_nextToken vi_RX4 vk_X4_nextToken
theorem vg_RX4_264 : GoodIn fg_TW (wsV RX4 264 RX4 yX4_readsItem (.code yX4_readsItem cX4_readsItem 3 (some .boolean) :: fg_TW)) := fg_gV vm_RX4_264 vh_X4_readsItem ve_X4_readsItem vi_RX4 vk_X4_readsItem
theorem vg_RX4_246 : GoodIn fg_TW (wsV RX4 246 RX4 yX4_wordOf (.code yX4_wordOf cX4_wordOf 7 (some .int) :: fg_TW)) := fg_gV vm_RX4_246 vh_X4_wordOf ve_X4_wordOf vi_RX4 vk_X4_wordOf
theorem vg_RX4_253 : GoodIn fg_TW (wsV RX4 253 RX4 yX4_readsPerson (.code yX4_readsPerson cX4_readsPerson 5 (some .boolean) :: fg_TW)) := fg_gV vm_RX4_253 vh_X4_readsPerson ve_X4_readsPerson vi_RX4 vk_X4_readsPerson
theorem vg_RX4_250 : GoodIn fg_TW (wsV RX4 250 RX4 yX4_takesNumber (.code yX4_takesNumber cX4_takesNumber 4 (some .int) :: fg_TW)) := fg_gV vm_RX4_250 vh_X4_takesNumber ve_X4_takesNumber vi_RX4 vk_X4_takesNumber
theorem vg_RX4_256 : GoodIn fg_TW (wsV RX4 256 RX4 yX4_readsLot (.code yX4_readsLot cX4_readsLot 4 (some .boolean) :: fg_TW)) := fg_gV vm_RX4_256 vh_X4_readsLot ve_X4_readsLot vi_RX4 vk_X4_readsLot
theorem vg_RX4_260 : GoodIn fg_TW (wsV RX4 260 RX4 yX4_readsSun (.code yX4_readsSun cX4_readsSun 4 (some .boolean) :: fg_TW)) := fg_gV vm_RX4_260 vh_X4_readsSun ve_X4_readsSun vi_RX4 vk_X4_readsSun
