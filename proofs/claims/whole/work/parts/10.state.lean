def tbl : List Cond := lw_tbl.filter goodWord
theorem tbl_good {w : Cond} (h : w ∈ tbl) : goodWord w = true := (List.mem_filter.mp h).2
theorem tbl_lw {w : Cond} (h : w ∈ tbl) : w ∈ lw_tbl := (List.mem_filter.mp h).1
theorem tbl_p {w : Cond} {i : Nat} (h : (k2_sels lw_privs)[i]? = some w) (hg : goodWord w = true) : w ∈ tbl := List.mem_filter.mpr ⟨List.mem_append_left _ (List.mem_of_getElem? h), hg⟩
theorem tbl_1 {w : Cond} {i : Nat} (h : tables_1_1[i]? = some w) (hg : goodWord w = true) : w ∈ tbl := List.mem_filter.mpr ⟨List.mem_append_right _ (List.mem_append_left _ (List.mem_of_getElem? h)), hg⟩
theorem tbl_2 {w : Cond} {i : Nat} (h : tables_1_2[i]? = some w) (hg : goodWord w = true) : w ∈ tbl := List.mem_filter.mpr ⟨List.mem_append_right _ (List.mem_append_right _ (List.mem_append_left _ (List.mem_of_getElem? h))), hg⟩
theorem tbl_3 {w : Cond} {i : Nat} (h : tables_1_3[i]? = some w) (hg : goodWord w = true) : w ∈ tbl := List.mem_filter.mpr ⟨List.mem_append_right _ (List.mem_append_right _ (List.mem_append_right _ (List.mem_append_left _ (List.mem_of_getElem? h)))), hg⟩
theorem tbl_4 {w : Cond} {i : Nat} (h : tables_1_4[i]? = some w) (hg : goodWord w = true) : w ∈ tbl := List.mem_filter.mpr ⟨List.mem_append_right _ (List.mem_append_right _ (List.mem_append_right _ (List.mem_append_right _ (List.mem_append_left _ (List.mem_of_getElem? h))))), hg⟩
theorem tbl_5 {w : Cond} {i : Nat} (h : tables_1_5[i]? = some w) (hg : goodWord w = true) : w ∈ tbl := List.mem_filter.mpr ⟨List.mem_append_right _ (List.mem_append_right _ (List.mem_append_right _ (List.mem_append_right _ (List.mem_append_right _ (List.mem_of_getElem? h))))), hg⟩
theorem tb_gV {own C : String} {idx n : Nat} {y : MethodName} {b : ByteArray} {r : Option FieldType} {hd : Cond} (h1 : Cond.methodLink own idx y ∈ tbl) (h2 : Cond.instanceMethod y ∈ tbl) (h3 : Cond.selects C y y ∈ tbl) (h4 : Cond.initialized C ∈ tbl) (h5 : Cond.code y b n r ∈ tbl) : GoodIn (hd :: tbl) (wsV own idx C y (Cond.code y b n r :: tbl)) := by
  intro w hw
  have hm : w ∈ tbl := by
    rcases List.mem_append.mp hw with h | h
    · rcases List.mem_cons.mp h with rfl | h
      · exact h1
      · rcases List.mem_cons.mp h with rfl | h
        · exact h2
        · rcases List.mem_cons.mp h with rfl | h
          · exact h3
          · rcases List.mem_cons.mp h with rfl | h
            · exact h4
            · exact absurd h List.not_mem_nil
    · rcases List.mem_cons.mp h with rfl | h
      · exact h5
      · exact h
  exact ⟨List.mem_cons_of_mem _ hm, good_of_word (tbl_good hm)⟩
theorem tb_gS {own : String} {idx n : Nat} {y : MethodName} {b : ByteArray} {r : Option FieldType} {hd : Cond} (h1 : Cond.methodLink own idx y ∈ tbl) (h2 : Cond.static y ∈ tbl) (h3 : Cond.initialized y.cls ∈ tbl) (h5 : Cond.code y b n r ∈ tbl) : GoodIn (hd :: tbl) (va_wsS own idx y (Cond.code y b n r :: tbl)) := by
  intro w hw
  have hm : w ∈ tbl := by
    rcases List.mem_append.mp hw with h | h
    · rcases List.mem_cons.mp h with rfl | h
      · exact h1
      · rcases List.mem_cons.mp h with rfl | h
        · exact h2
        · rcases List.mem_cons.mp h with rfl | h
          · exact h3
          · exact absurd h List.not_mem_nil
    · rcases List.mem_cons.mp h with rfl | h
      · exact h5
      · exact h
  exact ⟨List.mem_cons_of_mem _ hm, good_of_word (tbl_good hm)⟩
theorem tw_1_1 : Cond.initialized RX8 ∈ tbl := tbl_1 (i := 1) rfl rfl
theorem tw_1_2 : Cond.initialized RX0 ∈ tbl := tbl_1 (i := 2) rfl rfl
theorem tw_1_3 : Cond.initialized RX6 ∈ tbl := tbl_1 (i := 3) rfl rfl
theorem tw_1_4 : Cond.initialized RX4 ∈ tbl := tbl_1 (i := 4) rfl rfl
theorem tw_1_5 : Cond.initialized RX3 ∈ tbl := tbl_1 (i := 5) rfl rfl
theorem tw_1_6 : Cond.initialized RX5 ∈ tbl := tbl_1 (i := 6) rfl rfl
theorem tw_1_7 : Cond.initialized RX7 ∈ tbl := tbl_1 (i := 7) rfl rfl
theorem tw_1_8 : Cond.initialized RX1 ∈ tbl := tbl_1 (i := 8) rfl rfl
theorem tw_1_9 : Cond.initialized RX9 ∈ tbl := tbl_1 (i := 9) rfl rfl
theorem tw_1_14 : Cond.initialized RX2 ∈ tbl := tbl_1 (i := 14) rfl rfl
theorem tw_1_15 : Cond.initialized RJ9 ∈ tbl := tbl_1 (i := 15) rfl rfl
theorem tw_1_36 : Cond.constant RX6 9 65535 ∈ tbl := tbl_1 (i := 36) rfl rfl
theorem tw_1_37 : Cond.fieldLink RX6 10 RX6 "counter1" "I" ∈ tbl := tbl_1 (i := 37) rfl rfl
theorem tw_1_38 : Cond.fieldLink RX8 146 RX6 "counter1" "I" ∈ tbl := tbl_1 (i := 38) rfl rfl
theorem tw_1_39 : Cond.fieldLink RX6 14 RX6 "counter2" "I" ∈ tbl := tbl_1 (i := 39) rfl rfl
theorem tw_1_40 : Cond.fieldLink RX8 151 RX6 "counter2" "I" ∈ tbl := tbl_1 (i := 40) rfl rfl
theorem tw_1_41 : Cond.fieldLink RX6 17 RX6 "latch1" "I" ∈ tbl := tbl_1 (i := 41) rfl rfl
theorem tw_1_42 : Cond.fieldLink RX8 154 RX6 "latch1" "I" ∈ tbl := tbl_1 (i := 42) rfl rfl
theorem tw_1_43 : Cond.fieldLink RX6 20 RX6 "ifr" "I" ∈ tbl := tbl_1 (i := 43) rfl rfl
theorem tw_1_44 : Cond.fieldLink RX8 157 RX6 "ifr" "I" ∈ tbl := tbl_1 (i := 44) rfl rfl
theorem tw_1_45 : Cond.fieldLink RX6 23 RX6 "ier" "I" ∈ tbl := tbl_1 (i := 45) rfl rfl
theorem tw_1_46 : Cond.fieldLink RX8 160 RX6 "ier" "I" ∈ tbl := tbl_1 (i := 46) rfl rfl
theorem tw_1_47 : Cond.fieldLink RX6 26 RX6 "latch2Low" "I" ∈ tbl := tbl_1 (i := 47) rfl rfl
theorem tw_1_48 : Cond.fieldLink RX6 29 RX6 "acr" "I" ∈ tbl := tbl_1 (i := 48) rfl rfl
theorem tw_1_49 : Cond.fieldLink RX6 32 RX6 "armed1" "Z" ∈ tbl := tbl_1 (i := 49) rfl rfl
theorem tw_1_50 : Cond.fieldLink RX6 36 RX6 "armed2" "Z" ∈ tbl := tbl_1 (i := 50) rfl rfl
theorem tw_1_51 : Cond.lays RX6 RX6 "counter1" "I" ∈ tbl := tbl_1 (i := 51) rfl rfl
theorem tw_1_53 : Cond.lays RX6 RX6 "counter2" "I" ∈ tbl := tbl_1 (i := 53) rfl rfl
theorem tw_1_55 : Cond.lays RX6 RX6 "latch1" "I" ∈ tbl := tbl_1 (i := 55) rfl rfl
theorem tw_1_57 : Cond.lays RX6 RX6 "ifr" "I" ∈ tbl := tbl_1 (i := 57) rfl rfl
theorem tw_1_59 : Cond.lays RX6 RX6 "ier" "I" ∈ tbl := tbl_1 (i := 59) rfl rfl
theorem tw_1_61 : Cond.lays RX6 RX6 "latch2Low" "I" ∈ tbl := tbl_1 (i := 61) rfl rfl
theorem tw_1_63 : Cond.lays RX6 RX6 "acr" "I" ∈ tbl := tbl_1 (i := 63) rfl rfl
theorem tw_1_65 : Cond.lays RX6 RX6 "armed1" "Z" ∈ tbl := tbl_1 (i := 65) rfl rfl
theorem tw_1_67 : Cond.lays RX6 RX6 "armed2" "Z" ∈ tbl := tbl_1 (i := 67) rfl rfl
theorem tw_1_76 : Cond.fieldLink RX4 18 RX4 "waiting" "I" ∈ tbl := tbl_1 (i := 76) rfl rfl
theorem tw_1_77 : Cond.fieldLink RX8 136 RX4 "waiting" "I" ∈ tbl := tbl_1 (i := 77) rfl rfl
theorem tw_1_78 : Cond.fieldLink RX4 28 RX4 "sentInAll" "I" ∈ tbl := tbl_1 (i := 78) rfl rfl
theorem tw_1_79 : Cond.fieldLink RX8 133 RX4 "sentInAll" "I" ∈ tbl := tbl_1 (i := 79) rfl rfl
theorem tw_1_80 : Cond.fieldLink RX4 11 RX4 "came" "[I" ∈ tbl := tbl_1 (i := 80) rfl rfl
theorem tw_1_81 : Cond.fieldLink RX4 15 RX4 "sentBytes" "[I" ∈ tbl := tbl_1 (i := 81) rfl rfl
theorem tw_1_82 : Cond.fieldLink RX4 22 RX4 "oldest" "I" ∈ tbl := tbl_1 (i := 82) rfl rfl
theorem tw_1_83 : Cond.fieldLink RX4 25 RX4 "command" "I" ∈ tbl := tbl_1 (i := 83) rfl rfl
theorem tw_1_84 : Cond.lays RX4 RX4 "waiting" "I" ∈ tbl := tbl_1 (i := 84) rfl rfl
theorem tw_1_86 : Cond.lays RX4 RX4 "sentInAll" "I" ∈ tbl := tbl_1 (i := 86) rfl rfl
theorem tw_1_88 : Cond.laysFinal RX4 RX4 "came" "[I" ∈ tbl := tbl_1 (i := 88) rfl rfl
theorem tw_1_90 : Cond.laysFinal RX4 RX4 "sentBytes" "[I" ∈ tbl := tbl_1 (i := 90) rfl rfl
theorem tw_1_92 : Cond.lays RX4 RX4 "oldest" "I" ∈ tbl := tbl_1 (i := 92) rfl rfl
theorem tw_1_94 : Cond.lays RX4 RX4 "command" "I" ∈ tbl := tbl_1 (i := 94) rfl rfl
theorem tw_1_105 : Cond.fieldLink RX3 7 RX3 "words" "[J" ∈ tbl := tbl_1 (i := 105) rfl rfl
theorem tw_1_106 : Cond.laysFinal RX3 RX3 "words" "[J" ∈ tbl := tbl_1 (i := 106) rfl rfl
theorem tw_1_110 : Cond.fieldLink RX0 14 RX0 "timers" "LBoardMachine$Timers;" ∈ tbl := tbl_1 (i := 110) rfl rfl
theorem tw_1_111 : Cond.fieldLink RX5 67 RX0 "timers" "LBoardMachine$Timers;" ∈ tbl := tbl_1 (i := 111) rfl rfl
theorem tw_1_112 : Cond.fieldLink RX8 142 RX0 "timers" "LBoardMachine$Timers;" ∈ tbl := tbl_1 (i := 112) rfl rfl
theorem tw_1_113 : Cond.fieldLink RX0 21 RX0 "port" "LBoardMachine$Port;" ∈ tbl := tbl_1 (i := 113) rfl rfl
theorem tw_1_114 : Cond.fieldLink RX8 72 RX0 "port" "LBoardMachine$Port;" ∈ tbl := tbl_1 (i := 114) rfl rfl
theorem tw_1_115 : Cond.fieldLink RX0 35 RX0 "bank" "I" ∈ tbl := tbl_1 (i := 115) rfl rfl
theorem tw_1_116 : Cond.fieldLink RX8 139 RX0 "bank" "I" ∈ tbl := tbl_1 (i := 116) rfl rfl
theorem tw_1_117 : Cond.fieldLink RX0 31 RX0 "memory" "LBoardMachine$Memory;" ∈ tbl := tbl_1 (i := 117) rfl rfl
theorem tw_1_118 : Cond.laysFinal RX0 RX0 "timers" "LBoardMachine$Timers;" ∈ tbl := tbl_1 (i := 118) rfl rfl
theorem tw_1_120 : Cond.laysFinal RX0 RX0 "port" "LBoardMachine$Port;" ∈ tbl := tbl_1 (i := 120) rfl rfl
theorem tw_1_122 : Cond.lays RX0 RX0 "bank" "I" ∈ tbl := tbl_1 (i := 122) rfl rfl
theorem tw_1_124 : Cond.laysFinal RX0 RX0 "memory" "LBoardMachine$Memory;" ∈ tbl := tbl_1 (i := 124) rfl rfl
theorem tw_1_139 : Cond.fieldLink RX7 15 RX7 "noted" "I" ∈ tbl := tbl_1 (i := 139) rfl rfl
theorem tw_1_140 : Cond.fieldLink RX8 130 RX7 "noted" "I" ∈ tbl := tbl_1 (i := 140) rfl rfl
theorem tw_1_141 : Cond.fieldLink RX7 11 RX7 "addresses" "[I" ∈ tbl := tbl_1 (i := 141) rfl rfl
theorem tw_1_142 : Cond.lays RX7 RX7 "noted" "I" ∈ tbl := tbl_1 (i := 142) rfl rfl
theorem tw_1_144 : Cond.laysFinal RX7 RX7 "addresses" "[I" ∈ tbl := tbl_1 (i := 144) rfl rfl
theorem tw_1_147 : Cond.fieldLink RX8 93 RX5 "a" "I" ∈ tbl := tbl_1 (i := 147) rfl rfl
theorem tw_1_148 : Cond.fieldLink RX5 161 RX5 "a" "I" ∈ tbl := tbl_1 (i := 148) rfl rfl
theorem tw_1_149 : Cond.fieldLink RX5 149 RX5 "x" "I" ∈ tbl := tbl_1 (i := 149) rfl rfl
theorem tw_1_150 : Cond.fieldLink RX8 96 RX5 "x" "I" ∈ tbl := tbl_1 (i := 150) rfl rfl
theorem tw_1_151 : Cond.fieldLink RX5 152 RX5 "y" "I" ∈ tbl := tbl_1 (i := 151) rfl rfl
theorem tw_1_152 : Cond.fieldLink RX8 99 RX5 "y" "I" ∈ tbl := tbl_1 (i := 152) rfl rfl
theorem tw_1_153 : Cond.fieldLink RX5 24 RX5 "s" "I" ∈ tbl := tbl_1 (i := 153) rfl rfl
theorem tw_1_154 : Cond.fieldLink RX8 102 RX5 "s" "I" ∈ tbl := tbl_1 (i := 154) rfl rfl
theorem tw_1_155 : Cond.fieldLink RX5 9 RX5 "p" "I" ∈ tbl := tbl_1 (i := 155) rfl rfl
theorem tw_1_156 : Cond.fieldLink RX8 105 RX5 "p" "I" ∈ tbl := tbl_1 (i := 156) rfl rfl
theorem tw_1_157 : Cond.fieldLink RX5 32 RX5 "pc" "I" ∈ tbl := tbl_1 (i := 157) rfl rfl
theorem tw_1_158 : Cond.fieldLink RX8 61 RX5 "pc" "I" ∈ tbl := tbl_1 (i := 158) rfl rfl
theorem tw_1_159 : Cond.fieldLink RX5 35 RX5 "waits" "Z" ∈ tbl := tbl_1 (i := 159) rfl rfl
theorem tw_1_160 : Cond.fieldLink RX8 163 RX5 "waits" "Z" ∈ tbl := tbl_1 (i := 160) rfl rfl
theorem tw_1_161 : Cond.fieldLink RX5 39 RX5 "stopped" "Z" ∈ tbl := tbl_1 (i := 161) rfl rfl
theorem tw_1_162 : Cond.fieldLink RX8 57 RX5 "stopped" "Z" ∈ tbl := tbl_1 (i := 162) rfl rfl
theorem tw_1_163 : Cond.fieldLink RX5 42 RX5 "edge" "Z" ∈ tbl := tbl_1 (i := 163) rfl rfl
theorem tw_1_164 : Cond.fieldLink RX8 69 RX5 "edge" "Z" ∈ tbl := tbl_1 (i := 164) rfl rfl
theorem tw_1_165 : Cond.fieldLink RX5 63 RX5 "cycles" "J" ∈ tbl := tbl_1 (i := 165) rfl rfl
theorem tw_1_166 : Cond.fieldLink RX8 126 RX5 "cycles" "J" ∈ tbl := tbl_1 (i := 166) rfl rfl
theorem tw_1_167 : Cond.fieldLink RX5 76 RX5 "interrupts" "I" ∈ tbl := tbl_1 (i := 167) rfl rfl
theorem tw_1_168 : Cond.fieldLink RX8 169 RX5 "interrupts" "I" ∈ tbl := tbl_1 (i := 168) rfl rfl
theorem tw_1_169 : Cond.fieldLink RX5 16 RX5 "carried" "LBoardMachine$Trace;" ∈ tbl := tbl_1 (i := 169) rfl rfl
theorem tw_1_170 : Cond.fieldLink RX8 117 RX5 "carried" "LBoardMachine$Trace;" ∈ tbl := tbl_1 (i := 170) rfl rfl
theorem tw_1_171 : Cond.fieldLink RX5 20 RX5 "board" "LBoardMachine$Board;" ∈ tbl := tbl_1 (i := 171) rfl rfl
theorem tw_1_172 : Cond.fieldLink RX5 57 RX5 "spent" "I" ∈ tbl := tbl_1 (i := 172) rfl rfl
theorem tw_1_173 : Cond.fieldLink RX5 105 RX5 "crossed" "Z" ∈ tbl := tbl_1 (i := 173) rfl rfl
theorem tw_1_174 : Cond.lays RX5 RX5 "a" "I" ∈ tbl := tbl_1 (i := 174) rfl rfl
theorem tw_1_176 : Cond.lays RX5 RX5 "x" "I" ∈ tbl := tbl_1 (i := 176) rfl rfl
theorem tw_1_178 : Cond.lays RX5 RX5 "y" "I" ∈ tbl := tbl_1 (i := 178) rfl rfl
theorem tw_1_180 : Cond.lays RX5 RX5 "s" "I" ∈ tbl := tbl_1 (i := 180) rfl rfl
theorem tw_1_182 : Cond.lays RX5 RX5 "p" "I" ∈ tbl := tbl_1 (i := 182) rfl rfl
theorem tw_1_184 : Cond.lays RX5 RX5 "pc" "I" ∈ tbl := tbl_1 (i := 184) rfl rfl
theorem tw_1_186 : Cond.lays RX5 RX5 "waits" "Z" ∈ tbl := tbl_1 (i := 186) rfl rfl
theorem tw_1_188 : Cond.lays RX5 RX5 "stopped" "Z" ∈ tbl := tbl_1 (i := 188) rfl rfl
theorem tw_1_190 : Cond.lays RX5 RX5 "edge" "Z" ∈ tbl := tbl_1 (i := 190) rfl rfl
theorem tw_1_192 : Cond.lays RX5 RX5 "cycles" "J" ∈ tbl := tbl_1 (i := 192) rfl rfl
theorem tw_1_194 : Cond.lays RX5 RX5 "interrupts" "I" ∈ tbl := tbl_1 (i := 194) rfl rfl
theorem tw_1_196 : Cond.laysFinal RX5 RX5 "carried" "LBoardMachine$Trace;" ∈ tbl := tbl_1 (i := 196) rfl rfl
theorem tw_1_198 : Cond.laysFinal RX5 RX5 "board" "LBoardMachine$Board;" ∈ tbl := tbl_1 (i := 198) rfl rfl
theorem tw_1_200 : Cond.lays RX5 RX5 "spent" "I" ∈ tbl := tbl_1 (i := 200) rfl rfl
theorem tw_1_202 : Cond.lays RX5 RX5 "crossed" "Z" ∈ tbl := tbl_1 (i := 202) rfl rfl
theorem tw_1_211 : Cond.fieldLink RX1 19 RX1 "size" "I" ∈ tbl := tbl_1 (i := 211) rfl rfl
theorem tw_1_212 : Cond.fieldLink RX8 166 RX1 "size" "I" ∈ tbl := tbl_1 (i := 212) rfl rfl
theorem tw_1_213 : Cond.fieldLink RX1 11 RX1 "addresses" "[I" ∈ tbl := tbl_1 (i := 213) rfl rfl
theorem tw_1_214 : Cond.lays RX1 RX1 "size" "I" ∈ tbl := tbl_1 (i := 214) rfl rfl
theorem tw_1_216 : Cond.laysFinal RX1 RX1 "addresses" "[I" ∈ tbl := tbl_1 (i := 216) rfl rfl
theorem tw_1_219 : Cond.fieldLink RX8 10 RX8 "board" "LBoardMachine$Board;" ∈ tbl := tbl_1 (i := 219) rfl rfl
theorem tw_1_220 : Cond.fieldLink RX8 21 RX8 "processor" "LBoardMachine$Processor;" ∈ tbl := tbl_1 (i := 220) rfl rfl
theorem tw_1_221 : Cond.fieldLink RX8 28 RX8 "breaks" "LBoardMachine$Breaks;" ∈ tbl := tbl_1 (i := 221) rfl rfl
theorem tw_1_222 : Cond.laysFinal RX8 RX8 "board" "LBoardMachine$Board;" ∈ tbl := tbl_1 (i := 222) rfl rfl
theorem tw_1_224 : Cond.laysFinal RX8 RX8 "processor" "LBoardMachine$Processor;" ∈ tbl := tbl_1 (i := 224) rfl rfl
theorem tw_1_226 : Cond.laysFinal RX8 RX8 "breaks" "LBoardMachine$Breaks;" ∈ tbl := tbl_1 (i := 226) rfl rfl
theorem tw_1_233 : Cond.methodLink RX8 46 yX0_restart ∈ tbl := tbl_1 (i := 233) rfl rfl
theorem tw_1_234 : Cond.instanceMethod yX0_restart ∈ tbl := tbl_1 (i := 234) rfl rfl
theorem tw_1_235 : Cond.selects RX0 yX0_restart yX0_restart ∈ tbl := tbl_1 (i := 235) rfl rfl
theorem tw_1_236 : Cond.code yX0_restart cX0_restart 1 none ∈ tbl := tbl_1 (i := 236) rfl rfl
theorem tw_1_237 : Cond.methodLink RX0 39 yX6_restart ∈ tbl := tbl_1 (i := 237) rfl rfl
theorem tw_1_238 : Cond.instanceMethod yX6_restart ∈ tbl := tbl_1 (i := 238) rfl rfl
theorem tw_1_239 : Cond.selects RX6 yX6_restart yX6_restart ∈ tbl := tbl_1 (i := 239) rfl rfl
theorem tw_2_0 : Cond.code yX6_restart cX6_restart 1 none ∈ tbl := tbl_2 (i := 0) rfl rfl
theorem tw_2_1 : Cond.methodLink RX0 42 yX4_restart ∈ tbl := tbl_2 (i := 1) rfl rfl
theorem tw_2_2 : Cond.instanceMethod yX4_restart ∈ tbl := tbl_2 (i := 2) rfl rfl
theorem tw_2_3 : Cond.selects RX4 yX4_restart yX4_restart ∈ tbl := tbl_2 (i := 3) rfl rfl
theorem tw_2_4 : Cond.code yX4_restart cX4_restart 1 none ∈ tbl := tbl_2 (i := 4) rfl rfl
theorem tw_2_5 : Cond.methodLink RX8 49 yX5_restart ∈ tbl := tbl_2 (i := 5) rfl rfl
theorem tw_2_6 : Cond.instanceMethod yX5_restart ∈ tbl := tbl_2 (i := 6) rfl rfl
theorem tw_2_7 : Cond.selects RX5 yX5_restart yX5_restart ∈ tbl := tbl_2 (i := 7) rfl rfl
theorem tw_2_8 : Cond.code yX5_restart cX5_restart 1 none ∈ tbl := tbl_2 (i := 8) rfl rfl
theorem tw_2_9 : Cond.constant RX5 27 65532 ∈ tbl := tbl_2 (i := 9) rfl rfl
theorem tw_2_10 : Cond.methodLink RX5 28 yX5_wordAt ∈ tbl := tbl_2 (i := 10) rfl rfl
theorem tw_2_12 : Cond.instanceMethod yX5_wordAt ∈ tbl := tbl_2 (i := 12) rfl rfl
theorem tw_2_13 : Cond.code yX5_wordAt cX5_wordAt 3 (some .int) ∈ tbl := tbl_2 (i := 13) rfl rfl
theorem tw_2_14 : Cond.methodLink RX5 86 yX0_read ∈ tbl := tbl_2 (i := 14) rfl rfl
theorem tw_2_15 : Cond.instanceMethod yX0_read ∈ tbl := tbl_2 (i := 15) rfl rfl
theorem tw_2_16 : Cond.selects RX0 yX0_read yX0_read ∈ tbl := tbl_2 (i := 16) rfl rfl
theorem tw_2_17 : Cond.code yX0_read cX0_read 3 (some .int) ∈ tbl := tbl_2 (i := 17) rfl rfl
theorem tw_2_18 : Cond.methodLink RX0 48 yX0_isDevice ∈ tbl := tbl_2 (i := 18) rfl rfl
theorem tw_2_19 : Cond.static yX0_isDevice ∈ tbl := tbl_2 (i := 19) rfl rfl
theorem tw_2_20 : Cond.code yX0_isDevice cX0_isDevice 1 (some .boolean) ∈ tbl := tbl_2 (i := 20) rfl rfl
theorem tw_2_21 : Cond.constant RX0 65 40960 ∈ tbl := tbl_2 (i := 21) rfl rfl
theorem tw_2_22 : Cond.constant RX0 84 49152 ∈ tbl := tbl_2 (i := 22) rfl rfl
theorem tw_2_23 : Cond.methodLink RX0 52 yX0_cell ∈ tbl := tbl_2 (i := 23) rfl rfl
theorem tw_2_25 : Cond.instanceMethod yX0_cell ∈ tbl := tbl_2 (i := 25) rfl rfl
theorem tw_2_26 : Cond.code yX0_cell cX0_cell 2 (some .int) ∈ tbl := tbl_2 (i := 26) rfl rfl
theorem tw_2_27 : Cond.constant RX0 83 32768 ∈ tbl := tbl_2 (i := 27) rfl rfl
theorem tw_2_28 : Cond.constant RX0 85 65536 ∈ tbl := tbl_2 (i := 28) rfl rfl
theorem tw_2_29 : Cond.methodLink RX0 56 yX3_byteAt ∈ tbl := tbl_2 (i := 29) rfl rfl
theorem tw_2_30 : Cond.instanceMethod yX3_byteAt ∈ tbl := tbl_2 (i := 30) rfl rfl
theorem tw_2_31 : Cond.selects RX3 yX3_byteAt yX3_byteAt ∈ tbl := tbl_2 (i := 31) rfl rfl
theorem tw_2_32 : Cond.code yX3_byteAt cX3_byteAt 2 (some .int) ∈ tbl := tbl_2 (i := 32) rfl rfl
theorem tw_2_33 : Cond.methodLink RX0 59 yX0_peekDevice ∈ tbl := tbl_2 (i := 33) rfl rfl
theorem tw_2_35 : Cond.instanceMethod yX0_peekDevice ∈ tbl := tbl_2 (i := 35) rfl rfl
theorem tw_2_36 : Cond.code yX0_peekDevice cX0_peekDevice 2 (some .int) ∈ tbl := tbl_2 (i := 36) rfl rfl
theorem tw_2_37 : Cond.constant RX0 70 40976 ∈ tbl := tbl_2 (i := 37) rfl rfl
theorem tw_2_38 : Cond.methodLink RX0 77 yX6_peek ∈ tbl := tbl_2 (i := 38) rfl rfl
theorem tw_2_39 : Cond.instanceMethod yX6_peek ∈ tbl := tbl_2 (i := 39) rfl rfl
theorem tw_2_40 : Cond.selects RX6 yX6_peek yX6_peek ∈ tbl := tbl_2 (i := 40) rfl rfl
theorem tw_2_41 : Cond.code yX6_peek cX6_peek 2 (some .int) ∈ tbl := tbl_2 (i := 41) rfl rfl
theorem tw_2_42 : Cond.constant RX0 74 40979 ∈ tbl := tbl_2 (i := 42) rfl rfl
theorem tw_2_43 : Cond.methodLink RX0 80 yX4_peek ∈ tbl := tbl_2 (i := 43) rfl rfl
theorem tw_2_44 : Cond.instanceMethod yX4_peek ∈ tbl := tbl_2 (i := 44) rfl rfl
theorem tw_2_45 : Cond.selects RX4 yX4_peek yX4_peek ∈ tbl := tbl_2 (i := 45) rfl rfl
theorem tw_2_46 : Cond.code yX4_peek cX4_peek 2 (some .int) ∈ tbl := tbl_2 (i := 46) rfl rfl
theorem tw_2_47 : Cond.constant RX0 76 40992 ∈ tbl := tbl_2 (i := 47) rfl rfl
theorem tw_2_48 : Cond.methodLink RX0 62 yX0_afterReading ∈ tbl := tbl_2 (i := 48) rfl rfl
theorem tw_2_50 : Cond.instanceMethod yX0_afterReading ∈ tbl := tbl_2 (i := 50) rfl rfl
theorem tw_2_51 : Cond.code yX0_afterReading cX0_afterReading 2 none ∈ tbl := tbl_2 (i := 51) rfl rfl
theorem tw_2_52 : Cond.methodLink RX0 81 yX6_afterReading ∈ tbl := tbl_2 (i := 52) rfl rfl
theorem tw_2_53 : Cond.instanceMethod yX6_afterReading ∈ tbl := tbl_2 (i := 53) rfl rfl
theorem tw_2_54 : Cond.selects RX6 yX6_afterReading yX6_afterReading ∈ tbl := tbl_2 (i := 54) rfl rfl
theorem tw_2_55 : Cond.code yX6_afterReading cX6_afterReading 2 none ∈ tbl := tbl_2 (i := 55) rfl rfl
theorem tw_2_56 : Cond.methodLink RX0 82 yX4_afterReading ∈ tbl := tbl_2 (i := 56) rfl rfl
theorem tw_2_57 : Cond.instanceMethod yX4_afterReading ∈ tbl := tbl_2 (i := 57) rfl rfl
theorem tw_2_58 : Cond.selects RX4 yX4_afterReading yX4_afterReading ∈ tbl := tbl_2 (i := 58) rfl rfl
theorem tw_2_59 : Cond.code yX4_afterReading cX4_afterReading 2 none ∈ tbl := tbl_2 (i := 59) rfl rfl
theorem tw_2_60 : Cond.constant RX5 148 65535 ∈ tbl := tbl_2 (i := 60) rfl rfl
theorem tw_2_65 : Cond.methodLink RX8 50 yX5_advance ∈ tbl := tbl_2 (i := 65) rfl rfl
theorem tw_2_66 : Cond.instanceMethod yX5_advance ∈ tbl := tbl_2 (i := 66) rfl rfl
theorem tw_2_67 : Cond.selects RX5 yX5_advance yX5_advance ∈ tbl := tbl_2 (i := 67) rfl rfl
theorem tw_2_68 : Cond.code yX5_advance cX5_advance 2 (some .int) ∈ tbl := tbl_2 (i := 68) rfl rfl
theorem tw_2_69 : Cond.methodLink RX5 45 yX0_asks ∈ tbl := tbl_2 (i := 69) rfl rfl
theorem tw_2_70 : Cond.instanceMethod yX0_asks ∈ tbl := tbl_2 (i := 70) rfl rfl
theorem tw_2_71 : Cond.selects RX0 yX0_asks yX0_asks ∈ tbl := tbl_2 (i := 71) rfl rfl
theorem tw_2_72 : Cond.code yX0_asks cX0_asks 1 (some .boolean) ∈ tbl := tbl_2 (i := 72) rfl rfl
theorem tw_2_73 : Cond.methodLink RX0 43 yX6_asks ∈ tbl := tbl_2 (i := 73) rfl rfl
theorem tw_2_74 : Cond.instanceMethod yX6_asks ∈ tbl := tbl_2 (i := 74) rfl rfl
theorem tw_2_75 : Cond.selects RX6 yX6_asks yX6_asks ∈ tbl := tbl_2 (i := 75) rfl rfl
theorem tw_2_76 : Cond.code yX6_asks cX6_asks 1 (some .boolean) ∈ tbl := tbl_2 (i := 76) rfl rfl
theorem tw_2_77 : Cond.methodLink RX6 39 yX6_peek ∈ tbl := tbl_2 (i := 77) rfl rfl
theorem tw_2_78 : Cond.methodLink RX0 47 yX4_asks ∈ tbl := tbl_2 (i := 78) rfl rfl
theorem tw_2_79 : Cond.instanceMethod yX4_asks ∈ tbl := tbl_2 (i := 79) rfl rfl
theorem tw_2_80 : Cond.selects RX4 yX4_asks yX4_asks ∈ tbl := tbl_2 (i := 80) rfl rfl
theorem tw_2_81 : Cond.code yX4_asks cX4_asks 1 (some .boolean) ∈ tbl := tbl_2 (i := 81) rfl rfl
theorem tw_2_82 : Cond.methodLink RX4 31 yX4_peek ∈ tbl := tbl_2 (i := 82) rfl rfl
theorem tw_2_83 : Cond.constant RX5 51 65530 ∈ tbl := tbl_2 (i := 83) rfl rfl
theorem tw_2_84 : Cond.methodLink RX5 52 yX5_takeInterrupt ∈ tbl := tbl_2 (i := 84) rfl rfl
theorem tw_2_86 : Cond.instanceMethod yX5_takeInterrupt ∈ tbl := tbl_2 (i := 86) rfl rfl
theorem tw_2_87 : Cond.code yX5_takeInterrupt cX5_takeInterrupt 2 none ∈ tbl := tbl_2 (i := 87) rfl rfl
theorem tw_2_88 : Cond.methodLink RX5 79 yX5_interrupt ∈ tbl := tbl_2 (i := 88) rfl rfl
theorem tw_2_90 : Cond.instanceMethod yX5_interrupt ∈ tbl := tbl_2 (i := 90) rfl rfl
theorem tw_2_91 : Cond.code yX5_interrupt cX5_interrupt 3 none ∈ tbl := tbl_2 (i := 91) rfl rfl
theorem tw_2_92 : Cond.methodLink RX5 83 yX5_push ∈ tbl := tbl_2 (i := 92) rfl rfl
theorem tw_2_94 : Cond.instanceMethod yX5_push ∈ tbl := tbl_2 (i := 94) rfl rfl
theorem tw_2_95 : Cond.code yX5_push cX5_push 2 none ∈ tbl := tbl_2 (i := 95) rfl rfl
theorem tw_2_96 : Cond.methodLink RX5 125 yX0_write ∈ tbl := tbl_2 (i := 96) rfl rfl
theorem tw_2_97 : Cond.instanceMethod yX0_write ∈ tbl := tbl_2 (i := 97) rfl rfl
theorem tw_2_98 : Cond.selects RX0 yX0_write yX0_write ∈ tbl := tbl_2 (i := 98) rfl rfl
theorem tw_2_99 : Cond.code yX0_write cX0_write 3 none ∈ tbl := tbl_2 (i := 99) rfl rfl
theorem tw_2_100 : Cond.methodLink RX0 66 yX3_store ∈ tbl := tbl_2 (i := 100) rfl rfl
theorem tw_2_101 : Cond.instanceMethod yX3_store ∈ tbl := tbl_2 (i := 101) rfl rfl
theorem tw_2_102 : Cond.selects RX3 yX3_store yX3_store ∈ tbl := tbl_2 (i := 102) rfl rfl
theorem tw_2_103 : Cond.code yX3_store cX3_store 6 none ∈ tbl := tbl_2 (i := 103) rfl rfl
theorem tw_2_104 : Cond.constantLong RX3 13 255 ∈ tbl := tbl_2 (i := 104) rfl rfl
theorem tw_2_105 : Cond.constantLong RX3 15 (-1) ∈ tbl := tbl_2 (i := 105) rfl rfl
theorem tw_2_106 : Cond.methodLink RX0 71 yX6_write ∈ tbl := tbl_2 (i := 106) rfl rfl
theorem tw_2_107 : Cond.instanceMethod yX6_write ∈ tbl := tbl_2 (i := 107) rfl rfl
theorem tw_2_108 : Cond.selects RX6 yX6_write yX6_write ∈ tbl := tbl_2 (i := 108) rfl rfl
theorem tw_2_109 : Cond.code yX6_write cX6_write 3 none ∈ tbl := tbl_2 (i := 109) rfl rfl
theorem tw_2_110 : Cond.constant RX6 43 65280 ∈ tbl := tbl_2 (i := 110) rfl rfl
theorem tw_2_111 : Cond.methodLink RX0 75 yX4_write ∈ tbl := tbl_2 (i := 111) rfl rfl
theorem tw_2_112 : Cond.instanceMethod yX4_write ∈ tbl := tbl_2 (i := 112) rfl rfl
theorem tw_2_113 : Cond.selects RX4 yX4_write yX4_write ∈ tbl := tbl_2 (i := 113) rfl rfl
theorem tw_2_114 : Cond.code yX4_write cX4_write 3 none ∈ tbl := tbl_2 (i := 114) rfl rfl
theorem tw_2_115 : Cond.constant RX5 56 65534 ∈ tbl := tbl_2 (i := 115) rfl rfl
theorem tw_2_116 : Cond.methodLink RX5 60 yX5_carryOut ∈ tbl := tbl_2 (i := 116) rfl rfl
theorem tw_2_118 : Cond.instanceMethod yX5_carryOut ∈ tbl := tbl_2 (i := 118) rfl rfl
theorem tw_2_119 : Cond.code yX5_carryOut cX5_carryOut 6 none ∈ tbl := tbl_2 (i := 119) rfl rfl
theorem tw_2_120 : Cond.methodLink RX5 89 yX7_note ∈ tbl := tbl_2 (i := 120) rfl rfl
theorem tw_2_121 : Cond.instanceMethod yX7_note ∈ tbl := tbl_2 (i := 121) rfl rfl
theorem tw_2_122 : Cond.selects RX7 yX7_note yX7_note ∈ tbl := tbl_2 (i := 122) rfl rfl
theorem tw_2_123 : Cond.code yX7_note cX7_note 2 none ∈ tbl := tbl_2 (i := 123) rfl rfl
theorem tw_2_124 : Cond.methodLink RX5 92 yX5_fetch ∈ tbl := tbl_2 (i := 124) rfl rfl
theorem tw_2_126 : Cond.instanceMethod yX5_fetch ∈ tbl := tbl_2 (i := 126) rfl rfl
theorem tw_2_127 : Cond.code yX5_fetch cX5_fetch 2 (some .int) ∈ tbl := tbl_2 (i := 127) rfl rfl
theorem tw_2_128 : Cond.fieldLink RX5 96 RX2 "OPERATIONS" "[I" ∈ tbl := tbl_2 (i := 128) rfl rfl
theorem tw_2_130 : Cond.fieldLink RX5 102 RX2 "MODES" "[I" ∈ tbl := tbl_2 (i := 130) rfl rfl
theorem tw_2_132 : Cond.methodLink RX5 108 yX5_addressOf ∈ tbl := tbl_2 (i := 132) rfl rfl
theorem tw_2_134 : Cond.instanceMethod yX5_addressOf ∈ tbl := tbl_2 (i := 134) rfl rfl
theorem tw_2_135 : Cond.code yX5_addressOf cX5_addressOf 3 (some .int) ∈ tbl := tbl_2 (i := 135) rfl rfl
theorem tw_2_136 : Cond.methodLink RX5 155 yX5_indexed ∈ tbl := tbl_2 (i := 136) rfl rfl
theorem tw_2_138 : Cond.instanceMethod yX5_indexed ∈ tbl := tbl_2 (i := 138) rfl rfl
theorem tw_2_139 : Cond.code yX5_indexed cX5_indexed 4 (some .int) ∈ tbl := tbl_2 (i := 139) rfl rfl
theorem tw_2_140 : Cond.methodLink RX5 158 yX5_pointerAt ∈ tbl := tbl_2 (i := 140) rfl rfl
theorem tw_2_142 : Cond.instanceMethod yX5_pointerAt ∈ tbl := tbl_2 (i := 142) rfl rfl
theorem tw_2_143 : Cond.code yX5_pointerAt cX5_pointerAt 3 (some .int) ∈ tbl := tbl_2 (i := 143) rfl rfl
theorem tw_2_144 : Cond.fieldLink RX5 112 RX2 "CYCLES" "[I" ∈ tbl := tbl_2 (i := 144) rfl rfl
theorem tw_2_146 : Cond.methodLink RX5 115 yX2_paysForCrossing ∈ tbl := tbl_2 (i := 146) rfl rfl
theorem tw_2_147 : Cond.static yX2_paysForCrossing ∈ tbl := tbl_2 (i := 147) rfl rfl
theorem tw_2_148 : Cond.code yX2_paysForCrossing cX2_paysForCrossing 1 (some .boolean) ∈ tbl := tbl_2 (i := 148) rfl rfl
theorem tw_2_149 : Cond.methodLink RX5 119 yX5_use ∈ tbl := tbl_2 (i := 149) rfl rfl
theorem tw_2_151 : Cond.instanceMethod yX5_use ∈ tbl := tbl_2 (i := 151) rfl rfl
theorem tw_2_152 : Cond.code yX5_use cX5_use 3 none ∈ tbl := tbl_2 (i := 152) rfl rfl
theorem tw_2_153 : Cond.methodLink RX5 164 yX5_shown ∈ tbl := tbl_2 (i := 153) rfl rfl
theorem tw_2_155 : Cond.instanceMethod yX5_shown ∈ tbl := tbl_2 (i := 155) rfl rfl
theorem tw_2_156 : Cond.code yX5_shown cX5_shown 3 (some .int) ∈ tbl := tbl_2 (i := 156) rfl rfl
theorem tw_2_157 : Cond.methodLink RX5 167 yX5_compare ∈ tbl := tbl_2 (i := 157) rfl rfl
theorem tw_2_159 : Cond.instanceMethod yX5_compare ∈ tbl := tbl_2 (i := 159) rfl rfl
theorem tw_2_160 : Cond.code yX5_compare cX5_compare 3 none ∈ tbl := tbl_2 (i := 160) rfl rfl
theorem tw_2_161 : Cond.methodLink RX5 179 yX5_mark ∈ tbl := tbl_2 (i := 161) rfl rfl
theorem tw_2_163 : Cond.instanceMethod yX5_mark ∈ tbl := tbl_2 (i := 163) rfl rfl
theorem tw_2_164 : Cond.code yX5_mark cX5_mark 3 none ∈ tbl := tbl_2 (i := 164) rfl rfl
theorem tw_2_165 : Cond.methodLink RX5 170 yX5_addDecimal ∈ tbl := tbl_2 (i := 165) rfl rfl
theorem tw_2_167 : Cond.instanceMethod yX5_addDecimal ∈ tbl := tbl_2 (i := 167) rfl rfl
theorem tw_2_168 : Cond.code yX5_addDecimal cX5_addDecimal 4 none ∈ tbl := tbl_2 (i := 168) rfl rfl
theorem tw_2_169 : Cond.methodLink RX5 183 yX5_changesSign ∈ tbl := tbl_2 (i := 169) rfl rfl
theorem tw_2_171 : Cond.instanceMethod yX5_changesSign ∈ tbl := tbl_2 (i := 171) rfl rfl
theorem tw_2_172 : Cond.code yX5_changesSign cX5_changesSign 3 (some .boolean) ∈ tbl := tbl_2 (i := 172) rfl rfl
theorem tw_2_173 : Cond.methodLink RX5 173 yX5_add ∈ tbl := tbl_2 (i := 173) rfl rfl
theorem tw_2_175 : Cond.instanceMethod yX5_add ∈ tbl := tbl_2 (i := 175) rfl rfl
theorem tw_2_176 : Cond.code yX5_add cX5_add 3 none ∈ tbl := tbl_2 (i := 176) rfl rfl
theorem tw_2_177 : Cond.methodLink RX5 176 yX5_subtractDecimal ∈ tbl := tbl_2 (i := 177) rfl rfl
theorem tw_2_179 : Cond.instanceMethod yX5_subtractDecimal ∈ tbl := tbl_2 (i := 179) rfl rfl
theorem tw_2_180 : Cond.code yX5_subtractDecimal cX5_subtractDecimal 5 none ∈ tbl := tbl_2 (i := 180) rfl rfl
theorem tw_2_181 : Cond.methodLink RX5 122 yX5_stored ∈ tbl := tbl_2 (i := 181) rfl rfl
theorem tw_2_183 : Cond.instanceMethod yX5_stored ∈ tbl := tbl_2 (i := 183) rfl rfl
theorem tw_2_184 : Cond.code yX5_stored cX5_stored 2 (some .int) ∈ tbl := tbl_2 (i := 184) rfl rfl
theorem tw_2_185 : Cond.methodLink RX5 128 yX5_change ∈ tbl := tbl_2 (i := 185) rfl rfl
theorem tw_2_187 : Cond.instanceMethod yX5_change ∈ tbl := tbl_2 (i := 187) rfl rfl
theorem tw_2_188 : Cond.code yX5_change cX5_change 5 none ∈ tbl := tbl_2 (i := 188) rfl rfl
theorem tw_2_189 : Cond.methodLink RX5 187 yX5_changed ∈ tbl := tbl_2 (i := 189) rfl rfl
theorem tw_2_191 : Cond.instanceMethod yX5_changed ∈ tbl := tbl_2 (i := 191) rfl rfl
theorem tw_2_192 : Cond.code yX5_changed cX5_changed 4 (some .int) ∈ tbl := tbl_2 (i := 192) rfl rfl
theorem tw_2_193 : Cond.methodLink RX5 191 yX5_shifted ∈ tbl := tbl_2 (i := 193) rfl rfl
theorem tw_2_195 : Cond.instanceMethod yX5_shifted ∈ tbl := tbl_2 (i := 195) rfl rfl
theorem tw_2_196 : Cond.code yX5_shifted cX5_shifted 3 (some .int) ∈ tbl := tbl_2 (i := 196) rfl rfl
theorem tw_2_197 : Cond.methodLink RX5 132 yX5_move ∈ tbl := tbl_2 (i := 197) rfl rfl
theorem tw_2_199 : Cond.instanceMethod yX5_move ∈ tbl := tbl_2 (i := 199) rfl rfl
theorem tw_2_200 : Cond.code yX5_move cX5_move 2 none ∈ tbl := tbl_2 (i := 200) rfl rfl
theorem tw_2_201 : Cond.methodLink RX5 135 yX5_changeState ∈ tbl := tbl_2 (i := 201) rfl rfl
theorem tw_2_203 : Cond.instanceMethod yX5_changeState ∈ tbl := tbl_2 (i := 203) rfl rfl
theorem tw_2_204 : Cond.code yX5_changeState cX5_changeState 2 none ∈ tbl := tbl_2 (i := 204) rfl rfl
theorem tw_2_205 : Cond.methodLink RX5 138 yX5_pushOrPull ∈ tbl := tbl_2 (i := 205) rfl rfl
theorem tw_2_207 : Cond.instanceMethod yX5_pushOrPull ∈ tbl := tbl_2 (i := 207) rfl rfl
theorem tw_2_208 : Cond.code yX5_pushOrPull cX5_pushOrPull 2 none ∈ tbl := tbl_2 (i := 208) rfl rfl
theorem tw_2_209 : Cond.methodLink RX5 194 yX5_pull ∈ tbl := tbl_2 (i := 209) rfl rfl
theorem tw_2_211 : Cond.instanceMethod yX5_pull ∈ tbl := tbl_2 (i := 211) rfl rfl
theorem tw_2_212 : Cond.code yX5_pull cX5_pull 1 (some .int) ∈ tbl := tbl_2 (i := 212) rfl rfl
theorem tw_2_213 : Cond.methodLink RX5 141 yX5_branch ∈ tbl := tbl_2 (i := 213) rfl rfl
theorem tw_2_215 : Cond.instanceMethod yX5_branch ∈ tbl := tbl_2 (i := 215) rfl rfl
theorem tw_2_216 : Cond.code yX5_branch cX5_branch 4 none ∈ tbl := tbl_2 (i := 216) rfl rfl
theorem tw_2_217 : Cond.methodLink RX5 197 yX5_goIf ∈ tbl := tbl_2 (i := 217) rfl rfl
theorem tw_2_219 : Cond.instanceMethod yX5_goIf ∈ tbl := tbl_2 (i := 219) rfl rfl
theorem tw_2_220 : Cond.code yX5_goIf cX5_goIf 4 none ∈ tbl := tbl_2 (i := 220) rfl rfl
theorem tw_2_221 : Cond.methodLink RX5 145 yX5_jump ∈ tbl := tbl_2 (i := 221) rfl rfl
theorem tw_2_223 : Cond.instanceMethod yX5_jump ∈ tbl := tbl_2 (i := 223) rfl rfl
theorem tw_2_224 : Cond.code yX5_jump cX5_jump 4 none ∈ tbl := tbl_2 (i := 224) rfl rfl
theorem tw_2_225 : Cond.methodLink RX5 71 yX6_pass ∈ tbl := tbl_2 (i := 225) rfl rfl
theorem tw_2_226 : Cond.instanceMethod yX6_pass ∈ tbl := tbl_2 (i := 226) rfl rfl
theorem tw_2_227 : Cond.selects RX6 yX6_pass yX6_pass ∈ tbl := tbl_2 (i := 227) rfl rfl
theorem tw_2_228 : Cond.code yX6_pass cX6_pass 3 none ∈ tbl := tbl_2 (i := 228) rfl rfl
theorem tw_2_229 : Cond.methodLink RX6 44 yX6_passOneOf1 ∈ tbl := tbl_2 (i := 229) rfl rfl
theorem tw_2_231 : Cond.instanceMethod yX6_passOneOf1 ∈ tbl := tbl_2 (i := 231) rfl rfl
theorem tw_2_232 : Cond.code yX6_passOneOf1 cX6_passOneOf1 2 none ∈ tbl := tbl_2 (i := 232) rfl rfl
theorem tw_2_233 : Cond.methodLink RX6 47 yX6_passOneOf2 ∈ tbl := tbl_2 (i := 233) rfl rfl
theorem tw_2_235 : Cond.instanceMethod yX6_passOneOf2 ∈ tbl := tbl_2 (i := 235) rfl rfl
theorem tw_2_236 : Cond.code yX6_passOneOf2 cX6_passOneOf2 1 none ∈ tbl := tbl_2 (i := 236) rfl rfl
theorem tw_3_5 : Cond.methodLink RX8 76 yX4_accept ∈ tbl := tbl_3 (i := 5) rfl rfl
theorem tw_3_6 : Cond.instanceMethod yX4_accept ∈ tbl := tbl_3 (i := 6) rfl rfl
theorem tw_3_7 : Cond.selects RX4 yX4_accept yX4_accept ∈ tbl := tbl_3 (i := 7) rfl rfl
theorem tw_3_8 : Cond.code yX4_accept cX4_accept 2 (some .int) ∈ tbl := tbl_3 (i := 8) rfl rfl
theorem tw_3_13 : Cond.methodLink RX8 82 yX4_sentByte ∈ tbl := tbl_3 (i := 13) rfl rfl
theorem tw_3_14 : Cond.instanceMethod yX4_sentByte ∈ tbl := tbl_3 (i := 14) rfl rfl
theorem tw_3_15 : Cond.selects RX4 yX4_sentByte yX4_sentByte ∈ tbl := tbl_3 (i := 15) rfl rfl
theorem tw_3_16 : Cond.code yX4_sentByte cX4_sentByte 2 (some .int) ∈ tbl := tbl_3 (i := 16) rfl rfl
theorem tw_3_25 : Cond.methodLink RX8 85 yX8_isAddress ∈ tbl := tbl_3 (i := 25) rfl rfl
theorem tw_3_26 : Cond.static yX8_isAddress ∈ tbl := tbl_3 (i := 26) rfl rfl
theorem tw_3_27 : Cond.code yX8_isAddress cX8_isAddress 1 (some .boolean) ∈ tbl := tbl_3 (i := 27) rfl rfl
theorem tw_3_28 : Cond.constant RX8 39 65536 ∈ tbl := tbl_3 (i := 28) rfl rfl
theorem tw_3_29 : Cond.methodLink RX8 111 yX1_add ∈ tbl := tbl_3 (i := 29) rfl rfl
theorem tw_3_30 : Cond.instanceMethod yX1_add ∈ tbl := tbl_3 (i := 30) rfl rfl
theorem tw_3_31 : Cond.selects RX1 yX1_add yX1_add ∈ tbl := tbl_3 (i := 31) rfl rfl
theorem tw_3_32 : Cond.code yX1_add cX1_add 2 (some .boolean) ∈ tbl := tbl_3 (i := 32) rfl rfl
theorem tw_3_33 : Cond.methodLink RX1 23 yX1_has ∈ tbl := tbl_3 (i := 33) rfl rfl
theorem tw_3_34 : Cond.instanceMethod yX1_has ∈ tbl := tbl_3 (i := 34) rfl rfl
theorem tw_3_35 : Cond.selects RX1 yX1_has yX1_has ∈ tbl := tbl_3 (i := 35) rfl rfl
theorem tw_3_36 : Cond.code yX1_has cX1_has 2 (some .boolean) ∈ tbl := tbl_3 (i := 36) rfl rfl
theorem tw_3_37 : Cond.methodLink RX1 15 yX1_find ∈ tbl := tbl_3 (i := 37) rfl rfl
theorem tw_3_39 : Cond.instanceMethod yX1_find ∈ tbl := tbl_3 (i := 39) rfl rfl
theorem tw_3_40 : Cond.code yX1_find cX1_find 3 (some .int) ∈ tbl := tbl_3 (i := 40) rfl rfl
theorem tw_3_45 : Cond.methodLink RX8 114 yX1_remove ∈ tbl := tbl_3 (i := 45) rfl rfl
theorem tw_3_46 : Cond.instanceMethod yX1_remove ∈ tbl := tbl_3 (i := 46) rfl rfl
theorem tw_3_47 : Cond.selects RX1 yX1_remove yX1_remove ∈ tbl := tbl_3 (i := 47) rfl rfl
theorem tw_3_48 : Cond.code yX1_remove cX1_remove 3 (some .boolean) ∈ tbl := tbl_3 (i := 48) rfl rfl
theorem tw_3_53 : Cond.methodLink RX8 121 yX7_kept ∈ tbl := tbl_3 (i := 53) rfl rfl
theorem tw_3_54 : Cond.instanceMethod yX7_kept ∈ tbl := tbl_3 (i := 54) rfl rfl
theorem tw_3_55 : Cond.selects RX7 yX7_kept yX7_kept ∈ tbl := tbl_3 (i := 55) rfl rfl
theorem tw_3_56 : Cond.code yX7_kept cX7_kept 3 (some .int) ∈ tbl := tbl_3 (i := 56) rfl rfl
theorem tw_3_57 : Cond.methodLink RX7 19 yJ9_min_7cf53 ∈ tbl := tbl_3 (i := 57) rfl rfl
theorem tw_3_58 : Cond.static yJ9_min_7cf53 ∈ tbl := tbl_3 (i := 58) rfl rfl
theorem tw_3_59 : Cond.code yJ9_min_7cf53 cJ9_min_7cf53 2 (some .int) ∈ tbl := tbl_3 (i := 59) rfl rfl
theorem tw_3_64 : Cond.constantLong RX8 172 (-1) ∈ tbl := tbl_3 (i := 64) rfl rfl
theorem tw_3_182 : Cond.methodLink RX9 29 yX9_clearDevices ∈ tbl := tbl_3 (i := 182) rfl rfl
theorem tw_3_184 : Cond.instanceMethod yX9_clearDevices ∈ tbl := tbl_3 (i := 184) rfl rfl
theorem tw_3_185 : Cond.code yX9_clearDevices cX9_clearDevices 1 none ∈ tbl := tbl_3 (i := 185) rfl rfl
theorem tw_3_186 : Cond.constant RX9 36 65535 ∈ tbl := tbl_3 (i := 186) rfl rfl
theorem tw_3_187 : Cond.fieldLink RX9 32 RX9 "thrown" "I" ∈ tbl := tbl_3 (i := 187) rfl rfl
theorem tw_3_188 : Cond.fieldLink RX9 8 RX9 "memory" "[I" ∈ tbl := tbl_3 (i := 188) rfl rfl
theorem tw_3_189 : Cond.fieldLink RX9 14 RX9 "\x72" "[I" ∈ tbl := tbl_3 (i := 189) rfl rfl
theorem tw_3_190 : Cond.fieldLink RX9 107 RX9 "p" "I" ∈ tbl := tbl_3 (i := 190) rfl rfl
theorem tw_3_191 : Cond.fieldLink RX9 176 RX9 "pc" "I" ∈ tbl := tbl_3 (i := 191) rfl rfl
theorem tw_3_192 : Cond.fieldLink RX9 43 RX9 "bank" "I" ∈ tbl := tbl_3 (i := 192) rfl rfl
theorem tw_3_193 : Cond.fieldLink RX9 223 RX9 "waits" "Z" ∈ tbl := tbl_3 (i := 193) rfl rfl
theorem tw_3_194 : Cond.fieldLink RX9 226 RX9 "stops" "Z" ∈ tbl := tbl_3 (i := 194) rfl rfl
theorem tw_3_195 : Cond.fieldLink RX9 272 RX9 "edge" "Z" ∈ tbl := tbl_3 (i := 195) rfl rfl
theorem tw_3_196 : Cond.fieldLink RX9 117 RX9 "b" "I" ∈ tbl := tbl_3 (i := 196) rfl rfl
theorem tw_3_197 : Cond.fieldLink RX9 120 RX9 "w" "I" ∈ tbl := tbl_3 (i := 197) rfl rfl
theorem tw_3_198 : Cond.fieldLink RX9 114 RX9 "left" "Z" ∈ tbl := tbl_3 (i := 198) rfl rfl
theorem tw_3_199 : Cond.fieldLink RX9 37 RX9 "counter1" "I" ∈ tbl := tbl_3 (i := 199) rfl rfl
theorem tw_3_200 : Cond.fieldLink RX9 40 RX9 "counter2" "I" ∈ tbl := tbl_3 (i := 200) rfl rfl
theorem tw_3_201 : Cond.fieldLink RX9 64 RX9 "latch1" "I" ∈ tbl := tbl_3 (i := 201) rfl rfl
theorem tw_3_202 : Cond.fieldLink RX9 61 RX9 "latch2" "I" ∈ tbl := tbl_3 (i := 202) rfl rfl
theorem tw_3_203 : Cond.fieldLink RX9 58 RX9 "acr" "I" ∈ tbl := tbl_3 (i := 203) rfl rfl
theorem tw_3_204 : Cond.fieldLink RX9 55 RX9 "ifr" "I" ∈ tbl := tbl_3 (i := 204) rfl rfl
theorem tw_3_205 : Cond.fieldLink RX9 52 RX9 "ier" "I" ∈ tbl := tbl_3 (i := 205) rfl rfl
theorem tw_3_206 : Cond.fieldLink RX9 49 RX9 "command" "I" ∈ tbl := tbl_3 (i := 206) rfl rfl
theorem tw_3_207 : Cond.fieldLink RX9 67 RX9 "armed1" "Z" ∈ tbl := tbl_3 (i := 207) rfl rfl
theorem tw_3_208 : Cond.fieldLink RX9 71 RX9 "armed2" "Z" ∈ tbl := tbl_3 (i := 208) rfl rfl
theorem tw_3_209 : Cond.fieldLink RX9 46 RX9 "waiting" "I" ∈ tbl := tbl_3 (i := 209) rfl rfl
theorem tw_3_210 : Cond.fieldLink RX9 97 RX9 "sent" "I" ∈ tbl := tbl_3 (i := 210) rfl rfl
theorem tw_3_211 : Cond.fieldLink RX9 17 RX9 "queue" "[I" ∈ tbl := tbl_3 (i := 211) rfl rfl
theorem tw_3_212 : Cond.fieldLink RX9 20 RX9 "out" "[I" ∈ tbl := tbl_3 (i := 212) rfl rfl
theorem tw_3_213 : Cond.fieldLink RX9 266 RX9 "cycles" "J" ∈ tbl := tbl_3 (i := 213) rfl rfl
theorem tw_3_214 : Cond.fieldLink RX9 232 RX9 "steps" "J" ∈ tbl := tbl_3 (i := 214) rfl rfl
theorem tw_3_215 : Cond.fieldLink RX9 269 RX9 "interrupts" "J" ∈ tbl := tbl_3 (i := 215) rfl rfl
theorem tw_3_216 : Cond.fieldLink RX9 288 RX9 "breaks" "I" ∈ tbl := tbl_3 (i := 216) rfl rfl
theorem tw_3_217 : Cond.fieldLink RX9 229 RX9 "traced" "I" ∈ tbl := tbl_3 (i := 217) rfl rfl
theorem tw_3_218 : Cond.fieldLink RX9 23 RX9 "breakAt" "[I" ∈ tbl := tbl_3 (i := 218) rfl rfl
theorem tw_3_219 : Cond.fieldLink RX9 26 RX9 "trace" "[I" ∈ tbl := tbl_3 (i := 219) rfl rfl
theorem tw_3_220 : Cond.lays RX9 RX9 "thrown" "I" ∈ tbl := tbl_3 (i := 220) rfl rfl
theorem tw_3_222 : Cond.laysFinal RX9 RX9 "memory" "[I" ∈ tbl := tbl_3 (i := 222) rfl rfl
theorem tw_3_224 : Cond.laysFinal RX9 RX9 "\x72" "[I" ∈ tbl := tbl_3 (i := 224) rfl rfl
theorem tw_3_226 : Cond.lays RX9 RX9 "p" "I" ∈ tbl := tbl_3 (i := 226) rfl rfl
theorem tw_3_228 : Cond.lays RX9 RX9 "pc" "I" ∈ tbl := tbl_3 (i := 228) rfl rfl
theorem tw_3_230 : Cond.lays RX9 RX9 "bank" "I" ∈ tbl := tbl_3 (i := 230) rfl rfl
theorem tw_3_232 : Cond.lays RX9 RX9 "waits" "Z" ∈ tbl := tbl_3 (i := 232) rfl rfl
theorem tw_3_234 : Cond.lays RX9 RX9 "stops" "Z" ∈ tbl := tbl_3 (i := 234) rfl rfl
theorem tw_3_236 : Cond.lays RX9 RX9 "edge" "Z" ∈ tbl := tbl_3 (i := 236) rfl rfl
theorem tw_3_238 : Cond.lays RX9 RX9 "b" "I" ∈ tbl := tbl_3 (i := 238) rfl rfl
theorem tw_4_0 : Cond.lays RX9 RX9 "w" "I" ∈ tbl := tbl_4 (i := 0) rfl rfl
theorem tw_4_2 : Cond.lays RX9 RX9 "left" "Z" ∈ tbl := tbl_4 (i := 2) rfl rfl
theorem tw_4_4 : Cond.lays RX9 RX9 "counter1" "I" ∈ tbl := tbl_4 (i := 4) rfl rfl
theorem tw_4_6 : Cond.lays RX9 RX9 "counter2" "I" ∈ tbl := tbl_4 (i := 6) rfl rfl
theorem tw_4_8 : Cond.lays RX9 RX9 "latch1" "I" ∈ tbl := tbl_4 (i := 8) rfl rfl
theorem tw_4_10 : Cond.lays RX9 RX9 "latch2" "I" ∈ tbl := tbl_4 (i := 10) rfl rfl
theorem tw_4_12 : Cond.lays RX9 RX9 "acr" "I" ∈ tbl := tbl_4 (i := 12) rfl rfl
theorem tw_4_14 : Cond.lays RX9 RX9 "ifr" "I" ∈ tbl := tbl_4 (i := 14) rfl rfl
theorem tw_4_16 : Cond.lays RX9 RX9 "ier" "I" ∈ tbl := tbl_4 (i := 16) rfl rfl
theorem tw_4_18 : Cond.lays RX9 RX9 "command" "I" ∈ tbl := tbl_4 (i := 18) rfl rfl
theorem tw_4_20 : Cond.lays RX9 RX9 "armed1" "Z" ∈ tbl := tbl_4 (i := 20) rfl rfl
theorem tw_4_22 : Cond.lays RX9 RX9 "armed2" "Z" ∈ tbl := tbl_4 (i := 22) rfl rfl
theorem tw_4_24 : Cond.lays RX9 RX9 "waiting" "I" ∈ tbl := tbl_4 (i := 24) rfl rfl
theorem tw_4_26 : Cond.lays RX9 RX9 "sent" "I" ∈ tbl := tbl_4 (i := 26) rfl rfl
theorem tw_4_28 : Cond.laysFinal RX9 RX9 "queue" "[I" ∈ tbl := tbl_4 (i := 28) rfl rfl
theorem tw_4_30 : Cond.laysFinal RX9 RX9 "out" "[I" ∈ tbl := tbl_4 (i := 30) rfl rfl
theorem tw_4_32 : Cond.lays RX9 RX9 "cycles" "J" ∈ tbl := tbl_4 (i := 32) rfl rfl
theorem tw_4_34 : Cond.lays RX9 RX9 "steps" "J" ∈ tbl := tbl_4 (i := 34) rfl rfl
theorem tw_4_36 : Cond.lays RX9 RX9 "interrupts" "J" ∈ tbl := tbl_4 (i := 36) rfl rfl
theorem tw_4_38 : Cond.lays RX9 RX9 "breaks" "I" ∈ tbl := tbl_4 (i := 38) rfl rfl
theorem tw_4_40 : Cond.lays RX9 RX9 "traced" "I" ∈ tbl := tbl_4 (i := 40) rfl rfl
theorem tw_4_42 : Cond.laysFinal RX9 RX9 "breakAt" "[I" ∈ tbl := tbl_4 (i := 42) rfl rfl
theorem tw_4_44 : Cond.laysFinal RX9 RX9 "trace" "[I" ∈ tbl := tbl_4 (i := 44) rfl rfl
theorem tw_4_52 : Cond.instanceMethod yX9_step ∈ tbl := tbl_4 (i := 52) rfl rfl
theorem tw_4_53 : Cond.selects RX9 yX9_step yX9_step ∈ tbl := tbl_4 (i := 53) rfl rfl
theorem tw_4_54 : Cond.code yX9_step cX9_step 3 (some .int) ∈ tbl := tbl_4 (i := 54) rfl rfl
theorem tw_4_55 : Cond.methodLink RX9 282 yX9_once ∈ tbl := tbl_4 (i := 55) rfl rfl
theorem tw_4_57 : Cond.instanceMethod yX9_once ∈ tbl := tbl_4 (i := 57) rfl rfl
theorem tw_4_58 : Cond.code yX9_once cX9_once 1 (some .int) ∈ tbl := tbl_4 (i := 58) rfl rfl
theorem tw_4_59 : Cond.constant RX9 275 65530 ∈ tbl := tbl_4 (i := 59) rfl rfl
theorem tw_4_60 : Cond.methodLink RX9 276 yX9_taken2 ∈ tbl := tbl_4 (i := 60) rfl rfl
theorem tw_4_62 : Cond.instanceMethod yX9_taken2 ∈ tbl := tbl_4 (i := 62) rfl rfl
theorem tw_4_63 : Cond.code yX9_taken2 cX9_taken2 2 (some .int) ∈ tbl := tbl_4 (i := 63) rfl rfl
theorem tw_4_64 : Cond.methodLink RX9 204 yX9_interrupt ∈ tbl := tbl_4 (i := 64) rfl rfl
theorem tw_4_66 : Cond.instanceMethod yX9_interrupt ∈ tbl := tbl_4 (i := 66) rfl rfl
theorem tw_4_67 : Cond.code yX9_interrupt cX9_interrupt 3 none ∈ tbl := tbl_4 (i := 67) rfl rfl
theorem tw_4_68 : Cond.methodLink RX9 199 yX9_push ∈ tbl := tbl_4 (i := 68) rfl rfl
theorem tw_4_70 : Cond.instanceMethod yX9_push ∈ tbl := tbl_4 (i := 70) rfl rfl
theorem tw_4_71 : Cond.code yX9_push cX9_push 2 none ∈ tbl := tbl_4 (i := 71) rfl rfl
theorem tw_4_72 : Cond.methodLink RX9 103 yX9_write ∈ tbl := tbl_4 (i := 72) rfl rfl
theorem tw_4_74 : Cond.instanceMethod yX9_write ∈ tbl := tbl_4 (i := 74) rfl rfl
theorem tw_4_75 : Cond.code yX9_write cX9_write 3 none ∈ tbl := tbl_4 (i := 75) rfl rfl
theorem tw_4_76 : Cond.constant RX9 75 40960 ∈ tbl := tbl_4 (i := 76) rfl rfl
theorem tw_4_77 : Cond.methodLink RX9 78 yX9_cell ∈ tbl := tbl_4 (i := 77) rfl rfl
theorem tw_4_79 : Cond.instanceMethod yX9_cell ∈ tbl := tbl_4 (i := 79) rfl rfl
theorem tw_4_80 : Cond.code yX9_cell cX9_cell 2 (some .int) ∈ tbl := tbl_4 (i := 80) rfl rfl
theorem tw_4_81 : Cond.constant RX9 74 32768 ∈ tbl := tbl_4 (i := 81) rfl rfl
theorem tw_4_82 : Cond.constant RX9 76 49152 ∈ tbl := tbl_4 (i := 82) rfl rfl
theorem tw_4_83 : Cond.constant RX9 77 65536 ∈ tbl := tbl_4 (i := 83) rfl rfl
theorem tw_4_84 : Cond.constant RX9 96 65280 ∈ tbl := tbl_4 (i := 84) rfl rfl
theorem tw_4_85 : Cond.methodLink RX9 110 yX9_flag ∈ tbl := tbl_4 (i := 85) rfl rfl
theorem tw_4_87 : Cond.instanceMethod yX9_flag ∈ tbl := tbl_4 (i := 87) rfl rfl
theorem tw_4_88 : Cond.code yX9_flag cX9_flag 3 none ∈ tbl := tbl_4 (i := 88) rfl rfl
theorem tw_4_89 : Cond.methodLink RX9 179 yX9_wordAt ∈ tbl := tbl_4 (i := 89) rfl rfl
theorem tw_4_91 : Cond.instanceMethod yX9_wordAt ∈ tbl := tbl_4 (i := 91) rfl rfl
theorem tw_4_92 : Cond.code yX9_wordAt cX9_wordAt 3 (some .int) ∈ tbl := tbl_4 (i := 92) rfl rfl
theorem tw_4_93 : Cond.methodLink RX9 100 yX9_read ∈ tbl := tbl_4 (i := 93) rfl rfl
theorem tw_4_95 : Cond.instanceMethod yX9_read ∈ tbl := tbl_4 (i := 95) rfl rfl
theorem tw_4_96 : Cond.code yX9_read cX9_read 4 (some .int) ∈ tbl := tbl_4 (i := 96) rfl rfl
theorem tw_4_97 : Cond.methodLink RX9 90 yX9_see ∈ tbl := tbl_4 (i := 97) rfl rfl
theorem tw_4_99 : Cond.instanceMethod yX9_see ∈ tbl := tbl_4 (i := 99) rfl rfl
theorem tw_4_100 : Cond.code yX9_see cX9_see 2 (some .int) ∈ tbl := tbl_4 (i := 100) rfl rfl
theorem tw_4_101 : Cond.methodLink RX9 82 yX9_flags ∈ tbl := tbl_4 (i := 101) rfl rfl
theorem tw_4_103 : Cond.instanceMethod yX9_flags ∈ tbl := tbl_4 (i := 103) rfl rfl
theorem tw_4_104 : Cond.code yX9_flags cX9_flags 1 (some .int) ∈ tbl := tbl_4 (i := 104) rfl rfl
theorem tw_4_105 : Cond.methodLink RX9 86 yX9_asks ∈ tbl := tbl_4 (i := 105) rfl rfl
theorem tw_4_107 : Cond.instanceMethod yX9_asks ∈ tbl := tbl_4 (i := 107) rfl rfl
theorem tw_4_108 : Cond.code yX9_asks cX9_asks 1 (some .boolean) ∈ tbl := tbl_4 (i := 108) rfl rfl
theorem tw_4_109 : Cond.constant RX9 93 40964 ∈ tbl := tbl_4 (i := 109) rfl rfl
theorem tw_4_110 : Cond.constant RX9 94 40968 ∈ tbl := tbl_4 (i := 110) rfl rfl
theorem tw_4_111 : Cond.constant RX9 95 40976 ∈ tbl := tbl_4 (i := 111) rfl rfl
theorem tw_4_112 : Cond.methodLink RX9 157 yX9_is ∈ tbl := tbl_4 (i := 112) rfl rfl
theorem tw_4_114 : Cond.instanceMethod yX9_is ∈ tbl := tbl_4 (i := 114) rfl rfl
theorem tw_4_115 : Cond.code yX9_is cX9_is 2 (some .boolean) ∈ tbl := tbl_4 (i := 115) rfl rfl
theorem tw_4_116 : Cond.constant RX9 203 65534 ∈ tbl := tbl_4 (i := 116) rfl rfl
theorem tw_4_117 : Cond.methodLink RX9 279 yX9_instruction ∈ tbl := tbl_4 (i := 117) rfl rfl
theorem tw_4_119 : Cond.instanceMethod yX9_instruction ∈ tbl := tbl_4 (i := 119) rfl rfl
theorem tw_4_120 : Cond.code yX9_instruction cX9_instruction 4 (some .int) ∈ tbl := tbl_4 (i := 120) rfl rfl
theorem tw_4_121 : Cond.methodLink RX9 236 yX9_size ∈ tbl := tbl_4 (i := 121) rfl rfl
theorem tw_4_122 : Cond.static yX9_size ∈ tbl := tbl_4 (i := 122) rfl rfl
theorem tw_4_123 : Cond.code yX9_size cX9_size 3 (some .int) ∈ tbl := tbl_4 (i := 123) rfl rfl
theorem tw_4_124 : Cond.methodLink RX9 239 yX9_branch ∈ tbl := tbl_4 (i := 124) rfl rfl
theorem tw_4_126 : Cond.instanceMethod yX9_branch ∈ tbl := tbl_4 (i := 126) rfl rfl
theorem tw_4_127 : Cond.code yX9_branch cX9_branch 4 (some .int) ∈ tbl := tbl_4 (i := 127) rfl rfl
theorem tw_4_128 : Cond.methodLink RX9 195 yX9_jump ∈ tbl := tbl_4 (i := 128) rfl rfl
theorem tw_4_130 : Cond.instanceMethod yX9_jump ∈ tbl := tbl_4 (i := 130) rfl rfl
theorem tw_4_131 : Cond.code yX9_jump cX9_jump 5 (some .int) ∈ tbl := tbl_4 (i := 131) rfl rfl
theorem tw_4_132 : Cond.methodLink RX9 242 yX9_calls ∈ tbl := tbl_4 (i := 132) rfl rfl
theorem tw_4_134 : Cond.instanceMethod yX9_calls ∈ tbl := tbl_4 (i := 134) rfl rfl
theorem tw_4_135 : Cond.code yX9_calls cX9_calls 3 (some .int) ∈ tbl := tbl_4 (i := 135) rfl rfl
theorem tw_4_136 : Cond.methodLink RX9 207 yX9_pull ∈ tbl := tbl_4 (i := 136) rfl rfl
theorem tw_4_138 : Cond.instanceMethod yX9_pull ∈ tbl := tbl_4 (i := 138) rfl rfl
theorem tw_4_139 : Cond.code yX9_pull cX9_pull 1 (some .int) ∈ tbl := tbl_4 (i := 139) rfl rfl
theorem tw_4_140 : Cond.methodLink RX9 173 yX9_loaded ∈ tbl := tbl_4 (i := 140) rfl rfl
theorem tw_4_142 : Cond.instanceMethod yX9_loaded ∈ tbl := tbl_4 (i := 142) rfl rfl
theorem tw_4_143 : Cond.code yX9_loaded cX9_loaded 3 (some .int) ∈ tbl := tbl_4 (i := 143) rfl rfl
theorem tw_4_144 : Cond.methodLink RX9 139 yX9_taken ∈ tbl := tbl_4 (i := 144) rfl rfl
theorem tw_4_146 : Cond.instanceMethod yX9_taken ∈ tbl := tbl_4 (i := 146) rfl rfl
theorem tw_4_147 : Cond.code yX9_taken cX9_taken 2 (some .int) ∈ tbl := tbl_4 (i := 147) rfl rfl
theorem tw_4_148 : Cond.methodLink RX9 130 yX9_address ∈ tbl := tbl_4 (i := 148) rfl rfl
theorem tw_4_150 : Cond.instanceMethod yX9_address ∈ tbl := tbl_4 (i := 150) rfl rfl
theorem tw_4_151 : Cond.code yX9_address cX9_address 2 (some .int) ∈ tbl := tbl_4 (i := 151) rfl rfl
theorem tw_4_152 : Cond.methodLink RX9 123 yX9_indexed ∈ tbl := tbl_4 (i := 152) rfl rfl
theorem tw_4_154 : Cond.instanceMethod yX9_indexed ∈ tbl := tbl_4 (i := 154) rfl rfl
theorem tw_4_155 : Cond.code yX9_indexed cX9_indexed 4 (some .int) ∈ tbl := tbl_4 (i := 155) rfl rfl
theorem tw_4_156 : Cond.methodLink RX9 127 yX9_zeroWord ∈ tbl := tbl_4 (i := 156) rfl rfl
theorem tw_4_158 : Cond.instanceMethod yX9_zeroWord ∈ tbl := tbl_4 (i := 158) rfl rfl
theorem tw_4_159 : Cond.code yX9_zeroWord cX9_zeroWord 3 (some .int) ∈ tbl := tbl_4 (i := 159) rfl rfl
theorem tw_4_160 : Cond.methodLink RX9 142 yX9_tested ∈ tbl := tbl_4 (i := 160) rfl rfl
theorem tw_4_162 : Cond.instanceMethod yX9_tested ∈ tbl := tbl_4 (i := 162) rfl rfl
theorem tw_4_163 : Cond.code yX9_tested cX9_tested 2 (some .int) ∈ tbl := tbl_4 (i := 163) rfl rfl
theorem tw_4_164 : Cond.methodLink RX9 136 yX9_time ∈ tbl := tbl_4 (i := 164) rfl rfl
theorem tw_4_165 : Cond.static yX9_time ∈ tbl := tbl_4 (i := 165) rfl rfl
theorem tw_4_166 : Cond.code yX9_time cX9_time 1 (some .int) ∈ tbl := tbl_4 (i := 166) rfl rfl
theorem tw_4_167 : Cond.methodLink RX9 192 yX9_compared ∈ tbl := tbl_4 (i := 167) rfl rfl
theorem tw_4_169 : Cond.instanceMethod yX9_compared ∈ tbl := tbl_4 (i := 169) rfl rfl
theorem tw_4_170 : Cond.code yX9_compared cX9_compared 3 (some .int) ∈ tbl := tbl_4 (i := 170) rfl rfl
theorem tw_4_171 : Cond.methodLink RX9 148 yX9_compare ∈ tbl := tbl_4 (i := 171) rfl rfl
theorem tw_4_173 : Cond.instanceMethod yX9_compare ∈ tbl := tbl_4 (i := 173) rfl rfl
theorem tw_4_174 : Cond.code yX9_compare cX9_compare 3 none ∈ tbl := tbl_4 (i := 174) rfl rfl
theorem tw_4_175 : Cond.methodLink RX9 245 yX9_alu ∈ tbl := tbl_4 (i := 175) rfl rfl
theorem tw_4_177 : Cond.instanceMethod yX9_alu ∈ tbl := tbl_4 (i := 177) rfl rfl
theorem tw_4_178 : Cond.code yX9_alu cX9_alu 6 (some .int) ∈ tbl := tbl_4 (i := 178) rfl rfl
theorem tw_4_179 : Cond.methodLink RX9 133 yX9_wide ∈ tbl := tbl_4 (i := 179) rfl rfl
theorem tw_4_180 : Cond.static yX9_wide ∈ tbl := tbl_4 (i := 180) rfl rfl
theorem tw_4_181 : Cond.code yX9_wide cX9_wide 2 (some .int) ∈ tbl := tbl_4 (i := 181) rfl rfl
theorem tw_4_182 : Cond.methodLink RX9 145 yX9_add ∈ tbl := tbl_4 (i := 182) rfl rfl
theorem tw_4_184 : Cond.instanceMethod yX9_add ∈ tbl := tbl_4 (i := 184) rfl rfl
theorem tw_4_185 : Cond.code yX9_add cX9_add 4 (some .int) ∈ tbl := tbl_4 (i := 185) rfl rfl
theorem tw_4_186 : Cond.methodLink RX9 154 yX9_carry ∈ tbl := tbl_4 (i := 186) rfl rfl
theorem tw_4_188 : Cond.instanceMethod yX9_carry ∈ tbl := tbl_4 (i := 188) rfl rfl
theorem tw_4_189 : Cond.code yX9_carry cX9_carry 1 (some .int) ∈ tbl := tbl_4 (i := 189) rfl rfl
theorem tw_4_190 : Cond.methodLink RX9 161 yX9_overflows ∈ tbl := tbl_4 (i := 190) rfl rfl
theorem tw_4_192 : Cond.instanceMethod yX9_overflows ∈ tbl := tbl_4 (i := 192) rfl rfl
theorem tw_4_193 : Cond.code yX9_overflows cX9_overflows 3 none ∈ tbl := tbl_4 (i := 193) rfl rfl
theorem tw_4_194 : Cond.methodLink RX9 151 yX9_subtract ∈ tbl := tbl_4 (i := 194) rfl rfl
theorem tw_4_196 : Cond.instanceMethod yX9_subtract ∈ tbl := tbl_4 (i := 196) rfl rfl
theorem tw_4_197 : Cond.code yX9_subtract cX9_subtract 6 (some .int) ∈ tbl := tbl_4 (i := 197) rfl rfl
theorem tw_4_198 : Cond.methodLink RX9 248 yX9_halts ∈ tbl := tbl_4 (i := 198) rfl rfl
theorem tw_4_200 : Cond.instanceMethod yX9_halts ∈ tbl := tbl_4 (i := 200) rfl rfl
theorem tw_4_201 : Cond.code yX9_halts cX9_halts 2 (some .int) ∈ tbl := tbl_4 (i := 201) rfl rfl
theorem tw_4_202 : Cond.methodLink RX9 251 yX9_fours ∈ tbl := tbl_4 (i := 202) rfl rfl
theorem tw_4_204 : Cond.instanceMethod yX9_fours ∈ tbl := tbl_4 (i := 204) rfl rfl
theorem tw_4_205 : Cond.code yX9_fours cX9_fours 4 (some .int) ∈ tbl := tbl_4 (i := 205) rfl rfl
theorem tw_4_206 : Cond.methodLink RX9 167 yX9_narrow ∈ tbl := tbl_4 (i := 206) rfl rfl
theorem tw_4_207 : Cond.static yX9_narrow ∈ tbl := tbl_4 (i := 207) rfl rfl
theorem tw_4_208 : Cond.code yX9_narrow cX9_narrow 3 (some .int) ∈ tbl := tbl_4 (i := 208) rfl rfl
theorem tw_4_209 : Cond.methodLink RX9 182 yX9_marks ∈ tbl := tbl_4 (i := 209) rfl rfl
theorem tw_4_211 : Cond.instanceMethod yX9_marks ∈ tbl := tbl_4 (i := 211) rfl rfl
theorem tw_4_212 : Cond.code yX9_marks cX9_marks 5 (some .int) ∈ tbl := tbl_4 (i := 212) rfl rfl
theorem tw_4_213 : Cond.methodLink RX9 186 yX9_bits ∈ tbl := tbl_4 (i := 213) rfl rfl
theorem tw_4_215 : Cond.instanceMethod yX9_bits ∈ tbl := tbl_4 (i := 215) rfl rfl
theorem tw_4_216 : Cond.code yX9_bits cX9_bits 3 (some .int) ∈ tbl := tbl_4 (i := 216) rfl rfl
theorem tw_4_217 : Cond.methodLink RX9 189 yX9_zeroed ∈ tbl := tbl_4 (i := 217) rfl rfl
theorem tw_4_219 : Cond.instanceMethod yX9_zeroed ∈ tbl := tbl_4 (i := 219) rfl rfl
theorem tw_4_220 : Cond.code yX9_zeroed cX9_zeroed 2 (some .int) ∈ tbl := tbl_4 (i := 220) rfl rfl
theorem tw_4_221 : Cond.methodLink RX9 254 yX9_shifts ∈ tbl := tbl_4 (i := 221) rfl rfl
theorem tw_4_223 : Cond.instanceMethod yX9_shifts ∈ tbl := tbl_4 (i := 223) rfl rfl
theorem tw_4_224 : Cond.code yX9_shifts cX9_shifts 4 (some .int) ∈ tbl := tbl_4 (i := 224) rfl rfl
theorem tw_4_225 : Cond.methodLink RX9 170 yX9_change ∈ tbl := tbl_4 (i := 225) rfl rfl
theorem tw_4_227 : Cond.instanceMethod yX9_change ∈ tbl := tbl_4 (i := 227) rfl rfl
theorem tw_4_228 : Cond.code yX9_change cX9_change 4 (some .int) ∈ tbl := tbl_4 (i := 228) rfl rfl
theorem tw_4_229 : Cond.methodLink RX9 164 yX9_changed ∈ tbl := tbl_4 (i := 229) rfl rfl
theorem tw_4_231 : Cond.instanceMethod yX9_changed ∈ tbl := tbl_4 (i := 231) rfl rfl
theorem tw_4_232 : Cond.code yX9_changed cX9_changed 4 (some .int) ∈ tbl := tbl_4 (i := 232) rfl rfl
theorem tw_4_233 : Cond.methodLink RX9 257 yX9_single ∈ tbl := tbl_4 (i := 233) rfl rfl
theorem tw_4_235 : Cond.instanceMethod yX9_single ∈ tbl := tbl_4 (i := 235) rfl rfl
theorem tw_4_236 : Cond.code yX9_single cX9_single 5 (some .int) ∈ tbl := tbl_4 (i := 236) rfl rfl
theorem tw_4_237 : Cond.methodLink RX9 260 yX9_eights ∈ tbl := tbl_4 (i := 237) rfl rfl
theorem tw_4_239 : Cond.instanceMethod yX9_eights ∈ tbl := tbl_4 (i := 239) rfl rfl
theorem tw_5_0 : Cond.code yX9_eights cX9_eights 2 (some .int) ∈ tbl := tbl_5 (i := 0) rfl rfl
theorem tw_5_1 : Cond.methodLink RX9 210 yX9_stacks ∈ tbl := tbl_5 (i := 1) rfl rfl
theorem tw_5_3 : Cond.instanceMethod yX9_stacks ∈ tbl := tbl_5 (i := 3) rfl rfl
theorem tw_5_4 : Cond.code yX9_stacks cX9_stacks 4 (some .int) ∈ tbl := tbl_5 (i := 4) rfl rfl
theorem tw_5_5 : Cond.methodLink RX9 214 yX9_flagged ∈ tbl := tbl_5 (i := 5) rfl rfl
theorem tw_5_7 : Cond.instanceMethod yX9_flagged ∈ tbl := tbl_5 (i := 7) rfl rfl
theorem tw_5_8 : Cond.code yX9_flagged cX9_flagged 3 (some .int) ∈ tbl := tbl_5 (i := 8) rfl rfl
theorem tw_5_9 : Cond.methodLink RX9 217 yX9_counted ∈ tbl := tbl_5 (i := 9) rfl rfl
theorem tw_5_11 : Cond.instanceMethod yX9_counted ∈ tbl := tbl_5 (i := 11) rfl rfl
theorem tw_5_12 : Cond.code yX9_counted cX9_counted 3 (some .int) ∈ tbl := tbl_5 (i := 12) rfl rfl
theorem tw_5_13 : Cond.methodLink RX9 220 yX9_moved ∈ tbl := tbl_5 (i := 13) rfl rfl
theorem tw_5_15 : Cond.instanceMethod yX9_moved ∈ tbl := tbl_5 (i := 15) rfl rfl
theorem tw_5_16 : Cond.code yX9_moved cX9_moved 3 (some .int) ∈ tbl := tbl_5 (i := 16) rfl rfl
theorem tw_5_17 : Cond.methodLink RX9 263 yX9_tens ∈ tbl := tbl_5 (i := 17) rfl rfl
theorem tw_5_19 : Cond.instanceMethod yX9_tens ∈ tbl := tbl_5 (i := 19) rfl rfl
theorem tw_5_20 : Cond.code yX9_tens cX9_tens 2 (some .int) ∈ tbl := tbl_5 (i := 20) rfl rfl
theorem tw_5_21 : Cond.methodLink RX9 285 yX9_clock ∈ tbl := tbl_5 (i := 21) rfl rfl
theorem tw_5_23 : Cond.instanceMethod yX9_clock ∈ tbl := tbl_5 (i := 23) rfl rfl
theorem tw_5_24 : Cond.code yX9_clock cX9_clock 4 none ∈ tbl := tbl_5 (i := 24) rfl rfl
theorem tw_5_29 : Cond.constant RX9 291 100000 ∈ tbl := tbl_5 (i := 29) rfl rfl
theorem tw_5_30 : Cond.methodLink RX9 292 yX9_fails ∈ tbl := tbl_5 (i := 30) rfl rfl
theorem tw_5_32 : Cond.instanceMethod yX9_fails ∈ tbl := tbl_5 (i := 32) rfl rfl
theorem tw_5_33 : Cond.code yX9_fails cX9_fails 2 (some .boolean) ∈ tbl := tbl_5 (i := 33) rfl rfl
theorem tw_5_34 : Cond.methodLink RX9 296 yX9_step ∈ tbl := tbl_5 (i := 34) rfl rfl
theorem tw_5_35 : Cond.methodLink RX9 299 yX9_find ∈ tbl := tbl_5 (i := 35) rfl rfl
theorem tw_5_37 : Cond.instanceMethod yX9_find ∈ tbl := tbl_5 (i := 37) rfl rfl
theorem tw_5_38 : Cond.code yX9_find cX9_find 3 (some .int) ∈ tbl := tbl_5 (i := 38) rfl rfl
theorem tw_5_43 : Cond.constantLong RX9 302 255 ∈ tbl := tbl_5 (i := 43) rfl rfl
theorem tw_5_48 : Cond.constant RX9 304 65532 ∈ tbl := tbl_5 (i := 48) rfl rfl
theorem tw_5_89 : Cond.constantLong RX9 305 (-1) ∈ tbl := tbl_5 (i := 89) rfl rfl
theorem tw_p_0 : Cond.selects RX5 yX5_wordAt yX5_wordAt ∈ tbl := tbl_p (i := 0) rfl rfl
theorem tw_p_1 : Cond.selects RX0 yX0_cell yX0_cell ∈ tbl := tbl_p (i := 1) rfl rfl
theorem tw_p_2 : Cond.selects RX0 yX0_peekDevice yX0_peekDevice ∈ tbl := tbl_p (i := 2) rfl rfl
theorem tw_p_3 : Cond.selects RX0 yX0_afterReading yX0_afterReading ∈ tbl := tbl_p (i := 3) rfl rfl
theorem tw_p_4 : Cond.selects RX5 yX5_takeInterrupt yX5_takeInterrupt ∈ tbl := tbl_p (i := 4) rfl rfl
theorem tw_p_5 : Cond.selects RX5 yX5_interrupt yX5_interrupt ∈ tbl := tbl_p (i := 5) rfl rfl
theorem tw_p_6 : Cond.selects RX5 yX5_push yX5_push ∈ tbl := tbl_p (i := 6) rfl rfl
theorem tw_p_7 : Cond.selects RX5 yX5_carryOut yX5_carryOut ∈ tbl := tbl_p (i := 7) rfl rfl
theorem tw_p_8 : Cond.selects RX5 yX5_fetch yX5_fetch ∈ tbl := tbl_p (i := 8) rfl rfl
theorem tw_p_9 : Cond.selects RX5 yX5_addressOf yX5_addressOf ∈ tbl := tbl_p (i := 9) rfl rfl
theorem tw_p_10 : Cond.selects RX5 yX5_indexed yX5_indexed ∈ tbl := tbl_p (i := 10) rfl rfl
theorem tw_p_11 : Cond.selects RX5 yX5_pointerAt yX5_pointerAt ∈ tbl := tbl_p (i := 11) rfl rfl
theorem tw_p_12 : Cond.selects RX5 yX5_use yX5_use ∈ tbl := tbl_p (i := 12) rfl rfl
theorem tw_p_13 : Cond.selects RX5 yX5_shown yX5_shown ∈ tbl := tbl_p (i := 13) rfl rfl
theorem tw_p_14 : Cond.selects RX5 yX5_compare yX5_compare ∈ tbl := tbl_p (i := 14) rfl rfl
theorem tw_p_15 : Cond.selects RX5 yX5_mark yX5_mark ∈ tbl := tbl_p (i := 15) rfl rfl
theorem tw_p_16 : Cond.selects RX5 yX5_addDecimal yX5_addDecimal ∈ tbl := tbl_p (i := 16) rfl rfl
theorem tw_p_17 : Cond.selects RX5 yX5_changesSign yX5_changesSign ∈ tbl := tbl_p (i := 17) rfl rfl
theorem tw_p_18 : Cond.selects RX5 yX5_add yX5_add ∈ tbl := tbl_p (i := 18) rfl rfl
theorem tw_p_19 : Cond.selects RX5 yX5_subtractDecimal yX5_subtractDecimal ∈ tbl := tbl_p (i := 19) rfl rfl
theorem tw_p_20 : Cond.selects RX5 yX5_stored yX5_stored ∈ tbl := tbl_p (i := 20) rfl rfl
theorem tw_p_21 : Cond.selects RX5 yX5_change yX5_change ∈ tbl := tbl_p (i := 21) rfl rfl
theorem tw_p_22 : Cond.selects RX5 yX5_changed yX5_changed ∈ tbl := tbl_p (i := 22) rfl rfl
theorem tw_p_23 : Cond.selects RX5 yX5_shifted yX5_shifted ∈ tbl := tbl_p (i := 23) rfl rfl
theorem tw_p_24 : Cond.selects RX5 yX5_move yX5_move ∈ tbl := tbl_p (i := 24) rfl rfl
theorem tw_p_25 : Cond.selects RX5 yX5_changeState yX5_changeState ∈ tbl := tbl_p (i := 25) rfl rfl
theorem tw_p_26 : Cond.selects RX5 yX5_pushOrPull yX5_pushOrPull ∈ tbl := tbl_p (i := 26) rfl rfl
theorem tw_p_27 : Cond.selects RX5 yX5_pull yX5_pull ∈ tbl := tbl_p (i := 27) rfl rfl
theorem tw_p_28 : Cond.selects RX5 yX5_branch yX5_branch ∈ tbl := tbl_p (i := 28) rfl rfl
theorem tw_p_29 : Cond.selects RX5 yX5_goIf yX5_goIf ∈ tbl := tbl_p (i := 29) rfl rfl
theorem tw_p_30 : Cond.selects RX5 yX5_jump yX5_jump ∈ tbl := tbl_p (i := 30) rfl rfl
theorem tw_p_31 : Cond.selects RX6 yX6_passOneOf1 yX6_passOneOf1 ∈ tbl := tbl_p (i := 31) rfl rfl
theorem tw_p_32 : Cond.selects RX6 yX6_passOneOf2 yX6_passOneOf2 ∈ tbl := tbl_p (i := 32) rfl rfl
theorem tw_p_33 : Cond.selects RX1 yX1_find yX1_find ∈ tbl := tbl_p (i := 33) rfl rfl
theorem tw_p_35 : Cond.selects RX9 yX9_clearDevices yX9_clearDevices ∈ tbl := tbl_p (i := 35) rfl rfl
theorem tw_p_36 : Cond.selects RX9 yX9_once yX9_once ∈ tbl := tbl_p (i := 36) rfl rfl
theorem tw_p_37 : Cond.selects RX9 yX9_taken2 yX9_taken2 ∈ tbl := tbl_p (i := 37) rfl rfl
theorem tw_p_38 : Cond.selects RX9 yX9_interrupt yX9_interrupt ∈ tbl := tbl_p (i := 38) rfl rfl
theorem tw_p_39 : Cond.selects RX9 yX9_push yX9_push ∈ tbl := tbl_p (i := 39) rfl rfl
theorem tw_p_40 : Cond.selects RX9 yX9_write yX9_write ∈ tbl := tbl_p (i := 40) rfl rfl
theorem tw_p_41 : Cond.selects RX9 yX9_cell yX9_cell ∈ tbl := tbl_p (i := 41) rfl rfl
theorem tw_p_42 : Cond.selects RX9 yX9_flag yX9_flag ∈ tbl := tbl_p (i := 42) rfl rfl
theorem tw_p_43 : Cond.selects RX9 yX9_wordAt yX9_wordAt ∈ tbl := tbl_p (i := 43) rfl rfl
theorem tw_p_44 : Cond.selects RX9 yX9_read yX9_read ∈ tbl := tbl_p (i := 44) rfl rfl
theorem tw_p_45 : Cond.selects RX9 yX9_see yX9_see ∈ tbl := tbl_p (i := 45) rfl rfl
theorem tw_p_46 : Cond.selects RX9 yX9_flags yX9_flags ∈ tbl := tbl_p (i := 46) rfl rfl
theorem tw_p_47 : Cond.selects RX9 yX9_asks yX9_asks ∈ tbl := tbl_p (i := 47) rfl rfl
theorem tw_p_48 : Cond.selects RX9 yX9_is yX9_is ∈ tbl := tbl_p (i := 48) rfl rfl
theorem tw_p_49 : Cond.selects RX9 yX9_instruction yX9_instruction ∈ tbl := tbl_p (i := 49) rfl rfl
theorem tw_p_50 : Cond.selects RX9 yX9_branch yX9_branch ∈ tbl := tbl_p (i := 50) rfl rfl
theorem tw_p_51 : Cond.selects RX9 yX9_jump yX9_jump ∈ tbl := tbl_p (i := 51) rfl rfl
theorem tw_p_52 : Cond.selects RX9 yX9_calls yX9_calls ∈ tbl := tbl_p (i := 52) rfl rfl
theorem tw_p_53 : Cond.selects RX9 yX9_pull yX9_pull ∈ tbl := tbl_p (i := 53) rfl rfl
theorem tw_p_54 : Cond.selects RX9 yX9_loaded yX9_loaded ∈ tbl := tbl_p (i := 54) rfl rfl
theorem tw_p_55 : Cond.selects RX9 yX9_taken yX9_taken ∈ tbl := tbl_p (i := 55) rfl rfl
theorem tw_p_56 : Cond.selects RX9 yX9_address yX9_address ∈ tbl := tbl_p (i := 56) rfl rfl
theorem tw_p_57 : Cond.selects RX9 yX9_indexed yX9_indexed ∈ tbl := tbl_p (i := 57) rfl rfl
theorem tw_p_58 : Cond.selects RX9 yX9_zeroWord yX9_zeroWord ∈ tbl := tbl_p (i := 58) rfl rfl
theorem tw_p_59 : Cond.selects RX9 yX9_tested yX9_tested ∈ tbl := tbl_p (i := 59) rfl rfl
theorem tw_p_60 : Cond.selects RX9 yX9_compared yX9_compared ∈ tbl := tbl_p (i := 60) rfl rfl
theorem tw_p_61 : Cond.selects RX9 yX9_compare yX9_compare ∈ tbl := tbl_p (i := 61) rfl rfl
theorem tw_p_62 : Cond.selects RX9 yX9_alu yX9_alu ∈ tbl := tbl_p (i := 62) rfl rfl
theorem tw_p_63 : Cond.selects RX9 yX9_add yX9_add ∈ tbl := tbl_p (i := 63) rfl rfl
theorem tw_p_64 : Cond.selects RX9 yX9_carry yX9_carry ∈ tbl := tbl_p (i := 64) rfl rfl
theorem tw_p_65 : Cond.selects RX9 yX9_overflows yX9_overflows ∈ tbl := tbl_p (i := 65) rfl rfl
theorem tw_p_66 : Cond.selects RX9 yX9_subtract yX9_subtract ∈ tbl := tbl_p (i := 66) rfl rfl
theorem tw_p_67 : Cond.selects RX9 yX9_halts yX9_halts ∈ tbl := tbl_p (i := 67) rfl rfl
theorem tw_p_68 : Cond.selects RX9 yX9_fours yX9_fours ∈ tbl := tbl_p (i := 68) rfl rfl
theorem tw_p_69 : Cond.selects RX9 yX9_marks yX9_marks ∈ tbl := tbl_p (i := 69) rfl rfl
theorem tw_p_70 : Cond.selects RX9 yX9_bits yX9_bits ∈ tbl := tbl_p (i := 70) rfl rfl
theorem tw_p_71 : Cond.selects RX9 yX9_zeroed yX9_zeroed ∈ tbl := tbl_p (i := 71) rfl rfl
theorem tw_p_72 : Cond.selects RX9 yX9_shifts yX9_shifts ∈ tbl := tbl_p (i := 72) rfl rfl
theorem tw_p_73 : Cond.selects RX9 yX9_change yX9_change ∈ tbl := tbl_p (i := 73) rfl rfl
theorem tw_p_74 : Cond.selects RX9 yX9_changed yX9_changed ∈ tbl := tbl_p (i := 74) rfl rfl
theorem tw_p_75 : Cond.selects RX9 yX9_single yX9_single ∈ tbl := tbl_p (i := 75) rfl rfl
theorem tw_p_76 : Cond.selects RX9 yX9_eights yX9_eights ∈ tbl := tbl_p (i := 76) rfl rfl
theorem tw_p_77 : Cond.selects RX9 yX9_stacks yX9_stacks ∈ tbl := tbl_p (i := 77) rfl rfl
theorem tw_p_78 : Cond.selects RX9 yX9_flagged yX9_flagged ∈ tbl := tbl_p (i := 78) rfl rfl
theorem tw_p_79 : Cond.selects RX9 yX9_counted yX9_counted ∈ tbl := tbl_p (i := 79) rfl rfl
theorem tw_p_80 : Cond.selects RX9 yX9_moved yX9_moved ∈ tbl := tbl_p (i := 80) rfl rfl
theorem tw_p_81 : Cond.selects RX9 yX9_tens yX9_tens ∈ tbl := tbl_p (i := 81) rfl rfl
theorem tw_p_82 : Cond.selects RX9 yX9_clock yX9_clock ∈ tbl := tbl_p (i := 82) rfl rfl
theorem tw_p_83 : Cond.selects RX9 yX9_fails yX9_fails ∈ tbl := tbl_p (i := 83) rfl rfl
theorem tw_p_84 : Cond.selects RX9 yX9_find yX9_find ∈ tbl := tbl_p (i := 84) rfl rfl
theorem in_X0 : ∀ w ∈ wsX00, w ∈ tbl := by
  intro w hw
  obtain ⟨k, hk, rfl⟩ := List.mem_map.mp hw
  have hk := List.mem_range.mp hk
  match k, hk with
  | 0, _ => exact tw_1_118
  | 1, _ => exact tw_1_120
  | 2, _ => exact tw_1_122
  | 3, _ => exact tw_1_124
  | k + 4, hk => exact absurd hk (by omega)
theorem in_X1 : ∀ w ∈ wsX10, w ∈ tbl := by
  intro w hw
  obtain ⟨k, hk, rfl⟩ := List.mem_map.mp hw
  have hk := List.mem_range.mp hk
  match k, hk with
  | 0, _ => exact tw_1_214
  | 1, _ => exact tw_1_216
  | k + 2, hk => exact absurd hk (by omega)
theorem in_X3 : ∀ w ∈ wsX30, w ∈ tbl := by
  intro w hw
  obtain ⟨k, hk, rfl⟩ := List.mem_map.mp hw
  have hk := List.mem_range.mp hk
  match k, hk with
  | 0, _ => exact tw_1_106
  | k + 1, hk => exact absurd hk (by omega)
theorem in_X4 : ∀ w ∈ wsX40, w ∈ tbl := by
  intro w hw
  obtain ⟨k, hk, rfl⟩ := List.mem_map.mp hw
  have hk := List.mem_range.mp hk
  match k, hk with
  | 0, _ => exact tw_1_84
  | 1, _ => exact tw_1_86
  | 2, _ => exact tw_1_88
  | 3, _ => exact tw_1_90
  | 4, _ => exact tw_1_92
  | 5, _ => exact tw_1_94
  | k + 6, hk => exact absurd hk (by omega)
theorem in_X5 : ∀ w ∈ wsX50, w ∈ tbl := by
  intro w hw
  obtain ⟨k, hk, rfl⟩ := List.mem_map.mp hw
  have hk := List.mem_range.mp hk
  match k, hk with
  | 0, _ => exact tw_1_174
  | 1, _ => exact tw_1_176
  | 2, _ => exact tw_1_178
  | 3, _ => exact tw_1_180
  | 4, _ => exact tw_1_182
  | 5, _ => exact tw_1_184
  | 6, _ => exact tw_1_186
  | 7, _ => exact tw_1_188
  | 8, _ => exact tw_1_190
  | 9, _ => exact tw_1_192
  | 10, _ => exact tw_1_194
  | 11, _ => exact tw_1_196
  | 12, _ => exact tw_1_198
  | 13, _ => exact tw_1_200
  | 14, _ => exact tw_1_202
  | k + 15, hk => exact absurd hk (by omega)
theorem in_X6 : ∀ w ∈ wsX60, w ∈ tbl := by
  intro w hw
  obtain ⟨k, hk, rfl⟩ := List.mem_map.mp hw
  have hk := List.mem_range.mp hk
  match k, hk with
  | 0, _ => exact tw_1_51
  | 1, _ => exact tw_1_53
  | 2, _ => exact tw_1_55
  | 3, _ => exact tw_1_57
  | 4, _ => exact tw_1_59
  | 5, _ => exact tw_1_61
  | 6, _ => exact tw_1_63
  | 7, _ => exact tw_1_65
  | 8, _ => exact tw_1_67
  | k + 9, hk => exact absurd hk (by omega)
theorem in_X7 : ∀ w ∈ wsX70, w ∈ tbl := by
  intro w hw
  obtain ⟨k, hk, rfl⟩ := List.mem_map.mp hw
  have hk := List.mem_range.mp hk
  match k, hk with
  | 0, _ => exact tw_1_142
  | 1, _ => exact tw_1_144
  | k + 2, hk => exact absurd hk (by omega)
theorem in_X8 : ∀ w ∈ wsX80, w ∈ tbl := by
  intro w hw
  obtain ⟨k, hk, rfl⟩ := List.mem_map.mp hw
  have hk := List.mem_range.mp hk
  match k, hk with
  | 0, _ => exact tw_1_222
  | 1, _ => exact tw_1_224
  | 2, _ => exact tw_1_226
  | k + 3, hk => exact absurd hk (by omega)
theorem in_X9 : ∀ w ∈ wsX90, w ∈ tbl := by
  intro w hw
  obtain ⟨k, hk, rfl⟩ := List.mem_map.mp hw
  have hk := List.mem_range.mp hk
  match k, hk with
  | 0, _ => exact tw_3_220
  | 1, _ => exact tw_3_222
  | 2, _ => exact tw_3_224
  | 3, _ => exact tw_3_226
  | 4, _ => exact tw_3_228
  | 5, _ => exact tw_3_230
  | 6, _ => exact tw_3_232
  | 7, _ => exact tw_3_234
  | 8, _ => exact tw_3_236
  | 9, _ => exact tw_3_238
  | 10, _ => exact tw_4_0
  | 11, _ => exact tw_4_2
  | 12, _ => exact tw_4_4
  | 13, _ => exact tw_4_6
  | 14, _ => exact tw_4_8
  | 15, _ => exact tw_4_10
  | 16, _ => exact tw_4_12
  | 17, _ => exact tw_4_14
  | 18, _ => exact tw_4_16
  | 19, _ => exact tw_4_18
  | 20, _ => exact tw_4_20
  | 21, _ => exact tw_4_22
  | 22, _ => exact tw_4_24
  | 23, _ => exact tw_4_26
  | 24, _ => exact tw_4_28
  | 25, _ => exact tw_4_30
  | 26, _ => exact tw_4_32
  | 27, _ => exact tw_4_34
  | 28, _ => exact tw_4_36
  | 29, _ => exact tw_4_38
  | 30, _ => exact tw_4_40
  | 31, _ => exact tw_4_42
  | 32, _ => exact tw_4_44
  | k + 33, hk => exact absurd hk (by omega)
abbrev wsX0_afterReading : List Cond := .code yX0_afterReading cX0_afterReading 2 none :: tbl
abbrev wsX0_asks : List Cond := .code yX0_asks cX0_asks 1 (some .boolean) :: tbl
abbrev wsX0_cell : List Cond := .code yX0_cell cX0_cell 2 (some .int) :: tbl
abbrev wsX0_init : List Cond := .code yX0_init cX0_init 1 none :: tbl
abbrev wsX0_isDevice : List Cond := .code yX0_isDevice cX0_isDevice 1 (some .boolean) :: tbl
abbrev wsX0_peek : List Cond := .code yX0_peek cX0_peek 2 (some .int) :: tbl
abbrev wsX0_peekDevice : List Cond := .code yX0_peekDevice cX0_peekDevice 2 (some .int) :: tbl
abbrev wsX0_place : List Cond := .code yX0_place cX0_place 3 none :: tbl
abbrev wsX0_read : List Cond := .code yX0_read cX0_read 3 (some .int) :: tbl
abbrev wsX0_restart : List Cond := .code yX0_restart cX0_restart 1 none :: tbl
abbrev wsX0_write : List Cond := .code yX0_write cX0_write 3 none :: tbl
abbrev wsX1_add : List Cond := .code yX1_add cX1_add 2 (some .boolean) :: tbl
abbrev wsX1_find : List Cond := .code yX1_find cX1_find 3 (some .int) :: tbl
abbrev wsX1_has : List Cond := .code yX1_has cX1_has 2 (some .boolean) :: tbl
abbrev wsX1_init : List Cond := .code yX1_init cX1_init 1 none :: tbl
abbrev wsX1_remove : List Cond := .code yX1_remove cX1_remove 3 (some .boolean) :: tbl
abbrev wsX2_paysForCrossing : List Cond := .code yX2_paysForCrossing cX2_paysForCrossing 1 (some .boolean) :: tbl
abbrev wsX3_byteAt : List Cond := .code yX3_byteAt cX3_byteAt 2 (some .int) :: tbl
abbrev wsX3_init : List Cond := .code yX3_init cX3_init 2 none :: tbl
abbrev wsX3_store : List Cond := .code yX3_store cX3_store 6 none :: tbl
abbrev wsX4_accept : List Cond := .code yX4_accept cX4_accept 2 (some .int) :: tbl
abbrev wsX4_afterReading : List Cond := .code yX4_afterReading cX4_afterReading 2 none :: tbl
abbrev wsX4_asks : List Cond := .code yX4_asks cX4_asks 1 (some .boolean) :: tbl
abbrev wsX4_init : List Cond := .code yX4_init cX4_init 1 none :: tbl
abbrev wsX4_peek : List Cond := .code yX4_peek cX4_peek 2 (some .int) :: tbl
abbrev wsX4_restart : List Cond := .code yX4_restart cX4_restart 1 none :: tbl
abbrev wsX4_sentByte : List Cond := .code yX4_sentByte cX4_sentByte 2 (some .int) :: tbl
abbrev wsX4_write : List Cond := .code yX4_write cX4_write 3 none :: tbl
abbrev wsX5_add : List Cond := .code yX5_add cX5_add 3 none :: tbl
abbrev wsX5_addDecimal : List Cond := .code yX5_addDecimal cX5_addDecimal 4 none :: tbl
abbrev wsX5_addressOf : List Cond := .code yX5_addressOf cX5_addressOf 3 (some .int) :: tbl
abbrev wsX5_advance : List Cond := .code yX5_advance cX5_advance 2 (some .int) :: tbl
abbrev wsX5_branch : List Cond := .code yX5_branch cX5_branch 4 none :: tbl
abbrev wsX5_carryOut : List Cond := .code yX5_carryOut cX5_carryOut 6 none :: tbl
abbrev wsX5_change : List Cond := .code yX5_change cX5_change 5 none :: tbl
abbrev wsX5_changeState : List Cond := .code yX5_changeState cX5_changeState 2 none :: tbl
abbrev wsX5_changed : List Cond := .code yX5_changed cX5_changed 4 (some .int) :: tbl
abbrev wsX5_changesSign : List Cond := .code yX5_changesSign cX5_changesSign 3 (some .boolean) :: tbl
abbrev wsX5_compare : List Cond := .code yX5_compare cX5_compare 3 none :: tbl
abbrev wsX5_fetch : List Cond := .code yX5_fetch cX5_fetch 2 (some .int) :: tbl
abbrev wsX5_goIf : List Cond := .code yX5_goIf cX5_goIf 4 none :: tbl
abbrev wsX5_indexed : List Cond := .code yX5_indexed cX5_indexed 4 (some .int) :: tbl
abbrev wsX5_init : List Cond := .code yX5_init cX5_init 2 none :: tbl
abbrev wsX5_interrupt : List Cond := .code yX5_interrupt cX5_interrupt 3 none :: tbl
abbrev wsX5_jump : List Cond := .code yX5_jump cX5_jump 4 none :: tbl
abbrev wsX5_mark : List Cond := .code yX5_mark cX5_mark 3 none :: tbl
abbrev wsX5_move : List Cond := .code yX5_move cX5_move 2 none :: tbl
abbrev wsX5_pointerAt : List Cond := .code yX5_pointerAt cX5_pointerAt 3 (some .int) :: tbl
abbrev wsX5_pull : List Cond := .code yX5_pull cX5_pull 1 (some .int) :: tbl
abbrev wsX5_push : List Cond := .code yX5_push cX5_push 2 none :: tbl
abbrev wsX5_pushOrPull : List Cond := .code yX5_pushOrPull cX5_pushOrPull 2 none :: tbl
abbrev wsX5_restart : List Cond := .code yX5_restart cX5_restart 1 none :: tbl
abbrev wsX5_shifted : List Cond := .code yX5_shifted cX5_shifted 3 (some .int) :: tbl
abbrev wsX5_shown : List Cond := .code yX5_shown cX5_shown 3 (some .int) :: tbl
abbrev wsX5_stored : List Cond := .code yX5_stored cX5_stored 2 (some .int) :: tbl
abbrev wsX5_subtractDecimal : List Cond := .code yX5_subtractDecimal cX5_subtractDecimal 5 none :: tbl
abbrev wsX5_takeInterrupt : List Cond := .code yX5_takeInterrupt cX5_takeInterrupt 2 none :: tbl
abbrev wsX5_use : List Cond := .code yX5_use cX5_use 3 none :: tbl
abbrev wsX5_wordAt : List Cond := .code yX5_wordAt cX5_wordAt 3 (some .int) :: tbl
abbrev wsX6_afterReading : List Cond := .code yX6_afterReading cX6_afterReading 2 none :: tbl
abbrev wsX6_asks : List Cond := .code yX6_asks cX6_asks 1 (some .boolean) :: tbl
abbrev wsX6_init : List Cond := .code yX6_init cX6_init 1 none :: tbl
abbrev wsX6_pass : List Cond := .code yX6_pass cX6_pass 3 none :: tbl
abbrev wsX6_passOneOf1 : List Cond := .code yX6_passOneOf1 cX6_passOneOf1 2 none :: tbl
abbrev wsX6_passOneOf2 : List Cond := .code yX6_passOneOf2 cX6_passOneOf2 1 none :: tbl
abbrev wsX6_peek : List Cond := .code yX6_peek cX6_peek 2 (some .int) :: tbl
abbrev wsX6_restart : List Cond := .code yX6_restart cX6_restart 1 none :: tbl
abbrev wsX6_write : List Cond := .code yX6_write cX6_write 3 none :: tbl
abbrev wsX7_init : List Cond := .code yX7_init cX7_init 1 none :: tbl
abbrev wsX7_kept : List Cond := .code yX7_kept cX7_kept 3 (some .int) :: tbl
abbrev wsX7_note : List Cond := .code yX7_note cX7_note 2 none :: tbl
abbrev wsX8_clearBreak : List Cond := .code yX8_clearBreak cX8_clearBreak 2 (some .boolean) :: tbl
abbrev wsX8_count : List Cond := .code yX8_count cX8_count 2 (some .long) :: tbl
abbrev wsX8_init : List Cond := .code yX8_init cX8_init 1 none :: tbl
abbrev wsX8_isAddress : List Cond := .code yX8_isAddress cX8_isAddress 1 (some .boolean) :: tbl
abbrev wsX8_load : List Cond := .code yX8_load cX8_load 6 none :: tbl
abbrev wsX8_look : List Cond := .code yX8_look cX8_look 2 (some .int) :: tbl
abbrev wsX8_nmi : List Cond := .code yX8_nmi cX8_nmi 1 none :: tbl
abbrev wsX8_receive : List Cond := .code yX8_receive cX8_receive 2 (some .int) :: tbl
abbrev wsX8_register : List Cond := .code yX8_register cX8_register 2 (some .int) :: tbl
abbrev wsX8_reset : List Cond := .code yX8_reset cX8_reset 1 none :: tbl
abbrev wsX8_run : List Cond := .code yX8_run cX8_run 3 (some .int) :: tbl
abbrev wsX8_sent : List Cond := .code yX8_sent cX8_sent 2 (some .int) :: tbl
abbrev wsX8_set : List Cond := .code yX8_set cX8_set 3 none :: tbl
abbrev wsX8_setBreak : List Cond := .code yX8_setBreak cX8_setBreak 2 (some .boolean) :: tbl
abbrev wsX8_step : List Cond := .code yX8_step cX8_step 1 (some .int) :: tbl
abbrev wsX8_trace : List Cond := .code yX8_trace cX8_trace 2 (some .int) :: tbl
abbrev wsX9_add : List Cond := .code yX9_add cX9_add 4 (some .int) :: tbl
abbrev wsX9_address : List Cond := .code yX9_address cX9_address 2 (some .int) :: tbl
abbrev wsX9_alu : List Cond := .code yX9_alu cX9_alu 6 (some .int) :: tbl
abbrev wsX9_asks : List Cond := .code yX9_asks cX9_asks 1 (some .boolean) :: tbl
abbrev wsX9_bits : List Cond := .code yX9_bits cX9_bits 3 (some .int) :: tbl
abbrev wsX9_branch : List Cond := .code yX9_branch cX9_branch 4 (some .int) :: tbl
abbrev wsX9_calls : List Cond := .code yX9_calls cX9_calls 3 (some .int) :: tbl
abbrev wsX9_carry : List Cond := .code yX9_carry cX9_carry 1 (some .int) :: tbl
abbrev wsX9_cell : List Cond := .code yX9_cell cX9_cell 2 (some .int) :: tbl
abbrev wsX9_change : List Cond := .code yX9_change cX9_change 4 (some .int) :: tbl
abbrev wsX9_changed : List Cond := .code yX9_changed cX9_changed 4 (some .int) :: tbl
abbrev wsX9_clearBreak : List Cond := .code yX9_clearBreak cX9_clearBreak 3 (some .boolean) :: tbl
abbrev wsX9_clearDevices : List Cond := .code yX9_clearDevices cX9_clearDevices 1 none :: tbl
abbrev wsX9_clock : List Cond := .code yX9_clock cX9_clock 4 none :: tbl
abbrev wsX9_compare : List Cond := .code yX9_compare cX9_compare 3 none :: tbl
abbrev wsX9_compared : List Cond := .code yX9_compared cX9_compared 3 (some .int) :: tbl
abbrev wsX9_count : List Cond := .code yX9_count cX9_count 2 (some .long) :: tbl
abbrev wsX9_counted : List Cond := .code yX9_counted cX9_counted 3 (some .int) :: tbl
abbrev wsX9_eights : List Cond := .code yX9_eights cX9_eights 2 (some .int) :: tbl
abbrev wsX9_fails : List Cond := .code yX9_fails cX9_fails 2 (some .boolean) :: tbl
abbrev wsX9_find : List Cond := .code yX9_find cX9_find 3 (some .int) :: tbl
abbrev wsX9_flag : List Cond := .code yX9_flag cX9_flag 3 none :: tbl
abbrev wsX9_flagged : List Cond := .code yX9_flagged cX9_flagged 3 (some .int) :: tbl
abbrev wsX9_flags : List Cond := .code yX9_flags cX9_flags 1 (some .int) :: tbl
abbrev wsX9_fours : List Cond := .code yX9_fours cX9_fours 4 (some .int) :: tbl
abbrev wsX9_halts : List Cond := .code yX9_halts cX9_halts 2 (some .int) :: tbl
abbrev wsX9_indexed : List Cond := .code yX9_indexed cX9_indexed 4 (some .int) :: tbl
abbrev wsX9_init : List Cond := .code yX9_init cX9_init 1 none :: tbl
abbrev wsX9_instruction : List Cond := .code yX9_instruction cX9_instruction 4 (some .int) :: tbl
abbrev wsX9_interrupt : List Cond := .code yX9_interrupt cX9_interrupt 3 none :: tbl
abbrev wsX9_is : List Cond := .code yX9_is cX9_is 2 (some .boolean) :: tbl
abbrev wsX9_jump : List Cond := .code yX9_jump cX9_jump 5 (some .int) :: tbl
abbrev wsX9_load : List Cond := .code yX9_load cX9_load 7 none :: tbl
abbrev wsX9_loaded : List Cond := .code yX9_loaded cX9_loaded 3 (some .int) :: tbl
abbrev wsX9_look : List Cond := .code yX9_look cX9_look 2 (some .int) :: tbl
abbrev wsX9_marks : List Cond := .code yX9_marks cX9_marks 5 (some .int) :: tbl
abbrev wsX9_moved : List Cond := .code yX9_moved cX9_moved 3 (some .int) :: tbl
abbrev wsX9_narrow : List Cond := .code yX9_narrow cX9_narrow 3 (some .int) :: tbl
abbrev wsX9_nmi : List Cond := .code yX9_nmi cX9_nmi 1 none :: tbl
abbrev wsX9_once : List Cond := .code yX9_once cX9_once 1 (some .int) :: tbl
abbrev wsX9_overflows : List Cond := .code yX9_overflows cX9_overflows 3 none :: tbl
abbrev wsX9_pull : List Cond := .code yX9_pull cX9_pull 1 (some .int) :: tbl
abbrev wsX9_push : List Cond := .code yX9_push cX9_push 2 none :: tbl
abbrev wsX9_read : List Cond := .code yX9_read cX9_read 4 (some .int) :: tbl
abbrev wsX9_receive : List Cond := .code yX9_receive cX9_receive 2 (some .int) :: tbl
abbrev wsX9_register : List Cond := .code yX9_register cX9_register 2 (some .int) :: tbl
abbrev wsX9_reset : List Cond := .code yX9_reset cX9_reset 1 none :: tbl
abbrev wsX9_run : List Cond := .code yX9_run cX9_run 3 (some .int) :: tbl
abbrev wsX9_see : List Cond := .code yX9_see cX9_see 2 (some .int) :: tbl
abbrev wsX9_sent : List Cond := .code yX9_sent cX9_sent 2 (some .int) :: tbl
abbrev wsX9_set : List Cond := .code yX9_set cX9_set 3 none :: tbl
abbrev wsX9_setBreak : List Cond := .code yX9_setBreak cX9_setBreak 2 (some .boolean) :: tbl
abbrev wsX9_shifts : List Cond := .code yX9_shifts cX9_shifts 4 (some .int) :: tbl
abbrev wsX9_single : List Cond := .code yX9_single cX9_single 5 (some .int) :: tbl
abbrev wsX9_size : List Cond := .code yX9_size cX9_size 3 (some .int) :: tbl
abbrev wsX9_stacks : List Cond := .code yX9_stacks cX9_stacks 4 (some .int) :: tbl
abbrev wsX9_step : List Cond := .code yX9_step cX9_step 3 (some .int) :: tbl
abbrev wsX9_subtract : List Cond := .code yX9_subtract cX9_subtract 6 (some .int) :: tbl
abbrev wsX9_taken : List Cond := .code yX9_taken cX9_taken 2 (some .int) :: tbl
abbrev wsX9_taken2 : List Cond := .code yX9_taken2 cX9_taken2 2 (some .int) :: tbl
abbrev wsX9_tens : List Cond := .code yX9_tens cX9_tens 2 (some .int) :: tbl
abbrev wsX9_tested : List Cond := .code yX9_tested cX9_tested 2 (some .int) :: tbl
abbrev wsX9_thrown : List Cond := .code yX9_thrown cX9_thrown 1 (some .int) :: tbl
abbrev wsX9_time : List Cond := .code yX9_time cX9_time 1 (some .int) :: tbl
abbrev wsX9_trace : List Cond := .code yX9_trace cX9_trace 3 (some .int) :: tbl
abbrev wsX9_wide : List Cond := .code yX9_wide cX9_wide 2 (some .int) :: tbl
abbrev wsX9_wordAt : List Cond := .code yX9_wordAt cX9_wordAt 3 (some .int) :: tbl
abbrev wsX9_write : List Cond := .code yX9_write cX9_write 3 none :: tbl
abbrev wsX9_zeroWord : List Cond := .code yX9_zeroWord cX9_zeroWord 3 (some .int) :: tbl
abbrev wsX9_zeroed : List Cond := .code yX9_zeroed cX9_zeroed 2 (some .int) :: tbl
/-! what every contract begins and ends with -/
abbrev cpre (dC : Nat → ClassId) (dI : Nat → Nat → Nat) (cI cJ : ClassId) (w : va_W) (sz : Nat) (U : State) : Prop := U.heap.size = sz ∧ va_P (dC, dI) vwCl w U.heap ∧ va_K (dC, dI) vwCl [(cI, .int), (cJ, .long)] U ∧ va_D (fun _ => True) w
abbrev cpost (dC : Nat → ClassId) (dI : Nat → Nat → Nat) (cI cJ : ClassId) (A : Nat → Prop) (w : va_W) (t : State) : Prop := va_P (dC, dI) vwCl w t.heap ∧ va_K (dC, dI) vwCl [(cI, .int), (cJ, .long)] t ∧ va_D A w
theorem cpre_blind {av : List Value} {dC : Nat → ClassId} {dI : Nat → Nat → Nat} {cI cJ : ClassId} {w : va_W} {sz : Nat} : FrameBlind (va_Pc av (cpre dC dI cI cJ w sz)) := fun a U g mk q => by
  obtain ⟨q0, q1, qP, qK, qD⟩ := q
  exact ⟨q0, q1, qP, va_K.moved (u := U) (U := U.calling g mk a) (Vm.Alike.refl U.vm) qK, qD⟩
theorem cpre_V {s : State} {H : Heap} {dC : Nat → ClassId} {dI : Nat → Nat → Nat} {cI cJ : ClassId} {w : va_W} {A : Nat → Prop} {ci q0 b : Nat} {q : vw_C} {fs As : List Value} (hK : va_K (dC, dI) vwCl [(cI, .int), (cJ, .long)] s) (hP : va_P (dC, dI) vwCl w H) (hD : va_D A w) (hc : vwCl[ci]? = some q) (he : w[q0]? = some (b, .inr (ci, fs))) : PreV s H q.1 b (va_Pc (.ref b :: As) (cpre dC dI cI cJ w H.size)) As :=
  ⟨cpre_blind, va_recv hK hP hc he, fun U hU hW => ⟨rfl, by rw [hU], by rw [hU]; exact hP, va_K.moved hW.alike hK, hD.weaken (fun _ _ _ _ => trivial)⟩⟩
theorem cpre_S {s : State} {H : Heap} {dC : Nat → ClassId} {dI : Nat → Nat → Nat} {cI cJ : ClassId} {w : va_W} {A : Nat → Prop} {As : List Value} (hK : va_K (dC, dI) vwCl [(cI, .int), (cJ, .long)] s) (hP : va_P (dC, dI) vwCl w H) (hD : va_D A w) : PreS s H (va_Pc As (cpre dC dI cI cJ w H.size)) As :=
  ⟨cpre_blind, fun U hU hW => ⟨rfl, by rw [hU], by rw [hU]; exact hP, va_K.moved hW.alike hK, hD.weaken (fun _ _ _ _ => trivial)⟩⟩
theorem cjoin {dC : Nat → ClassId} {dI : Nat → Nat → Nat} {cI cJ : ClassId} {A0 : Nat → Prop} {ws wc w1 : va_W} {H H1 : Heap} {t : State} (ht : t.heap = H1) (hP : va_P (dC, dI) vwCl ws H) (hD : va_D A0 ws) (isC isR : List Nat) (hC : isC.map (fun i => ws[i]?) = wc.map some) (hR : isR.map (fun i => ws[i]?) = (isR.filterMap (fun i => ws[i]?)).map some) (hn : va_nd isR = true) (hdis : ∀ i ∈ isR, i ∉ isC)
    (hk : ∀ q : Nat, q < H.size → ¬ va_A wc H.size q → H1[q]? = H[q]?) (hF : ∀ q, va_A wc H.size q → A0 q) (hB : cpost dC dI cI cJ (va_A wc H.size) w1 t) : va_P (dC, dI) vwCl (isR.filterMap (fun i => ws[i]?) ++ w1) H1 ∧ va_D A0 (isR.filterMap (fun i => ws[i]?) ++ w1) := by
  subst ht
  exact va_join hP hD isC isR hC hR hn hdis hk hF hB.1 hB.2.2
theorem cjoin_w {dC : Nat → ClassId} {dI : Nat → Nat → Nat} {cI cJ : ClassId} {A0 : Nat → Prop} {wc w1 : va_W} {H H1 : Heap} {t : State} (ht : t.heap = H1) (hB : cpost dC dI cI cJ (va_A wc H.size) w1 t) (hF : ∀ q, va_A wc H.size q → A0 q) : va_P (dC, dI) vwCl w1 H1 ∧ va_D A0 w1 := by
  subst ht
  exact ⟨hB.1, hB.2.2.weaken (fun _ _ _ h => hF _ h)⟩
/-! the default of a switch -/
theorem tb_ne {x k : Int32} {n : Int} (h : ¬ x = k) (hk : k.toInt = n) : x.toInt ≠ n := fun e => h (Int32.toInt_inj.mp (e.trans hk.symm))
section TB
variable {p : Program} {l : Launch} {e : Env} {R : Room} {s : State} {m : MethodId} {args : Array Value} {below : List Frame} {meth : Method} {c : Code} {H : Heap} {locs : List Loc} {cells slots : Nat} {Q : State → Prop} {cc : ByteArray} {pc : Nat} {ls : Array Slot} {rest : List Value}
theorem tb_def (hexec : p.tables.exec = Jvm.exec) (hb : c.code = cc) {dflt lo hi : Int} {offs : Array Int} {len : Nat} {x : Int32} {tgt : Nat} {keys : List Int} (hdg : decode cc pc = .ok (.tableswitch dflt lo hi offs, len)) (hk : ∀ k ∈ keys, x.toInt ≠ k) (ht : (pc : Int) + dflt = (tgt : Int)) (hall : ∀ j : Fin ((hi - lo + 1).toNat), (lo + (j.val : Int)) ∈ keys ∨ offs[j.val]? = some dflt)
    (k : W p l e R s m args below meth c H locs cells slots Q (F0 m tgt ls rest)) : W p l e R s m args below meth c H locs cells slots Q (F0 m pc ls (.int x :: rest)) := by
  by_cases h1 : x.toInt < lo
  · exact lv_tableOut hexec hb hdg (Or.inl h1) ht k
  · by_cases h2 : hi < x.toInt
    · exact lv_tableOut hexec hb hdg (Or.inr h2) ht k
    · refine lv_tableIn hexec hb hdg h1 h2 ?_ ht k
      have hj : (x.toInt - lo).toNat < (hi - lo + 1).toNat := by omega
      rcases hall ⟨_, hj⟩ with h | h
      · exact absurd (show x.toInt = lo + (((x.toInt - lo).toNat : Nat) : Int) by omega) (hk _ h)
      · exact h
end TB
theorem lk_def {x : Int} {dflt : Int} {keys : List Int} : ∀ {ps : List (Int × Int)}, (∀ k ∈ keys, x ≠ k) → (∀ q ∈ ps, q.1 ∈ keys) → Op.lookupswitch.offset ps dflt x = dflt
  | [], _, _ => rfl
  | (a, o) :: r, hk, hp => by
    rw [Op.lookupswitch.offset_cons, if_neg (fun h => hk a (hp (a, o) List.mem_cons_self) h.symm)]
    exact lk_def hk (fun q hq => hp q (List.mem_cons_of_mem _ hq))
def tab0 : List Int32 := [117, 0, 71, 71, 38, 0, 32, 40, 83, 0, 32, 71, 38, 0, 32, 105, 96, 0, 0, 71, 39, 0, 32, 40, 64, 0, 36, 71, 39, 0, 32, 105, 114, 1, 71, 71, 11, 1, 33, 40, 87, 1, 33, 71, 11, 1, 33, 105, 97, 1, 1, 71, 11, 1, 33, 40, 65, 1, 37, 71, 11, 1, 33, 105, 116, 2, 71, 71, 71, 2, 34, 40, 80, 2, 34, 71, 112, 2, 34, 105, 98, 2, 2, 71, 71, 2, 34, 40, 66, 2, 82, 71, 71, 2, 34, 105, 115, 3, 71, 71, 19, 3, 35, 40, 84, 3, 35, 71, 113, 3, 35, 105, 99, 3, 3, 71, 19, 3, 35, 40, 67, 3, 86, 71, 113, 3, 35, 105, 104, 16, 71, 71, 18, 16, 17, 41, 51, 12, 54, 71, 18, 16, 17, 106, 100, 16, 16, 71, 18, 16, 17, 41, 55, 16, 57, 71, 19, 16, 19, 106, 8, 4, 7, 71, 8, 4, 7, 41, 53, 4, 52, 71, 8, 4, 7, 106, 101, 4, 4, 71, 8, 4, 7, 41, 68, 4, 56, 71, 8, 4, 7, 106, 10, 5, 71, 71, 10, 5, 37, 41, 49, 5, 50, 72, 10, 5, 37, 106, 102, 5, 5, 71, 71, 5, 37, 41, 69, 5, 81, 73, 71, 5, 37, 106, 9, 6, 71, 71, 9, 6, 36, 41, 48, 6, 71, 71, 9, 6, 36, 106, 103, 6, 6, 71, 71, 6, 36, 41, 70, 6, 85, 71, 71, 6, 36, 106]
def tab1 : List Int32 := [0, 7, 2, 0, 4, 4, 4, 4, 0, 2, 1, 0, 10, 10, 10, 13, 3, 8, 9, 0, 4, 5, 5, 4, 0, 12, 1, 0, 10, 11, 11, 13, 10, 7, 2, 0, 4, 4, 4, 4, 0, 2, 1, 0, 10, 10, 10, 13, 3, 8, 9, 0, 5, 5, 5, 4, 0, 12, 1, 0, 11, 11, 11, 13, 0, 7, 2, 0, 2, 4, 4, 4, 0, 2, 1, 0, 10, 10, 10, 13, 3, 8, 9, 0, 2, 5, 5, 4, 0, 12, 0, 0, 10, 11, 11, 13, 0, 7, 2, 0, 4, 4, 4, 4, 0, 2, 1, 0, 10, 10, 10, 13, 3, 8, 9, 0, 5, 5, 5, 4, 0, 12, 0, 0, 11, 11, 11, 13, 3, 7, 2, 0, 4, 4, 4, 4, 0, 2, 0, 0, 10, 10, 10, 13, 3, 8, 9, 0, 5, 5, 6, 4, 0, 12, 0, 0, 10, 11, 11, 13, 2, 7, 2, 0, 4, 4, 4, 4, 0, 2, 0, 0, 10, 10, 10, 13, 3, 8, 9, 0, 5, 5, 6, 4, 0, 12, 0, 0, 11, 11, 12, 13, 2, 7, 2, 0, 4, 4, 4, 4, 0, 2, 0, 0, 10, 10, 10, 13, 3, 8, 9, 0, 2, 5, 5, 4, 0, 12, 0, 0, 10, 11, 11, 13, 2, 7, 2, 0, 4, 4, 4, 4, 0, 2, 0, 0, 10, 10, 10, 13, 3, 8, 9, 0, 2, 5, 5, 4, 0, 12, 0, 0, 10, 11, 11, 13]
def tab2 : List Int32 := [7, 6, 2, 1, 5, 3, 5, 5, 3, 2, 2, 1, 6, 4, 6, 5, 2, 5, 5, 1, 5, 4, 6, 5, 2, 4, 2, 1, 6, 4, 6, 5, 6, 6, 2, 1, 3, 3, 5, 5, 4, 2, 2, 1, 4, 4, 6, 5, 2, 5, 5, 1, 4, 4, 6, 5, 2, 4, 2, 1, 4, 4, 6, 5, 6, 6, 2, 1, 3, 3, 5, 5, 3, 2, 2, 1, 3, 4, 6, 5, 2, 5, 5, 1, 4, 4, 6, 5, 2, 4, 3, 1, 8, 4, 6, 5, 6, 6, 2, 1, 3, 3, 5, 5, 4, 2, 2, 1, 6, 4, 6, 5, 2, 5, 5, 1, 4, 4, 6, 5, 2, 4, 4, 1, 6, 4, 6, 5, 2, 6, 2, 1, 3, 3, 3, 5, 2, 2, 2, 1, 4, 4, 4, 5, 2, 6, 5, 1, 4, 4, 4, 5, 2, 5, 2, 1, 4, 5, 5, 5, 2, 6, 2, 1, 3, 3, 3, 5, 2, 2, 2, 1, 4, 4, 4, 5, 2, 5, 5, 1, 4, 4, 4, 5, 2, 4, 2, 1, 4, 4, 4, 5, 2, 6, 2, 1, 3, 3, 5, 5, 2, 2, 2, 3, 4, 4, 6, 5, 2, 5, 5, 1, 4, 4, 6, 5, 2, 4, 3, 3, 4, 4, 7, 5, 2, 6, 2, 1, 3, 3, 5, 5, 2, 2, 2, 1, 4, 4, 6, 5, 2, 5, 5, 1, 4, 4, 6, 5, 2, 4, 4, 1, 4, 4, 7, 5]
def tab (k j : Nat) : Int32 := match k with
  | 0 => tab0.getD j 0
  | 1 => tab1.getD j 0
  | _ => tab2.getD j 0
abbrev cstat (tt : Nat → Nat) (A : Nat → Prop) (U : State) (H : Heap) : Prop := (va_Z RX2 "OPERATIONS" "[I" (.ref (tt 0)) A U H ∧ va_T .int (tt 0) 256 (fun j => .int (tab 0 j)) A U H) ∧ (va_Z RX2 "MODES" "[I" (.ref (tt 1)) A U H ∧ va_T .int (tt 1) 256 (fun j => .int (tab 1 j)) A U H) ∧ (va_Z RX2 "CYCLES" "[I" (.ref (tt 2)) A U H ∧ va_T .int (tt 2) 256 (fun j => .int (tab 2 j)) A U H)
abbrev cpreT (dC : Nat → ClassId) (dI : Nat → Nat → Nat) (cI cJ : ClassId) (tt : Nat → Nat) (w : va_W) (sz : Nat) (U : State) : Prop := cpre dC dI cI cJ w sz U ∧ cstat tt (va_A w sz) U U.heap
theorem cstat.moved {tt : Nat → Nat} {A : Nat → Prop} {u U : State} {H : Heap} (hvm : u.vm.Alike U.vm) (h : cstat tt A u H) : cstat tt A U H := ⟨⟨h.1.1.moved hvm, h.1.2.moved hvm⟩, ⟨h.2.1.1.moved hvm, h.2.1.2.moved hvm⟩, ⟨h.2.2.1.moved hvm, h.2.2.2.moved hvm⟩⟩
theorem cstat.kept {tt : Nat → Nat} {A : Nat → Prop} {U : State} {H H1 : Heap} (h : cstat tt A U H) (hq : ∀ a : Nat, a < H.size → ¬ A a → H1[a]? = H[a]?) : cstat tt A U H1 := ⟨⟨h.1.1.kept hq, h.1.2.kept hq⟩, ⟨h.2.1.1.kept hq, h.2.1.2.kept hq⟩, ⟨h.2.2.1.kept hq, h.2.2.2.kept hq⟩⟩
theorem cstat.narrow {tt : Nat → Nat} {A B : Nat → Prop} {U : State} {H : Heap} (h : cstat tt A U H) (hAB : ∀ q, B q → A q) : cstat tt B U H := ⟨⟨h.1.1.narrow hAB, h.1.2.narrow hAB⟩, ⟨h.2.1.1.narrow hAB, h.2.1.2.narrow hAB⟩, ⟨h.2.2.1.narrow hAB, h.2.2.2.narrow hAB⟩⟩
theorem cpreT_blind {av : List Value} {dC : Nat → ClassId} {dI : Nat → Nat → Nat} {cI cJ : ClassId} {tt : Nat → Nat} {w : va_W} {sz : Nat} : FrameBlind (va_Pc av (cpreT dC dI cI cJ tt w sz)) := fun a U g mk q => by
  obtain ⟨q0, ⟨q1, qP, qK, qD⟩, qT⟩ := q
  exact ⟨q0, ⟨q1, qP, va_K.moved (u := U) (U := U.calling g mk a) (Vm.Alike.refl U.vm) qK, qD⟩, cstat.moved (u := U) (U := U.calling g mk a) (Vm.Alike.refl U.vm) qT⟩
theorem cpre_VT {s : State} {H : Heap} {dC : Nat → ClassId} {dI : Nat → Nat → Nat} {cI cJ : ClassId} {tt : Nat → Nat} {w : va_W} {A : Nat → Prop} {ci q0 b : Nat} {q : vw_C} {fs As : List Value} {locs : List Loc} (hK : va_K (dC, dI) vwCl [(cI, .int), (cJ, .long)] s) (hP : va_P (dC, dI) vwCl w H) (hD : va_D A w) (hT : cstat tt A s s.heap) (hS : va_S A s.heap H locs) (hF : ∀ q, va_A w H.size q → A q) (hc : vwCl[ci]? = some q) (he : w[q0]? = some (b, .inr (ci, fs))) : PreV s H q.1 b (va_Pc (.ref b :: As) (cpreT dC dI cI cJ tt w H.size)) As :=
  ⟨cpreT_blind, va_recv hK hP hc he, fun U hU hW => ⟨rfl, ⟨by rw [hU], by rw [hU]; exact hP, va_K.moved hW.alike hK, hD.weaken (fun _ _ _ _ => trivial)⟩, by rw [hU]; exact ((hT.kept hS.2.1).narrow hF).moved hW.alike⟩⟩
abbrev S_Timers : Type := (Nat → Int32)
abbrev S_Port : Type := (Nat → Int32) × (Nat → Int32) × (Nat → Int32)
abbrev S_Memory : Type := (Nat → Int64)
abbrev S_Board : Type := (Nat → Int32) × S_Timers × S_Port × S_Memory
abbrev S_Trace : Type := (Nat → Int32) × (Nat → Int32)
abbrev S_Breaks : Type := (Nat → Int32) × (Nat → Int32)
abbrev S_Proc : Type := (Nat → Int32) × Int64 × S_Trace × S_Board
abbrev S_BM : Type := S_Proc × S_Breaks
abbrev S_Model : Type := (Nat → Int32) × (Nat → Int64) × (Nat → Nat → Int32)
abbrev w_Timers (h : Nat → Nat) (cI cJ : ClassId) (t : S_Timers) : va_W := [(h 5, .inr (5, [.int (t 0), .int (t 1), .int (t 2), .int (t 3), .int (t 4), .int (t 5), .int (t 6), .int (t 7), .int (t 8)]))]
abbrev w_Port (h : Nat → Nat) (cI cJ : ClassId) (t : S_Port) : va_W := [(h 6, .inr (3, [.int (t.1 0), .int (t.1 1), .ref (h 7), .ref (h 8), .int (t.1 4), .int (t.1 5)])), (h 7, .inl (cI, 64, .inl t.2.1)), (h 8, .inl (cI, 256, .inl t.2.2))]
abbrev w_Memory (h : Nat → Nat) (cI cJ : ClassId) (t : S_Memory) : va_W := [(h 9, .inr (2, [.ref (h 10)])), (h 10, .inl (cJ, 10240, .inr (.inl t)))]
abbrev w_Board (h : Nat → Nat) (cI cJ : ClassId) (t : S_Board) : va_W := [(h 4, .inr (0, [.ref (h 5), .ref (h 6), .int (t.1 2), .ref (h 9)])), (h 5, .inr (5, [.int (t.2.1 0), .int (t.2.1 1), .int (t.2.1 2), .int (t.2.1 3), .int (t.2.1 4), .int (t.2.1 5), .int (t.2.1 6), .int (t.2.1 7), .int (t.2.1 8)])), (h 6, .inr (3, [.int (t.2.2.1.1 0), .int (t.2.2.1.1 1), .ref (h 7), .ref (h 8), .int (t.2.2.1.1 4), .int (t.2.2.1.1 5)])), (h 7, .inl (cI, 64, .inl t.2.2.1.2.1)), (h 8, .inl (cI, 256, .inl t.2.2.1.2.2)), (h 9, .inr (2, [.ref (h 10)])), (h 10, .inl (cJ, 10240, .inr (.inl t.2.2.2)))]
abbrev w_Trace (h : Nat → Nat) (cI cJ : ClassId) (t : S_Trace) : va_W := [(h 2, .inr (6, [.int (t.1 0), .ref (h 3)])), (h 3, .inl (cI, 32, .inl t.2))]
abbrev w_Breaks (h : Nat → Nat) (cI cJ : ClassId) (t : S_Breaks) : va_W := [(h 11, .inr (1, [.int (t.1 0), .ref (h 12)])), (h 12, .inl (cI, 16, .inl t.2))]
abbrev w_Proc (h : Nat → Nat) (cI cJ : ClassId) (t : S_Proc) : va_W := [(h 1, .inr (4, [.int (t.1 0), .int (t.1 1), .int (t.1 2), .int (t.1 3), .int (t.1 4), .int (t.1 5), .int (t.1 6), .int (t.1 7), .int (t.1 8), .long (t.2.1), .int (t.1 10), .ref (h 2), .ref (h 4), .int (t.1 13), .int (t.1 14)])), (h 2, .inr (6, [.int (t.2.2.1.1 0), .ref (h 3)])), (h 3, .inl (cI, 32, .inl t.2.2.1.2)), (h 4, .inr (0, [.ref (h 5), .ref (h 6), .int (t.2.2.2.1 2), .ref (h 9)])), (h 5, .inr (5, [.int (t.2.2.2.2.1 0), .int (t.2.2.2.2.1 1), .int (t.2.2.2.2.1 2), .int (t.2.2.2.2.1 3), .int (t.2.2.2.2.1 4), .int (t.2.2.2.2.1 5), .int (t.2.2.2.2.1 6), .int (t.2.2.2.2.1 7), .int (t.2.2.2.2.1 8)])), (h 6, .inr (3, [.int (t.2.2.2.2.2.1.1 0), .int (t.2.2.2.2.2.1.1 1), .ref (h 7), .ref (h 8), .int (t.2.2.2.2.2.1.1 4), .int (t.2.2.2.2.2.1.1 5)])), (h 7, .inl (cI, 64, .inl t.2.2.2.2.2.1.2.1)), (h 8, .inl (cI, 256, .inl t.2.2.2.2.2.1.2.2)), (h 9, .inr (2, [.ref (h 10)])), (h 10, .inl (cJ, 10240, .inr (.inl t.2.2.2.2.2.2)))]
abbrev w_BM (h : Nat → Nat) (cI cJ : ClassId) (t : S_BM) : va_W := [(h 0, .inr (7, [.ref (h 4), .ref (h 1), .ref (h 11)])), (h 1, .inr (4, [.int (t.1.1 0), .int (t.1.1 1), .int (t.1.1 2), .int (t.1.1 3), .int (t.1.1 4), .int (t.1.1 5), .int (t.1.1 6), .int (t.1.1 7), .int (t.1.1 8), .long (t.1.2.1), .int (t.1.1 10), .ref (h 2), .ref (h 4), .int (t.1.1 13), .int (t.1.1 14)])), (h 2, .inr (6, [.int (t.1.2.2.1.1 0), .ref (h 3)])), (h 3, .inl (cI, 32, .inl t.1.2.2.1.2)), (h 4, .inr (0, [.ref (h 5), .ref (h 6), .int (t.1.2.2.2.1 2), .ref (h 9)])), (h 5, .inr (5, [.int (t.1.2.2.2.2.1 0), .int (t.1.2.2.2.2.1 1), .int (t.1.2.2.2.2.1 2), .int (t.1.2.2.2.2.1 3), .int (t.1.2.2.2.2.1 4), .int (t.1.2.2.2.2.1 5), .int (t.1.2.2.2.2.1 6), .int (t.1.2.2.2.2.1 7), .int (t.1.2.2.2.2.1 8)])), (h 6, .inr (3, [.int (t.1.2.2.2.2.2.1.1 0), .int (t.1.2.2.2.2.2.1.1 1), .ref (h 7), .ref (h 8), .int (t.1.2.2.2.2.2.1.1 4), .int (t.1.2.2.2.2.2.1.1 5)])), (h 7, .inl (cI, 64, .inl t.1.2.2.2.2.2.1.2.1)), (h 8, .inl (cI, 256, .inl t.1.2.2.2.2.2.1.2.2)), (h 9, .inr (2, [.ref (h 10)])), (h 10, .inl (cJ, 10240, .inr (.inl t.1.2.2.2.2.2.2))), (h 11, .inr (1, [.int (t.2.1 0), .ref (h 12)])), (h 12, .inl (cI, 16, .inl t.2.2))]
abbrev w_Model (h : Nat → Nat) (cI cJ : ClassId) (t : S_Model) : va_W := [(h 13, .inr (8, [.int (t.1 0), .ref (h 14), .ref (h 15), .int (t.1 3), .int (t.1 4), .int (t.1 5), .int (t.1 6), .int (t.1 7), .int (t.1 8), .int (t.1 9), .int (t.1 10), .int (t.1 11), .int (t.1 12), .int (t.1 13), .int (t.1 14), .int (t.1 15), .int (t.1 16), .int (t.1 17), .int (t.1 18), .int (t.1 19), .int (t.1 20), .int (t.1 21), .int (t.1 22), .int (t.1 23), .ref (h 16), .ref (h 17), .long (t.2.1 26), .long (t.2.1 27), .long (t.2.1 28), .int (t.1 29), .int (t.1 30), .ref (h 18), .ref (h 19)])), (h 14, .inl (cI, 81920, .inl (t.2.2 1))), (h 15, .inl (cI, 4, .inl (t.2.2 2))), (h 16, .inl (cI, 64, .inl (t.2.2 24))), (h 17, .inl (cI, 256, .inl (t.2.2 25))), (h 18, .inl (cI, 16, .inl (t.2.2 31))), (h 19, .inl (cI, 32, .inl (t.2.2 32)))]
