theorem gm_p1 {w : Cond} (h : w ∈ k2_sels lw_privs_1) (hg : goodWord w = true) : w ∈ G0 := List.mem_filter.mpr ⟨List.mem_append_left _ (by
  unfold k2_sels at h ⊢
  obtain ⟨q, hq, e⟩ := List.mem_map.mp h
  refine List.mem_map.mpr ⟨q, ?_, e⟩
  unfold lw_privs
  simp only [List.mem_append]
  simp [hq]), hg⟩
theorem gm_p2 {w : Cond} (h : w ∈ k2_sels lw_privs_2) (hg : goodWord w = true) : w ∈ G0 := List.mem_filter.mpr ⟨List.mem_append_left _ (by
  unfold k2_sels at h ⊢
  obtain ⟨q, hq, e⟩ := List.mem_map.mp h
  refine List.mem_map.mpr ⟨q, ?_, e⟩
  unfold lw_privs
  simp only [List.mem_append]
  simp [hq]), hg⟩
theorem gm_p3 {w : Cond} (h : w ∈ k2_sels lw_privs_3) (hg : goodWord w = true) : w ∈ G0 := List.mem_filter.mpr ⟨List.mem_append_left _ (by
  unfold k2_sels at h ⊢
  obtain ⟨q, hq, e⟩ := List.mem_map.mp h
  refine List.mem_map.mpr ⟨q, ?_, e⟩
  unfold lw_privs
  simp only [List.mem_append]
  simp [hq]), hg⟩
theorem gm_p4 {w : Cond} (h : w ∈ k2_sels lw_privs_4) (hg : goodWord w = true) : w ∈ G0 := List.mem_filter.mpr ⟨List.mem_append_left _ (by
  unfold k2_sels at h ⊢
  obtain ⟨q, hq, e⟩ := List.mem_map.mp h
  refine List.mem_map.mpr ⟨q, ?_, e⟩
  unfold lw_privs
  simp only [List.mem_append]
  simp [hq]), hg⟩
theorem gm_t1 {w : Cond} (h : w ∈ tables_1_1) (hg : goodWord w = true) : w ∈ G0 := List.mem_filter.mpr ⟨List.mem_append_right _ (List.mem_append_left _ h), hg⟩
theorem gm_t2 {w : Cond} (h : w ∈ tables_1_2) (hg : goodWord w = true) : w ∈ G0 := List.mem_filter.mpr ⟨List.mem_append_right _ (List.mem_append_right _ (List.mem_append_left _ h)), hg⟩
theorem gm_t3 {w : Cond} (h : w ∈ tables_1_3) (hg : goodWord w = true) : w ∈ G0 := List.mem_filter.mpr ⟨List.mem_append_right _ (List.mem_append_right _ (List.mem_append_right _ (List.mem_append_left _ h))), hg⟩
theorem gm_t4 {w : Cond} (h : w ∈ tables_1_4) (hg : goodWord w = true) : w ∈ G0 := List.mem_filter.mpr ⟨List.mem_append_right _ (List.mem_append_right _ (List.mem_append_right _ (List.mem_append_right _ (List.mem_append_left _ h)))), hg⟩
theorem gm_t5 {w : Cond} (h : w ∈ tables_1_5) (hg : goodWord w = true) : w ∈ G0 := List.mem_filter.mpr ⟨List.mem_append_right _ (List.mem_append_right _ (List.mem_append_right _ (List.mem_append_right _ (List.mem_append_right _ (List.mem_append_left _ h))))), hg⟩
theorem gm_t6 {w : Cond} (h : w ∈ tables_1_6) (hg : goodWord w = true) : w ∈ G0 := List.mem_filter.mpr ⟨List.mem_append_right _ (List.mem_append_right _ (List.mem_append_right _ (List.mem_append_right _ (List.mem_append_right _ (List.mem_append_right _ h))))), hg⟩
theorem gwp1_0 : Cond.selects RX7 yX7_isRock yX7_isRock ∈ G0 := gm_p1 (List.mem_of_getElem? (i := 0) rfl) rfl
theorem gwp1_1 : Cond.selects RX7 yX7_isPair yX7_isPair ∈ G0 := gm_p1 (List.mem_of_getElem? (i := 1) rfl) rfl
theorem gwp1_10 : Cond.selects RX5 yX5_answer yX5_answer ∈ G0 := gm_p1 (List.mem_of_getElem? (i := 10) rfl) rfl
theorem gwp1_11 : Cond.selects RX5 yX5_readRock yX5_readRock ∈ G0 := gm_p1 (List.mem_of_getElem? (i := 11) rfl) rfl
theorem gwp1_12 : Cond.selects RX5 yX5_readNumber yX5_readNumber ∈ G0 := gm_p1 (List.mem_of_getElem? (i := 12) rfl) rfl
theorem gwp1_13 : Cond.selects RX2 yX2_trueOnes yX2_trueOnes ∈ G0 := gm_p1 (List.mem_of_getElem? (i := 13) rfl) rfl
theorem gwp1_14 : Cond.selects RX2 yX2_hear yX2_hear ∈ G0 := gm_p1 (List.mem_of_getElem? (i := 14) rfl) rfl
theorem gwp1_15 : Cond.selects RX2 yX2_act yX2_act ∈ G0 := gm_p1 (List.mem_of_getElem? (i := 15) rfl) rfl
theorem gwp1_2 : Cond.selects RX5 yX5_begin yX5_begin ∈ G0 := gm_p1 (List.mem_of_getElem? (i := 2) rfl) rfl
theorem gwp1_3 : Cond.selects RX5 yX5_isAtEnd yX5_isAtEnd ∈ G0 := gm_p1 (List.mem_of_getElem? (i := 3) rfl) rfl
theorem gwp1_4 : Cond.selects RX5 yX5_readRule yX5_readRule ∈ G0 := gm_p1 (List.mem_of_getElem? (i := 4) rfl) rfl
theorem gwp1_5 : Cond.selects RX5 yX5_oneOf yX5_oneOf ∈ G0 := gm_p1 (List.mem_of_getElem? (i := 5) rfl) rfl
theorem gwp1_6 : Cond.selects RX5 yX5_refuse yX5_refuse ∈ G0 := gm_p1 (List.mem_of_getElem? (i := 6) rfl) rfl
theorem gwp1_7 : Cond.selects RX5 yX5_pass yX5_pass ∈ G0 := gm_p1 (List.mem_of_getElem? (i := 7) rfl) rfl
theorem gwp1_8 : Cond.selects RX5 yX5_isNext yX5_isNext ∈ G0 := gm_p1 (List.mem_of_getElem? (i := 8) rfl) rfl
theorem gwp1_9 : Cond.selects RX5 yX5_refuseEnd yX5_refuseEnd ∈ G0 := gm_p1 (List.mem_of_getElem? (i := 9) rfl) rfl
theorem gwp2_0 : Cond.selects RX2 yX2_say yX2_say ∈ G0 := gm_p2 (List.mem_of_getElem? (i := 0) rfl) rfl
theorem gwp2_1 : Cond.selects RX2 yX2_send yX2_send ∈ G0 := gm_p2 (List.mem_of_getElem? (i := 1) rfl) rfl
theorem gwp2_10 : Cond.selects RX7 yX7_isSet yX7_isSet ∈ G0 := gm_p2 (List.mem_of_getElem? (i := 10) rfl) rfl
theorem gwp2_11 : Cond.selects RX6 yX6_borne yX6_borne ∈ G0 := gm_p2 (List.mem_of_getElem? (i := 11) rfl) rfl
theorem gwp2_12 : Cond.selects RX1 yX1_logsOf yX1_logsOf ∈ G0 := gm_p2 (List.mem_of_getElem? (i := 12) rfl) rfl
theorem gwp2_13 : Cond.selects RX1 yX1_firstWithoutLog yX1_firstWithoutLog ∈ G0 := gm_p2 (List.mem_of_getElem? (i := 13) rfl) rfl
theorem gwp2_14 : Cond.selects RX1 yX1_hasPair yX1_hasPair ∈ G0 := gm_p2 (List.mem_of_getElem? (i := 14) rfl) rfl
theorem gwp2_15 : Cond.selects RX7 yX7_refusalOfRow yX7_refusalOfRow ∈ G0 := gm_p2 (List.mem_of_getElem? (i := 15) rfl) rfl
theorem gwp2_2 : Cond.selects RX2 yX2_believe yX2_believe ∈ G0 := gm_p2 (List.mem_of_getElem? (i := 2) rfl) rfl
theorem gwp2_3 : Cond.selects RX2 yX2_show yX2_show ∈ G0 := gm_p2 (List.mem_of_getElem? (i := 3) rfl) rfl
theorem gwp2_4 : Cond.selects RX7 yX7_passMinutes yX7_passMinutes ∈ G0 := gm_p2 (List.mem_of_getElem? (i := 4) rfl) rfl
theorem gwp2_5 : Cond.selects RX6 yX6_run yX6_run ∈ G0 := gm_p2 (List.mem_of_getElem? (i := 5) rfl) rfl
theorem gwp2_6 : Cond.selects RX6 yX6_begin yX6_begin ∈ G0 := gm_p2 (List.mem_of_getElem? (i := 6) rfl) rfl
theorem gwp2_7 : Cond.selects RX6 yX6_until yX6_until ∈ G0 := gm_p2 (List.mem_of_getElem? (i := 7) rfl) rfl
theorem gwp2_8 : Cond.selects RX6 yX6_isAt yX6_isAt ∈ G0 := gm_p2 (List.mem_of_getElem? (i := 8) rfl) rfl
theorem gwp2_9 : Cond.selects RX6 yX6_keepIfLater yX6_keepIfLater ∈ G0 := gm_p2 (List.mem_of_getElem? (i := 9) rfl) rfl
theorem gwp3_0 : Cond.selects RX8 yX8_isRock yX8_isRock ∈ G0 := gm_p3 (List.mem_of_getElem? (i := 0) rfl) rfl
theorem gwp3_1 : Cond.selects RX8 yX8_reads yX8_reads ∈ G0 := gm_p3 (List.mem_of_getElem? (i := 1) rfl) rfl
theorem gwp3_10 : Cond.selects RX8 yX8_goes yX8_goes ∈ G0 := gm_p3 (List.mem_of_getElem? (i := 10) rfl) rfl
theorem gwp3_11 : Cond.selects RX8 yX8_isOut yX8_isOut ∈ G0 := gm_p3 (List.mem_of_getElem? (i := 11) rfl) rfl
theorem gwp3_12 : Cond.selects RX8 yX8_acts yX8_acts ∈ G0 := gm_p3 (List.mem_of_getElem? (i := 12) rfl) rfl
theorem gwp3_13 : Cond.selects RX8 yX8_says yX8_says ∈ G0 := gm_p3 (List.mem_of_getElem? (i := 13) rfl) rfl
theorem gwp3_14 : Cond.selects RX8 yX8_drawn yX8_drawn ∈ G0 := gm_p3 (List.mem_of_getElem? (i := 14) rfl) rfl
theorem gwp3_15 : Cond.selects RX8 yX8_gone yX8_gone ∈ G0 := gm_p3 (List.mem_of_getElem? (i := 15) rfl) rfl
theorem gwp3_2 : Cond.selects RX8 yX8_letter yX8_letter ∈ G0 := gm_p3 (List.mem_of_getElem? (i := 2) rfl) rfl
theorem gwp3_3 : Cond.selects RX8 yX8_readsRule yX8_readsRule ∈ G0 := gm_p3 (List.mem_of_getElem? (i := 3) rfl) rfl
theorem gwp3_4 : Cond.selects RX8 yX8_takes yX8_takes ∈ G0 := gm_p3 (List.mem_of_getElem? (i := 4) rfl) rfl
theorem gwp3_5 : Cond.selects RX8 yX8_passes yX8_passes ∈ G0 := gm_p3 (List.mem_of_getElem? (i := 5) rfl) rfl
theorem gwp3_6 : Cond.selects RX8 yX8_readsRock yX8_readsRock ∈ G0 := gm_p3 (List.mem_of_getElem? (i := 6) rfl) rfl
theorem gwp3_7 : Cond.selects RX8 yX8_kindOf yX8_kindOf ∈ G0 := gm_p3 (List.mem_of_getElem? (i := 7) rfl) rfl
theorem gwp3_8 : Cond.selects RX8 yX8_number yX8_number ∈ G0 := gm_p3 (List.mem_of_getElem? (i := 8) rfl) rfl
theorem gwp3_9 : Cond.selects RX8 yX8_dueMany yX8_dueMany ∈ G0 := gm_p3 (List.mem_of_getElem? (i := 9) rfl) rfl
theorem gwp4_0 : Cond.selects RX8 yX8_tries yX8_tries ∈ G0 := gm_p4 (List.mem_of_getElem? (i := 0) rfl) rfl
theorem gwp4_1 : Cond.selects RX8 yX8_doneBy yX8_doneBy ∈ G0 := gm_p4 (List.mem_of_getElem? (i := 1) rfl) rfl
theorem gwp4_2 : Cond.selects RX8 yX8_holdsBy yX8_holdsBy ∈ G0 := gm_p4 (List.mem_of_getElem? (i := 2) rfl) rfl
theorem gwp4_3 : Cond.selects RX8 yX8_holdsAll yX8_holdsAll ∈ G0 := gm_p4 (List.mem_of_getElem? (i := 3) rfl) rfl
theorem gwp4_4 : Cond.selects RX8 yX8_sureOnes yX8_sureOnes ∈ G0 := gm_p4 (List.mem_of_getElem? (i := 4) rfl) rfl
theorem gwp4_5 : Cond.selects RX8 yX8_logsOf yX8_logsOf ∈ G0 := gm_p4 (List.mem_of_getElem? (i := 5) rfl) rfl
theorem gwp4_6 : Cond.selects RX8 yX8_isLogged yX8_isLogged ∈ G0 := gm_p4 (List.mem_of_getElem? (i := 6) rfl) rfl
theorem gwp4_7 : Cond.selects RX8 yX8_wrongOf yX8_wrongOf ∈ G0 := gm_p4 (List.mem_of_getElem? (i := 7) rfl) rfl
theorem gwt1_1 : Cond.initialized RX7 ∈ G0 := gm_t1 (List.mem_of_getElem? (i := 1) rfl) rfl
theorem gwt1_10 : Cond.initialized RJ6 ∈ G0 := gm_t1 (List.mem_of_getElem? (i := 10) rfl) rfl
theorem gwt1_108 : Cond.fieldLink RX0 9 "NineLamps$Law" "size" "I" ∈ G0 := gm_t1 (List.mem_of_getElem? (i := 108) rfl) rfl
theorem gwt1_109 : Cond.fieldLink RX5 48 "NineLamps$Law" "size" "I" ∈ G0 := gm_t1 (List.mem_of_getElem? (i := 109) rfl) rfl
theorem gwt1_11 : Cond.initialized RJ0 ∈ G0 := gm_t1 (List.mem_of_getElem? (i := 11) rfl) rfl
theorem gwt1_110 : Cond.fieldLink RX7 124 "NineLamps$Law" "size" "I" ∈ G0 := gm_t1 (List.mem_of_getElem? (i := 110) rfl) rfl
theorem gwt1_111 : Cond.fieldLink RX6 119 "NineLamps$Law" "size" "I" ∈ G0 := gm_t1 (List.mem_of_getElem? (i := 111) rfl) rfl
theorem gwt1_112 : Cond.fieldLink RX2 121 "NineLamps$Law" "size" "I" ∈ G0 := gm_t1 (List.mem_of_getElem? (i := 112) rfl) rfl
theorem gwt1_113 : Cond.fieldLink RX0 15 "NineLamps$Law" "counted" "[I" ∈ G0 := gm_t1 (List.mem_of_getElem? (i := 113) rfl) rfl
theorem gwt1_114 : Cond.fieldLink RX7 129 "NineLamps$Law" "counted" "[I" ∈ G0 := gm_t1 (List.mem_of_getElem? (i := 114) rfl) rfl
theorem gwt1_115 : Cond.fieldLink RX2 126 "NineLamps$Law" "counted" "[I" ∈ G0 := gm_t1 (List.mem_of_getElem? (i := 115) rfl) rfl
theorem gwt1_116 : Cond.fieldLink RX0 19 "NineLamps$Law" "number" "[I" ∈ G0 := gm_t1 (List.mem_of_getElem? (i := 116) rfl) rfl
theorem gwt1_117 : Cond.fieldLink RX7 131 "NineLamps$Law" "number" "[I" ∈ G0 := gm_t1 (List.mem_of_getElem? (i := 117) rfl) rfl
theorem gwt1_118 : Cond.fieldLink RX2 131 "NineLamps$Law" "number" "[I" ∈ G0 := gm_t1 (List.mem_of_getElem? (i := 118) rfl) rfl
theorem gwt1_119 : Cond.fieldLink RX0 22 "NineLamps$Law" "act" "[I" ∈ G0 := gm_t1 (List.mem_of_getElem? (i := 119) rfl) rfl
theorem gwt1_12 : Cond.initialized RJ1 ∈ G0 := gm_t1 (List.mem_of_getElem? (i := 12) rfl) rfl
theorem gwt1_120 : Cond.fieldLink RX7 134 "NineLamps$Law" "act" "[I" ∈ G0 := gm_t1 (List.mem_of_getElem? (i := 120) rfl) rfl
theorem gwt1_121 : Cond.fieldLink RX2 137 "NineLamps$Law" "act" "[I" ∈ G0 := gm_t1 (List.mem_of_getElem? (i := 121) rfl) rfl
theorem gwt1_122 : Cond.fieldLink RX0 25 "NineLamps$Law" "colour" "[I" ∈ G0 := gm_t1 (List.mem_of_getElem? (i := 122) rfl) rfl
theorem gwt1_123 : Cond.fieldLink RX7 137 "NineLamps$Law" "colour" "[I" ∈ G0 := gm_t1 (List.mem_of_getElem? (i := 123) rfl) rfl
theorem gwt1_124 : Cond.fieldLink RX2 134 "NineLamps$Law" "colour" "[I" ∈ G0 := gm_t1 (List.mem_of_getElem? (i := 124) rfl) rfl
theorem gwt1_125 : u_lay RX0 TX0 0 ∈ G0 := gm_t1 (List.mem_of_getElem? (i := 125) rfl) rfl
theorem gwt1_127 : u_lay RX0 TX0 1 ∈ G0 := gm_t1 (List.mem_of_getElem? (i := 127) rfl) rfl
theorem gwt1_129 : u_lay RX0 TX0 2 ∈ G0 := gm_t1 (List.mem_of_getElem? (i := 129) rfl) rfl
theorem gwt1_13 : Cond.initialized "java/lang/Math" ∈ G0 := gm_t1 (List.mem_of_getElem? (i := 13) rfl) rfl
theorem gwt1_131 : u_lay RX0 TX0 3 ∈ G0 := gm_t1 (List.mem_of_getElem? (i := 131) rfl) rfl
theorem gwt1_133 : u_lay RX0 TX0 4 ∈ G0 := gm_t1 (List.mem_of_getElem? (i := 133) rfl) rfl
theorem gwt1_142 : Cond.fieldLink RX1 9 "NineLamps$Logs" "size" "I" ∈ G0 := gm_t1 (List.mem_of_getElem? (i := 142) rfl) rfl
theorem gwt1_143 : Cond.fieldLink RX7 175 "NineLamps$Logs" "size" "I" ∈ G0 := gm_t1 (List.mem_of_getElem? (i := 143) rfl) rfl
theorem gwt1_144 : Cond.fieldLink RX1 15 "NineLamps$Logs" "from" "[I" ∈ G0 := gm_t1 (List.mem_of_getElem? (i := 144) rfl) rfl
theorem gwt1_145 : Cond.fieldLink RX1 19 "NineLamps$Logs" "to" "[I" ∈ G0 := gm_t1 (List.mem_of_getElem? (i := 145) rfl) rfl
theorem gwt1_146 : Cond.fieldLink RX1 22 "NineLamps$Logs" "colour" "[I" ∈ G0 := gm_t1 (List.mem_of_getElem? (i := 146) rfl) rfl
theorem gwt1_147 : u_lay RX1 TX1 0 ∈ G0 := gm_t1 (List.mem_of_getElem? (i := 147) rfl) rfl
theorem gwt1_149 : u_lay RX1 TX1 1 ∈ G0 := gm_t1 (List.mem_of_getElem? (i := 149) rfl) rfl
theorem gwt1_151 : u_lay RX1 TX1 2 ∈ G0 := gm_t1 (List.mem_of_getElem? (i := 151) rfl) rfl
theorem gwt1_153 : u_lay RX1 TX1 3 ∈ G0 := gm_t1 (List.mem_of_getElem? (i := 153) rfl) rfl
theorem gwt1_156 : Cond.fieldLink RX4 10 "NineLamps$State" "night" "LNineLamps$Night;" ∈ G0 := gm_t1 (List.mem_of_getElem? (i := 156) rfl) rfl
theorem gwt1_157 : Cond.fieldLink RX7 38 "NineLamps$State" "night" "LNineLamps$Night;" ∈ G0 := gm_t1 (List.mem_of_getElem? (i := 157) rfl) rfl
theorem gwt1_158 : Cond.fieldLink RX4 19 "NineLamps$State" "law" "LNineLamps$Law;" ∈ G0 := gm_t1 (List.mem_of_getElem? (i := 158) rfl) rfl
theorem gwt1_159 : Cond.fieldLink RX7 42 "NineLamps$State" "law" "LNineLamps$Law;" ∈ G0 := gm_t1 (List.mem_of_getElem? (i := 159) rfl) rfl
theorem gwt1_160 : Cond.fieldLink RX4 26 "NineLamps$State" "logs" "LNineLamps$Logs;" ∈ G0 := gm_t1 (List.mem_of_getElem? (i := 160) rfl) rfl
theorem gwt1_161 : Cond.fieldLink RX7 171 "NineLamps$State" "logs" "LNineLamps$Logs;" ∈ G0 := gm_t1 (List.mem_of_getElem? (i := 161) rfl) rfl
theorem gwt1_162 : u_lay RX4 TX4 0 ∈ G0 := gm_t1 (List.mem_of_getElem? (i := 162) rfl) rfl
theorem gwt1_164 : u_lay RX4 TX4 1 ∈ G0 := gm_t1 (List.mem_of_getElem? (i := 164) rfl) rfl
theorem gwt1_166 : u_lay RX4 TX4 2 ∈ G0 := gm_t1 (List.mem_of_getElem? (i := 166) rfl) rfl
theorem gwt1_17 : Cond.initialized RJ7 ∈ G0 := gm_t1 (List.mem_of_getElem? (i := 17) rfl) rfl
theorem gwt1_177 : Cond.fieldLink RX5 9 "NineLamps$Tape" "size" "I" ∈ G0 := gm_t1 (List.mem_of_getElem? (i := 177) rfl) rfl
theorem gwt1_178 : Cond.fieldLink RX7 144 "NineLamps$Tape" "size" "I" ∈ G0 := gm_t1 (List.mem_of_getElem? (i := 178) rfl) rfl
theorem gwt1_179 : Cond.fieldLink RX5 18 "NineLamps$Tape" "law" "LNineLamps$Law;" ∈ G0 := gm_t1 (List.mem_of_getElem? (i := 179) rfl) rfl
theorem gwt1_18 : Cond.initialized "java/lang/System" ∈ G0 := gm_t1 (List.mem_of_getElem? (i := 18) rfl) rfl
theorem gwt1_180 : Cond.fieldLink RX7 150 "NineLamps$Tape" "law" "LNineLamps$Law;" ∈ G0 := gm_t1 (List.mem_of_getElem? (i := 180) rfl) rfl
theorem gwt1_181 : Cond.fieldLink RX5 22 "NineLamps$Tape" "kind" "[I" ∈ G0 := gm_t1 (List.mem_of_getElem? (i := 181) rfl) rfl
theorem gwt1_182 : Cond.fieldLink RX7 161 "NineLamps$Tape" "kind" "[I" ∈ G0 := gm_t1 (List.mem_of_getElem? (i := 182) rfl) rfl
theorem gwt1_183 : Cond.fieldLink RX5 26 "NineLamps$Tape" "colour" "[I" ∈ G0 := gm_t1 (List.mem_of_getElem? (i := 183) rfl) rfl
theorem gwt1_184 : Cond.fieldLink RX7 162 "NineLamps$Tape" "colour" "[I" ∈ G0 := gm_t1 (List.mem_of_getElem? (i := 184) rfl) rfl
theorem gwt1_185 : Cond.fieldLink RX5 29 "NineLamps$Tape" "darkFrom" "[I" ∈ G0 := gm_t1 (List.mem_of_getElem? (i := 185) rfl) rfl
theorem gwt1_186 : Cond.fieldLink RX7 163 "NineLamps$Tape" "darkFrom" "[I" ∈ G0 := gm_t1 (List.mem_of_getElem? (i := 186) rfl) rfl
theorem gwt1_187 : Cond.fieldLink RX5 32 "NineLamps$Tape" "darkUntil" "[I" ∈ G0 := gm_t1 (List.mem_of_getElem? (i := 187) rfl) rfl
theorem gwt1_188 : Cond.fieldLink RX7 164 "NineLamps$Tape" "darkUntil" "[I" ∈ G0 := gm_t1 (List.mem_of_getElem? (i := 188) rfl) rfl
theorem gwt1_189 : Cond.fieldLink RX5 35 "NineLamps$Tape" "letters" "[C" ∈ G0 := gm_t1 (List.mem_of_getElem? (i := 189) rfl) rfl
theorem gwt1_190 : Cond.fieldLink RX5 39 "NineLamps$Tape" "place" "I" ∈ G0 := gm_t1 (List.mem_of_getElem? (i := 190) rfl) rfl
theorem gwt1_191 : Cond.fieldLink RX5 42 "NineLamps$Tape" "wrong" "I" ∈ G0 := gm_t1 (List.mem_of_getElem? (i := 191) rfl) rfl
theorem gwt1_192 : u_lay RX5 TX5 0 ∈ G0 := gm_t1 (List.mem_of_getElem? (i := 192) rfl) rfl
theorem gwt1_194 : u_lay RX5 TX5 1 ∈ G0 := gm_t1 (List.mem_of_getElem? (i := 194) rfl) rfl
theorem gwt1_196 : u_lay RX5 TX5 2 ∈ G0 := gm_t1 (List.mem_of_getElem? (i := 196) rfl) rfl
theorem gwt1_198 : u_lay RX5 TX5 3 ∈ G0 := gm_t1 (List.mem_of_getElem? (i := 198) rfl) rfl
theorem gwt1_2 : Cond.initialized RX4 ∈ G0 := gm_t1 (List.mem_of_getElem? (i := 2) rfl) rfl
theorem gwt1_200 : u_lay RX5 TX5 4 ∈ G0 := gm_t1 (List.mem_of_getElem? (i := 200) rfl) rfl
theorem gwt1_202 : u_lay RX5 TX5 5 ∈ G0 := gm_t1 (List.mem_of_getElem? (i := 202) rfl) rfl
theorem gwt1_204 : u_lay RX5 TX5 6 ∈ G0 := gm_t1 (List.mem_of_getElem? (i := 204) rfl) rfl
theorem gwt1_206 : u_lay RX5 TX5 7 ∈ G0 := gm_t1 (List.mem_of_getElem? (i := 206) rfl) rfl
theorem gwt1_208 : u_lay RX5 TX5 8 ∈ G0 := gm_t1 (List.mem_of_getElem? (i := 208) rfl) rfl
theorem gwt1_224 : Cond.fieldLink RX6 39 "NineLamps$Trials" "now" "LNineLamps$Night;" ∈ G0 := gm_t1 (List.mem_of_getElem? (i := 224) rfl) rfl
theorem gwt1_225 : Cond.fieldLink RX6 42 "NineLamps$Trials" "told" "LNineLamps$Law;" ∈ G0 := gm_t1 (List.mem_of_getElem? (i := 225) rfl) rfl
theorem gwt1_226 : Cond.fieldLink RX6 12 "NineLamps$Trials" "trial" "LNineLamps$Night;" ∈ G0 := gm_t1 (List.mem_of_getElem? (i := 226) rfl) rfl
theorem gwt1_227 : Cond.fieldLink RX6 21 "NineLamps$Trials" "other" "LNineLamps$Law;" ∈ G0 := gm_t1 (List.mem_of_getElem? (i := 227) rfl) rfl
theorem gwt1_228 : Cond.fieldLink RX6 25 "NineLamps$Trials" "items" "[J" ∈ G0 := gm_t1 (List.mem_of_getElem? (i := 228) rfl) rfl
theorem gwt1_229 : Cond.fieldLink RX6 29 "NineLamps$Trials" "itemsFrom" "I" ∈ G0 := gm_t1 (List.mem_of_getElem? (i := 229) rfl) rfl
theorem gwt1_230 : Cond.fieldLink RX6 33 "NineLamps$Trials" "found" "I" ∈ G0 := gm_t1 (List.mem_of_getElem? (i := 230) rfl) rfl
theorem gwt1_231 : Cond.fieldLink RX7 212 "NineLamps$Trials" "found" "I" ∈ G0 := gm_t1 (List.mem_of_getElem? (i := 231) rfl) rfl
theorem gwt1_232 : Cond.fieldLink RX6 36 "NineLamps$Trials" "foundMinutes" "I" ∈ G0 := gm_t1 (List.mem_of_getElem? (i := 232) rfl) rfl
theorem gwt1_233 : Cond.fieldLink RX7 215 "NineLamps$Trials" "foundMinutes" "I" ∈ G0 := gm_t1 (List.mem_of_getElem? (i := 233) rfl) rfl
theorem gwt1_234 : u_lay RX6 TX6 0 ∈ G0 := gm_t1 (List.mem_of_getElem? (i := 234) rfl) rfl
theorem gwt1_236 : u_lay RX6 TX6 1 ∈ G0 := gm_t1 (List.mem_of_getElem? (i := 236) rfl) rfl
theorem gwt1_238 : u_lay RX6 TX6 2 ∈ G0 := gm_t1 (List.mem_of_getElem? (i := 238) rfl) rfl
theorem gwt1_3 : Cond.initialized RX2 ∈ G0 := gm_t1 (List.mem_of_getElem? (i := 3) rfl) rfl
theorem gwt1_4 : Cond.initialized RX0 ∈ G0 := gm_t1 (List.mem_of_getElem? (i := 4) rfl) rfl
theorem gwt1_41 : Cond.fieldLink RX2 9 "NineLamps$Night" "rocks" "I" ∈ G0 := gm_t1 (List.mem_of_getElem? (i := 41) rfl) rfl
theorem gwt1_42 : Cond.fieldLink RX6 49 "NineLamps$Night" "rocks" "I" ∈ G0 := gm_t1 (List.mem_of_getElem? (i := 42) rfl) rfl
theorem gwt1_43 : Cond.fieldLink RX7 58 "NineLamps$Night" "rocks" "I" ∈ G0 := gm_t1 (List.mem_of_getElem? (i := 43) rfl) rfl
theorem gwt1_44 : Cond.fieldLink RX2 15 "NineLamps$Night" "minutes" "I" ∈ G0 := gm_t1 (List.mem_of_getElem? (i := 44) rfl) rfl
theorem gwt1_45 : Cond.fieldLink RX7 165 "NineLamps$Night" "minutes" "I" ∈ G0 := gm_t1 (List.mem_of_getElem? (i := 45) rfl) rfl
theorem gwt1_46 : Cond.fieldLink RX2 18 "NineLamps$Night" "messages" "I" ∈ G0 := gm_t1 (List.mem_of_getElem? (i := 46) rfl) rfl
theorem gwt1_47 : Cond.fieldLink RX7 168 "NineLamps$Night" "messages" "I" ∈ G0 := gm_t1 (List.mem_of_getElem? (i := 47) rfl) rfl
theorem gwt1_48 : Cond.fieldLink RX2 21 "NineLamps$Night" "draw" "I" ∈ G0 := gm_t1 (List.mem_of_getElem? (i := 48) rfl) rfl
theorem gwt1_49 : Cond.fieldLink RX7 196 "NineLamps$Night" "draw" "I" ∈ G0 := gm_t1 (List.mem_of_getElem? (i := 49) rfl) rfl
theorem gwt1_5 : Cond.initialized RX1 ∈ G0 := gm_t1 (List.mem_of_getElem? (i := 5) rfl) rfl
theorem gwt1_50 : Cond.fieldLink RX2 24 "NineLamps$Night" "hand" "I" ∈ G0 := gm_t1 (List.mem_of_getElem? (i := 50) rfl) rfl
theorem gwt1_51 : Cond.fieldLink RX2 27 "NineLamps$Night" "blackout" "I" ∈ G0 := gm_t1 (List.mem_of_getElem? (i := 51) rfl) rfl
theorem gwt1_52 : Cond.fieldLink RX6 91 "NineLamps$Night" "blackout" "I" ∈ G0 := gm_t1 (List.mem_of_getElem? (i := 52) rfl) rfl
theorem gwt1_53 : Cond.fieldLink RX2 30 "NineLamps$Night" "stirred" "Z" ∈ G0 := gm_t1 (List.mem_of_getElem? (i := 53) rfl) rfl
theorem gwt1_54 : Cond.fieldLink RX2 34 "NineLamps$Night" "kind" "[I" ∈ G0 := gm_t1 (List.mem_of_getElem? (i := 54) rfl) rfl
theorem gwt1_55 : Cond.fieldLink RX6 52 "NineLamps$Night" "kind" "[I" ∈ G0 := gm_t1 (List.mem_of_getElem? (i := 55) rfl) rfl
theorem gwt1_56 : Cond.fieldLink RX7 76 "NineLamps$Night" "kind" "[I" ∈ G0 := gm_t1 (List.mem_of_getElem? (i := 56) rfl) rfl
theorem gwt1_57 : Cond.fieldLink RX2 38 "NineLamps$Night" "shows" "[I" ∈ G0 := gm_t1 (List.mem_of_getElem? (i := 57) rfl) rfl
theorem gwt1_58 : Cond.fieldLink RX7 105 "NineLamps$Night" "shows" "[I" ∈ G0 := gm_t1 (List.mem_of_getElem? (i := 58) rfl) rfl
theorem gwt1_59 : Cond.fieldLink RX2 41 "NineLamps$Night" "said" "[I" ∈ G0 := gm_t1 (List.mem_of_getElem? (i := 59) rfl) rfl
theorem gwt1_6 : Cond.initialized RX5 ∈ G0 := gm_t1 (List.mem_of_getElem? (i := 6) rfl) rfl
theorem gwt1_60 : Cond.fieldLink RX7 108 "NineLamps$Night" "said" "[I" ∈ G0 := gm_t1 (List.mem_of_getElem? (i := 60) rfl) rfl
theorem gwt1_61 : Cond.fieldLink RX2 44 "NineLamps$Night" "darkFrom" "[I" ∈ G0 := gm_t1 (List.mem_of_getElem? (i := 61) rfl) rfl
theorem gwt1_62 : Cond.fieldLink RX7 80 "NineLamps$Night" "darkFrom" "[I" ∈ G0 := gm_t1 (List.mem_of_getElem? (i := 62) rfl) rfl
theorem gwt1_63 : Cond.fieldLink RX2 47 "NineLamps$Night" "darkUntil" "[I" ∈ G0 := gm_t1 (List.mem_of_getElem? (i := 63) rfl) rfl
theorem gwt1_64 : Cond.fieldLink RX7 83 "NineLamps$Night" "darkUntil" "[I" ∈ G0 := gm_t1 (List.mem_of_getElem? (i := 64) rfl) rfl
theorem gwt1_65 : Cond.fieldLink RX2 52 "NineLamps$Night" "delay" "[[I" ∈ G0 := gm_t1 (List.mem_of_getElem? (i := 65) rfl) rfl
theorem gwt1_66 : Cond.fieldLink RX7 97 "NineLamps$Night" "delay" "[[I" ∈ G0 := gm_t1 (List.mem_of_getElem? (i := 66) rfl) rfl
theorem gwt1_67 : Cond.fieldLink RX6 98 "NineLamps$Night" "delay" "[[I" ∈ G0 := gm_t1 (List.mem_of_getElem? (i := 67) rfl) rfl
theorem gwt1_68 : Cond.fieldLink RX2 55 "NineLamps$Night" "has" "[[I" ∈ G0 := gm_t1 (List.mem_of_getElem? (i := 68) rfl) rfl
theorem gwt1_69 : Cond.fieldLink RX2 58 "NineLamps$Night" "ring" "[[I" ∈ G0 := gm_t1 (List.mem_of_getElem? (i := 69) rfl) rfl
theorem gwt1_7 : Cond.initialized RX6 ∈ G0 := gm_t1 (List.mem_of_getElem? (i := 7) rfl) rfl
theorem gwt1_70 : u_lay RX2 TX2 0 ∈ G0 := gm_t1 (List.mem_of_getElem? (i := 70) rfl) rfl
theorem gwt1_72 : u_lay RX2 TX2 1 ∈ G0 := gm_t1 (List.mem_of_getElem? (i := 72) rfl) rfl
theorem gwt1_74 : u_lay RX2 TX2 2 ∈ G0 := gm_t1 (List.mem_of_getElem? (i := 74) rfl) rfl
theorem gwt1_76 : u_lay RX2 TX2 3 ∈ G0 := gm_t1 (List.mem_of_getElem? (i := 76) rfl) rfl
theorem gwt1_78 : u_lay RX2 TX2 4 ∈ G0 := gm_t1 (List.mem_of_getElem? (i := 78) rfl) rfl
theorem gwt1_8 : Cond.initialized RX3 ∈ G0 := gm_t1 (List.mem_of_getElem? (i := 8) rfl) rfl
theorem gwt1_80 : u_lay RX2 TX2 5 ∈ G0 := gm_t1 (List.mem_of_getElem? (i := 80) rfl) rfl
theorem gwt1_82 : u_lay RX2 TX2 6 ∈ G0 := gm_t1 (List.mem_of_getElem? (i := 82) rfl) rfl
theorem gwt1_84 : u_lay RX2 TX2 7 ∈ G0 := gm_t1 (List.mem_of_getElem? (i := 84) rfl) rfl
theorem gwt1_86 : u_lay RX2 TX2 8 ∈ G0 := gm_t1 (List.mem_of_getElem? (i := 86) rfl) rfl
theorem gwt1_88 : u_lay RX2 TX2 9 ∈ G0 := gm_t1 (List.mem_of_getElem? (i := 88) rfl) rfl
theorem gwt1_9 : Cond.initialized RX8 ∈ G0 := gm_t1 (List.mem_of_getElem? (i := 9) rfl) rfl
theorem gwt1_90 : u_lay RX2 TX2 10 ∈ G0 := gm_t1 (List.mem_of_getElem? (i := 90) rfl) rfl
theorem gwt1_92 : u_lay RX2 TX2 11 ∈ G0 := gm_t1 (List.mem_of_getElem? (i := 92) rfl) rfl
theorem gwt1_94 : u_lay RX2 TX2 12 ∈ G0 := gm_t1 (List.mem_of_getElem? (i := 94) rfl) rfl
theorem gwt1_96 : u_lay RX2 TX2 13 ∈ G0 := gm_t1 (List.mem_of_getElem? (i := 96) rfl) rfl
theorem gwt1_98 : u_lay RX2 TX2 14 ∈ G0 := gm_t1 (List.mem_of_getElem? (i := 98) rfl) rfl
theorem gwt2_0 : u_lay RX6 TX6 3 ∈ G0 := gm_t2 (List.mem_of_getElem? (i := 0) rfl) rfl
theorem gwt2_100 : Cond.instanceMethod yX7_isPair ∈ G0 := gm_t2 (List.mem_of_getElem? (i := 100) rfl) rfl
theorem gwt2_101 : Cond.code yX7_isPair cX7_isPair 3 (some .boolean) ∈ G0 := gm_t2 (List.mem_of_getElem? (i := 101) rfl) rfl
theorem gwt2_106 : Cond.methodLink RX7 101 yX2_believed ∈ G0 := gm_t2 (List.mem_of_getElem? (i := 106) rfl) rfl
theorem gwt2_107 : Cond.instanceMethod yX2_believed ∈ G0 := gm_t2 (List.mem_of_getElem? (i := 107) rfl) rfl
theorem gwt2_108 : Cond.selects RX2 yX2_believed yX2_believed ∈ G0 := gm_t2 (List.mem_of_getElem? (i := 108) rfl) rfl
theorem gwt2_109 : Cond.code yX2_believed cX2_believed 2 (some .int) ∈ G0 := gm_t2 (List.mem_of_getElem? (i := 109) rfl) rfl
theorem gwt2_110 : Cond.methodLink RX7 111 yX2_isTrue ∈ G0 := gm_t2 (List.mem_of_getElem? (i := 110) rfl) rfl
theorem gwt2_111 : Cond.instanceMethod yX2_isTrue ∈ G0 := gm_t2 (List.mem_of_getElem? (i := 111) rfl) rfl
theorem gwt2_112 : Cond.selects RX2 yX2_isTrue yX2_isTrue ∈ G0 := gm_t2 (List.mem_of_getElem? (i := 112) rfl) rfl
theorem gwt2_113 : Cond.code yX2_isTrue cX2_isTrue 2 (some .boolean) ∈ G0 := gm_t2 (List.mem_of_getElem? (i := 113) rfl) rfl
theorem gwt2_118 : Cond.methodLink RX7 114 yX2_colourOf ∈ G0 := gm_t2 (List.mem_of_getElem? (i := 118) rfl) rfl
theorem gwt2_119 : Cond.instanceMethod yX2_colourOf ∈ G0 := gm_t2 (List.mem_of_getElem? (i := 119) rfl) rfl
theorem gwt2_120 : Cond.selects RX2 yX2_colourOf yX2_colourOf ∈ G0 := gm_t2 (List.mem_of_getElem? (i := 120) rfl) rfl
theorem gwt2_121 : Cond.code yX2_colourOf cX2_colourOf 3 (some .int) ∈ G0 := gm_t2 (List.mem_of_getElem? (i := 121) rfl) rfl
theorem gwt2_122 : Cond.methodLink RX2 77 yX2_bitColour ∈ G0 := gm_t2 (List.mem_of_getElem? (i := 122) rfl) rfl
theorem gwt2_123 : Cond.static yX2_bitColour ∈ G0 := gm_t2 (List.mem_of_getElem? (i := 123) rfl) rfl
theorem gwt2_124 : Cond.code yX2_bitColour cX2_bitColour 3 (some .int) ∈ G0 := gm_t2 (List.mem_of_getElem? (i := 124) rfl) rfl
theorem gwt2_129 : Cond.methodLink RX7 117 yX2_counted ∈ G0 := gm_t2 (List.mem_of_getElem? (i := 129) rfl) rfl
theorem gwt2_130 : Cond.instanceMethod yX2_counted ∈ G0 := gm_t2 (List.mem_of_getElem? (i := 130) rfl) rfl
theorem gwt2_131 : Cond.selects RX2 yX2_counted yX2_counted ∈ G0 := gm_t2 (List.mem_of_getElem? (i := 131) rfl) rfl
theorem gwt2_132 : Cond.code yX2_counted cX2_counted 3 (some .int) ∈ G0 := gm_t2 (List.mem_of_getElem? (i := 132) rfl) rfl
theorem gwt2_133 : Cond.methodLink RX2 81 yJ6_bitCount_0f7a4 ∈ G0 := gm_t2 (List.mem_of_getElem? (i := 133) rfl) rfl
theorem gwt2_134 : Cond.static yJ6_bitCount_0f7a4 ∈ G0 := gm_t2 (List.mem_of_getElem? (i := 134) rfl) rfl
theorem gwt2_135 : Cond.code yJ6_bitCount_0f7a4 cJ6_bitCount_0f7a4 1 (some .int) ∈ G0 := gm_t2 (List.mem_of_getElem? (i := 135) rfl) rfl
theorem gwt2_136 : Cond.constant RJ6 265 (1431655765) ∈ G0 := gm_t2 (List.mem_of_getElem? (i := 136) rfl) rfl
theorem gwt2_137 : Cond.constant RJ6 266 (858993459) ∈ G0 := gm_t2 (List.mem_of_getElem? (i := 137) rfl) rfl
theorem gwt2_138 : Cond.constant RJ6 267 (252645135) ∈ G0 := gm_t2 (List.mem_of_getElem? (i := 138) rfl) rfl
theorem gwt2_143 : Cond.methodLink RX7 120 yX2_waiting ∈ G0 := gm_t2 (List.mem_of_getElem? (i := 143) rfl) rfl
theorem gwt2_144 : Cond.instanceMethod yX2_waiting ∈ G0 := gm_t2 (List.mem_of_getElem? (i := 144) rfl) rfl
theorem gwt2_145 : Cond.selects RX2 yX2_waiting yX2_waiting ∈ G0 := gm_t2 (List.mem_of_getElem? (i := 145) rfl) rfl
theorem gwt2_146 : Cond.code yX2_waiting cX2_waiting 5 (some .int) ∈ G0 := gm_t2 (List.mem_of_getElem? (i := 146) rfl) rfl
theorem gwt2_155 : Cond.methodLink RX7 140 yX0_append ∈ G0 := gm_t2 (List.mem_of_getElem? (i := 155) rfl) rfl
theorem gwt2_156 : Cond.instanceMethod yX0_append ∈ G0 := gm_t2 (List.mem_of_getElem? (i := 156) rfl) rfl
theorem gwt2_157 : Cond.selects RX0 yX0_append yX0_append ∈ G0 := gm_t2 (List.mem_of_getElem? (i := 157) rfl) rfl
theorem gwt2_158 : Cond.code yX0_append cX0_append 5 (some .int) ∈ G0 := gm_t2 (List.mem_of_getElem? (i := 158) rfl) rfl
theorem gwt2_16 : Cond.fieldLink RX3 9 "NineLamps$Sheet" "isThere" "Z" ∈ G0 := gm_t2 (List.mem_of_getElem? (i := 16) rfl) rfl
theorem gwt2_163 : Cond.methodLink RX7 145 yX5_append ∈ G0 := gm_t2 (List.mem_of_getElem? (i := 163) rfl) rfl
theorem gwt2_164 : Cond.instanceMethod yX5_append ∈ G0 := gm_t2 (List.mem_of_getElem? (i := 164) rfl) rfl
theorem gwt2_165 : Cond.selects RX5 yX5_append yX5_append ∈ G0 := gm_t2 (List.mem_of_getElem? (i := 165) rfl) rfl
theorem gwt2_166 : Cond.code yX5_append cX5_append 2 (some .int) ∈ G0 := gm_t2 (List.mem_of_getElem? (i := 166) rfl) rfl
theorem gwt2_17 : Cond.fieldLink RX7 272 "NineLamps$Sheet" "isThere" "Z" ∈ G0 := gm_t2 (List.mem_of_getElem? (i := 17) rfl) rfl
theorem gwt2_171 : Cond.methodLink RX7 147 yX5_readLaw ∈ G0 := gm_t2 (List.mem_of_getElem? (i := 171) rfl) rfl
theorem gwt2_172 : Cond.instanceMethod yX5_readLaw ∈ G0 := gm_t2 (List.mem_of_getElem? (i := 172) rfl) rfl
theorem gwt2_173 : Cond.selects RX5 yX5_readLaw yX5_readLaw ∈ G0 := gm_t2 (List.mem_of_getElem? (i := 173) rfl) rfl
theorem gwt2_174 : Cond.code yX5_readLaw cX5_readLaw 2 (some .int) ∈ G0 := gm_t2 (List.mem_of_getElem? (i := 174) rfl) rfl
theorem gwt2_175 : Cond.methodLink RX5 45 yX5_begin ∈ G0 := gm_t2 (List.mem_of_getElem? (i := 175) rfl) rfl
theorem gwt2_177 : Cond.instanceMethod yX5_begin ∈ G0 := gm_t2 (List.mem_of_getElem? (i := 177) rfl) rfl
theorem gwt2_178 : Cond.code yX5_begin cX5_begin 1 none ∈ G0 := gm_t2 (List.mem_of_getElem? (i := 178) rfl) rfl
theorem gwt2_179 : Cond.methodLink RX5 49 yX5_isAtEnd ∈ G0 := gm_t2 (List.mem_of_getElem? (i := 179) rfl) rfl
theorem gwt2_18 : Cond.fieldLink RX3 15 "NineLamps$Sheet" "lane" "I" ∈ G0 := gm_t2 (List.mem_of_getElem? (i := 18) rfl) rfl
theorem gwt2_181 : Cond.instanceMethod yX5_isAtEnd ∈ G0 := gm_t2 (List.mem_of_getElem? (i := 181) rfl) rfl
theorem gwt2_182 : Cond.code yX5_isAtEnd cX5_isAtEnd 1 (some .boolean) ∈ G0 := gm_t2 (List.mem_of_getElem? (i := 182) rfl) rfl
theorem gwt2_183 : Cond.methodLink RX5 53 yX5_readRule ∈ G0 := gm_t2 (List.mem_of_getElem? (i := 183) rfl) rfl
theorem gwt2_185 : Cond.instanceMethod yX5_readRule ∈ G0 := gm_t2 (List.mem_of_getElem? (i := 185) rfl) rfl
theorem gwt2_186 : Cond.code yX5_readRule cX5_readRule 5 none ∈ G0 := gm_t2 (List.mem_of_getElem? (i := 186) rfl) rfl
theorem gwt2_188 : Cond.methodLink RX5 69 yX5_oneOf ∈ G0 := gm_t2 (List.mem_of_getElem? (i := 188) rfl) rfl
theorem gwt2_19 : Cond.fieldLink RX7 280 "NineLamps$Sheet" "lane" "I" ∈ G0 := gm_t2 (List.mem_of_getElem? (i := 19) rfl) rfl
theorem gwt2_190 : Cond.instanceMethod yX5_oneOf ∈ G0 := gm_t2 (List.mem_of_getElem? (i := 190) rfl) rfl
theorem gwt2_191 : Cond.code yX5_oneOf cX5_oneOf 3 (some .int) ∈ G0 := gm_t2 (List.mem_of_getElem? (i := 191) rfl) rfl
theorem gwt2_192 : Cond.methodLink RX5 101 yJ0_indexOf_0f7a4 ∈ G0 := gm_t2 (List.mem_of_getElem? (i := 192) rfl) rfl
theorem gwt2_193 : Cond.instanceMethod yJ0_indexOf_0f7a4 ∈ G0 := gm_t2 (List.mem_of_getElem? (i := 193) rfl) rfl
theorem gwt2_194 : Cond.selects RJ0 yJ0_indexOf_0f7a4 yJ0_indexOf_0f7a4 ∈ G0 := gm_t2 (List.mem_of_getElem? (i := 194) rfl) rfl
theorem gwt2_195 : Cond.code yJ0_indexOf_0f7a4 cJ0_indexOf_0f7a4 2 (some .int) ∈ G0 := gm_t2 (List.mem_of_getElem? (i := 195) rfl) rfl
theorem gwt2_196 : Cond.methodLink RJ0 633 yJ0_indexOf_7cf53 ∈ G0 := gm_t2 (List.mem_of_getElem? (i := 196) rfl) rfl
theorem gwt2_197 : Cond.instanceMethod yJ0_indexOf_7cf53 ∈ G0 := gm_t2 (List.mem_of_getElem? (i := 197) rfl) rfl
theorem gwt2_198 : Cond.selects RJ0 yJ0_indexOf_7cf53 yJ0_indexOf_7cf53 ∈ G0 := gm_t2 (List.mem_of_getElem? (i := 198) rfl) rfl
theorem gwt2_199 : Cond.code yJ0_indexOf_7cf53 cJ0_indexOf_7cf53 3 (some .int) ∈ G0 := gm_t2 (List.mem_of_getElem? (i := 199) rfl) rfl
theorem gwt2_2 : u_lay RX6 TX6 4 ∈ G0 := gm_t2 (List.mem_of_getElem? (i := 2) rfl) rfl
theorem gwt2_20 : Cond.fieldLink RX3 19 "NineLamps$Sheet" "size" "I" ∈ G0 := gm_t2 (List.mem_of_getElem? (i := 20) rfl) rfl
theorem gwt2_200 : Cond.methodLink RJ0 492 yJ0_isLatin1_aae02 ∈ G0 := gm_t2 (List.mem_of_getElem? (i := 200) rfl) rfl
theorem gwt2_201 : Cond.instanceMethod yJ0_isLatin1_aae02 ∈ G0 := gm_t2 (List.mem_of_getElem? (i := 201) rfl) rfl
theorem gwt2_202 : Cond.selects RJ0 yJ0_isLatin1_aae02 yJ0_isLatin1_aae02 ∈ G0 := gm_t2 (List.mem_of_getElem? (i := 202) rfl) rfl
theorem gwt2_203 : Cond.code yJ0_isLatin1_aae02 cJ0_isLatin1_aae02 1 (some .boolean) ∈ G0 := gm_t2 (List.mem_of_getElem? (i := 203) rfl) rfl
theorem gwt2_204 : Cond.fieldLink RJ0 38 "java/lang/String" "COMPACT_STRINGS" "Z" ∈ G0 := gm_t2 (List.mem_of_getElem? (i := 204) rfl) rfl
theorem gwt2_206 : Cond.methodLink RJ0 505 yJ0_length_8abf5 ∈ G0 := gm_t2 (List.mem_of_getElem? (i := 206) rfl) rfl
theorem gwt2_207 : Cond.instanceMethod yJ0_length_8abf5 ∈ G0 := gm_t2 (List.mem_of_getElem? (i := 207) rfl) rfl
theorem gwt2_208 : Cond.selects RJ0 yJ0_length_8abf5 yJ0_length_8abf5 ∈ G0 := gm_t2 (List.mem_of_getElem? (i := 208) rfl) rfl
theorem gwt2_209 : Cond.code yJ0_length_8abf5 cJ0_length_8abf5 1 (some .int) ∈ G0 := gm_t2 (List.mem_of_getElem? (i := 209) rfl) rfl
theorem gwt2_21 : Cond.fieldLink RX7 275 "NineLamps$Sheet" "size" "I" ∈ G0 := gm_t2 (List.mem_of_getElem? (i := 21) rfl) rfl
theorem gwt2_210 : Cond.methodLink RJ0 335 yJ0_coder_7d493 ∈ G0 := gm_t2 (List.mem_of_getElem? (i := 210) rfl) rfl
theorem gwt2_211 : Cond.instanceMethod yJ0_coder_7d493 ∈ G0 := gm_t2 (List.mem_of_getElem? (i := 211) rfl) rfl
theorem gwt2_212 : Cond.selects RJ0 yJ0_coder_7d493 yJ0_coder_7d493 ∈ G0 := gm_t2 (List.mem_of_getElem? (i := 212) rfl) rfl
theorem gwt2_213 : Cond.code yJ0_coder_7d493 cJ0_coder_7d493 1 (some .byte) ∈ G0 := gm_t2 (List.mem_of_getElem? (i := 213) rfl) rfl
theorem gwt2_214 : Cond.methodLink RJ0 637 yJ1_indexOf_4cfef ∈ G0 := gm_t2 (List.mem_of_getElem? (i := 214) rfl) rfl
theorem gwt2_215 : Cond.static yJ1_indexOf_4cfef ∈ G0 := gm_t2 (List.mem_of_getElem? (i := 215) rfl) rfl
theorem gwt2_216 : Cond.code yJ1_indexOf_4cfef cJ1_indexOf_4cfef 4 (some .int) ∈ G0 := gm_t2 (List.mem_of_getElem? (i := 216) rfl) rfl
theorem gwt2_217 : Cond.methodLink RJ1 88 yJ1_canEncode_9a6ad ∈ G0 := gm_t2 (List.mem_of_getElem? (i := 217) rfl) rfl
theorem gwt2_218 : Cond.static yJ1_canEncode_9a6ad ∈ G0 := gm_t2 (List.mem_of_getElem? (i := 218) rfl) rfl
theorem gwt2_219 : Cond.code yJ1_canEncode_9a6ad cJ1_canEncode_9a6ad 1 (some .boolean) ∈ G0 := gm_t2 (List.mem_of_getElem? (i := 219) rfl) rfl
theorem gwt2_22 : Cond.fieldLink RX3 22 "NineLamps$Sheet" "items" "[J" ∈ G0 := gm_t2 (List.mem_of_getElem? (i := 22) rfl) rfl
theorem gwt2_220 : Cond.methodLink RJ1 92 Lib.Math.max.name ∈ G0 := gm_t2 (List.mem_of_getElem? (i := 220) rfl) rfl
theorem gwt2_221 : Cond.static Lib.Math.max.name ∈ G0 := gm_t2 (List.mem_of_getElem? (i := 221) rfl) rfl
theorem gwt2_222 : Cond.code Lib.Math.max.name Lib.Math.max.code 2 (some .int) ∈ G0 := gm_t2 (List.mem_of_getElem? (i := 222) rfl) rfl
theorem gwt2_223 : Cond.methodLink RJ1 38 Lib.Math.min.name ∈ G0 := gm_t2 (List.mem_of_getElem? (i := 223) rfl) rfl
theorem gwt2_224 : Cond.static Lib.Math.min.name ∈ G0 := gm_t2 (List.mem_of_getElem? (i := 224) rfl) rfl
theorem gwt2_225 : Cond.code Lib.Math.min.name Lib.Math.min.code 2 (some .int) ∈ G0 := gm_t2 (List.mem_of_getElem? (i := 225) rfl) rfl
theorem gwt2_226 : Cond.methodLink RJ1 95 yJ1_indexOfChar_4cfef ∈ G0 := gm_t2 (List.mem_of_getElem? (i := 226) rfl) rfl
theorem gwt2_227 : Cond.static yJ1_indexOfChar_4cfef ∈ G0 := gm_t2 (List.mem_of_getElem? (i := 227) rfl) rfl
theorem gwt2_228 : Cond.code yJ1_indexOfChar_4cfef cJ1_indexOfChar_4cfef 6 (some .int) ∈ G0 := gm_t2 (List.mem_of_getElem? (i := 228) rfl) rfl
theorem gwt2_23 : Cond.fieldLink RX7 258 "NineLamps$Sheet" "items" "[J" ∈ G0 := gm_t2 (List.mem_of_getElem? (i := 23) rfl) rfl
theorem gwt2_24 : u_lay RX3 TX3 0 ∈ G0 := gm_t2 (List.mem_of_getElem? (i := 24) rfl) rfl
theorem gwt2_26 : u_lay RX3 TX3 1 ∈ G0 := gm_t2 (List.mem_of_getElem? (i := 26) rfl) rfl
theorem gwt2_28 : u_lay RX3 TX3 2 ∈ G0 := gm_t2 (List.mem_of_getElem? (i := 28) rfl) rfl
theorem gwt2_30 : u_lay RX3 TX3 3 ∈ G0 := gm_t2 (List.mem_of_getElem? (i := 30) rfl) rfl
theorem gwt2_34 : Cond.fieldLink RX7 10 "NineLamps" "now" "LNineLamps$State;" ∈ G0 := gm_t2 (List.mem_of_getElem? (i := 34) rfl) rfl
theorem gwt2_35 : Cond.fieldLink RX7 16 "NineLamps" "kept" "LNineLamps$State;" ∈ G0 := gm_t2 (List.mem_of_getElem? (i := 35) rfl) rfl
theorem gwt2_36 : Cond.fieldLink RX7 19 "NineLamps" "isKept" "Z" ∈ G0 := gm_t2 (List.mem_of_getElem? (i := 36) rfl) rfl
theorem gwt2_37 : Cond.fieldLink RX7 49 "NineLamps" "trials" "LNineLamps$Trials;" ∈ G0 := gm_t2 (List.mem_of_getElem? (i := 37) rfl) rfl
theorem gwt2_38 : Cond.fieldLink RX7 26 "NineLamps" "tape" "LNineLamps$Tape;" ∈ G0 := gm_t2 (List.mem_of_getElem? (i := 38) rfl) rfl
theorem gwt2_39 : Cond.fieldLink RX7 32 "NineLamps" "sheets" "[LNineLamps$Sheet;" ∈ G0 := gm_t2 (List.mem_of_getElem? (i := 39) rfl) rfl
theorem gwt2_4 : u_lay RX6 TX6 5 ∈ G0 := gm_t2 (List.mem_of_getElem? (i := 4) rfl) rfl
theorem gwt2_40 : u_lay RX7 TX7 0 ∈ G0 := gm_t2 (List.mem_of_getElem? (i := 40) rfl) rfl
theorem gwt2_42 : u_lay RX7 TX7 1 ∈ G0 := gm_t2 (List.mem_of_getElem? (i := 42) rfl) rfl
theorem gwt2_44 : u_lay RX7 TX7 2 ∈ G0 := gm_t2 (List.mem_of_getElem? (i := 44) rfl) rfl
theorem gwt2_46 : u_lay RX7 TX7 3 ∈ G0 := gm_t2 (List.mem_of_getElem? (i := 46) rfl) rfl
theorem gwt2_48 : u_lay RX7 TX7 4 ∈ G0 := gm_t2 (List.mem_of_getElem? (i := 48) rfl) rfl
theorem gwt2_50 : u_lay RX7 TX7 5 ∈ G0 := gm_t2 (List.mem_of_getElem? (i := 50) rfl) rfl
theorem gwt2_57 : Cond.methodLink RX7 54 yX7_within ∈ G0 := gm_t2 (List.mem_of_getElem? (i := 57) rfl) rfl
theorem gwt2_58 : Cond.static yX7_within ∈ G0 := gm_t2 (List.mem_of_getElem? (i := 58) rfl) rfl
theorem gwt2_59 : Cond.code yX7_within cX7_within 3 (some .boolean) ∈ G0 := gm_t2 (List.mem_of_getElem? (i := 59) rfl) rfl
theorem gwt2_6 : u_lay RX6 TX6 6 ∈ G0 := gm_t2 (List.mem_of_getElem? (i := 6) rfl) rfl
theorem gwt2_60 : Cond.methodLink RX7 64 yX2_letIn ∈ G0 := gm_t2 (List.mem_of_getElem? (i := 60) rfl) rfl
theorem gwt2_61 : Cond.instanceMethod yX2_letIn ∈ G0 := gm_t2 (List.mem_of_getElem? (i := 61) rfl) rfl
theorem gwt2_62 : Cond.selects RX2 yX2_letIn yX2_letIn ∈ G0 := gm_t2 (List.mem_of_getElem? (i := 62) rfl) rfl
theorem gwt2_63 : Cond.code yX2_letIn cX2_letIn 5 (some .int) ∈ G0 := gm_t2 (List.mem_of_getElem? (i := 63) rfl) rfl
theorem gwt2_68 : Cond.methodLink RX7 68 yX2_takeOut ∈ G0 := gm_t2 (List.mem_of_getElem? (i := 68) rfl) rfl
theorem gwt2_69 : Cond.instanceMethod yX2_takeOut ∈ G0 := gm_t2 (List.mem_of_getElem? (i := 69) rfl) rfl
theorem gwt2_70 : Cond.selects RX2 yX2_takeOut yX2_takeOut ∈ G0 := gm_t2 (List.mem_of_getElem? (i := 70) rfl) rfl
theorem gwt2_71 : Cond.code yX2_takeOut cX2_takeOut 4 (some .int) ∈ G0 := gm_t2 (List.mem_of_getElem? (i := 71) rfl) rfl
theorem gwt2_72 : Cond.methodLink RX2 73 yX2_ringPlace ∈ G0 := gm_t2 (List.mem_of_getElem? (i := 72) rfl) rfl
theorem gwt2_73 : Cond.static yX2_ringPlace ∈ G0 := gm_t2 (List.mem_of_getElem? (i := 73) rfl) rfl
theorem gwt2_74 : Cond.code yX2_ringPlace cX2_ringPlace 2 (some .int) ∈ G0 := gm_t2 (List.mem_of_getElem? (i := 74) rfl) rfl
theorem gwt2_79 : Cond.methodLink RX7 72 yX7_isRock ∈ G0 := gm_t2 (List.mem_of_getElem? (i := 79) rfl) rfl
theorem gwt2_8 : u_lay RX6 TX6 7 ∈ G0 := gm_t2 (List.mem_of_getElem? (i := 8) rfl) rfl
theorem gwt2_81 : Cond.instanceMethod yX7_isRock ∈ G0 := gm_t2 (List.mem_of_getElem? (i := 81) rfl) rfl
theorem gwt2_82 : Cond.code yX7_isRock cX7_isRock 2 (some .boolean) ∈ G0 := gm_t2 (List.mem_of_getElem? (i := 82) rfl) rfl
theorem gwt2_87 : Cond.methodLink RX7 86 yX2_isDark ∈ G0 := gm_t2 (List.mem_of_getElem? (i := 87) rfl) rfl
theorem gwt2_88 : Cond.instanceMethod yX2_isDark ∈ G0 := gm_t2 (List.mem_of_getElem? (i := 88) rfl) rfl
theorem gwt2_89 : Cond.selects RX2 yX2_isDark yX2_isDark ∈ G0 := gm_t2 (List.mem_of_getElem? (i := 89) rfl) rfl
theorem gwt2_90 : Cond.code yX2_isDark cX2_isDark 2 (some .boolean) ∈ G0 := gm_t2 (List.mem_of_getElem? (i := 90) rfl) rfl
theorem gwt2_91 : Cond.methodLink RX7 89 yX7_asNumber ∈ G0 := gm_t2 (List.mem_of_getElem? (i := 91) rfl) rfl
theorem gwt2_92 : Cond.static yX7_asNumber ∈ G0 := gm_t2 (List.mem_of_getElem? (i := 92) rfl) rfl
theorem gwt2_93 : Cond.code yX7_asNumber cX7_asNumber 1 (some .int) ∈ G0 := gm_t2 (List.mem_of_getElem? (i := 93) rfl) rfl
theorem gwt2_98 : Cond.methodLink RX7 93 yX7_isPair ∈ G0 := gm_t2 (List.mem_of_getElem? (i := 98) rfl) rfl
theorem gwt3_100 : Cond.code yJ7_fill_53178 cJ7_fill_53178 4 none ∈ G0 := gm_t3 (List.mem_of_getElem? (i := 100) rfl) rfl
theorem gwt3_105 : Cond.methodLink RX7 178 yX2_isDone ∈ G0 := gm_t3 (List.mem_of_getElem? (i := 105) rfl) rfl
theorem gwt3_106 : Cond.instanceMethod yX2_isDone ∈ G0 := gm_t3 (List.mem_of_getElem? (i := 106) rfl) rfl
theorem gwt3_107 : Cond.selects RX2 yX2_isDone yX2_isDone ∈ G0 := gm_t3 (List.mem_of_getElem? (i := 107) rfl) rfl
theorem gwt3_108 : Cond.code yX2_isDone cX2_isDone 2 (some .boolean) ∈ G0 := gm_t3 (List.mem_of_getElem? (i := 108) rfl) rfl
theorem gwt3_109 : Cond.methodLink RX2 91 yX2_trueOnes ∈ G0 := gm_t3 (List.mem_of_getElem? (i := 109) rfl) rfl
theorem gwt3_111 : Cond.instanceMethod yX2_trueOnes ∈ G0 := gm_t3 (List.mem_of_getElem? (i := 111) rfl) rfl
theorem gwt3_112 : Cond.code yX2_trueOnes cX2_trueOnes 3 (some .int) ∈ G0 := gm_t3 (List.mem_of_getElem? (i := 112) rfl) rfl
theorem gwt3_113 : Cond.methodLink RX2 87 yX2_isTrue ∈ G0 := gm_t3 (List.mem_of_getElem? (i := 113) rfl) rfl
theorem gwt3_114 : Cond.methodLink RX2 95 yX2_howManyShow ∈ G0 := gm_t3 (List.mem_of_getElem? (i := 114) rfl) rfl
theorem gwt3_115 : Cond.instanceMethod yX2_howManyShow ∈ G0 := gm_t3 (List.mem_of_getElem? (i := 115) rfl) rfl
theorem gwt3_116 : Cond.selects RX2 yX2_howManyShow yX2_howManyShow ∈ G0 := gm_t3 (List.mem_of_getElem? (i := 116) rfl) rfl
theorem gwt3_117 : Cond.code yX2_howManyShow cX2_howManyShow 5 (some .int) ∈ G0 := gm_t3 (List.mem_of_getElem? (i := 117) rfl) rfl
theorem gwt3_118 : Cond.methodLink RX7 181 yX2_isUnlike ∈ G0 := gm_t3 (List.mem_of_getElem? (i := 118) rfl) rfl
theorem gwt3_119 : Cond.instanceMethod yX2_isUnlike ∈ G0 := gm_t3 (List.mem_of_getElem? (i := 119) rfl) rfl
theorem gwt3_120 : Cond.selects RX2 yX2_isUnlike yX2_isUnlike ∈ G0 := gm_t3 (List.mem_of_getElem? (i := 120) rfl) rfl
theorem gwt3_121 : Cond.code yX2_isUnlike cX2_isUnlike 2 (some .boolean) ∈ G0 := gm_t3 (List.mem_of_getElem? (i := 121) rfl) rfl
theorem gwt3_122 : Cond.methodLink RX7 185 yX2_allWaiting ∈ G0 := gm_t3 (List.mem_of_getElem? (i := 122) rfl) rfl
theorem gwt3_123 : Cond.instanceMethod yX2_allWaiting ∈ G0 := gm_t3 (List.mem_of_getElem? (i := 123) rfl) rfl
theorem gwt3_124 : Cond.selects RX2 yX2_allWaiting yX2_allWaiting ∈ G0 := gm_t3 (List.mem_of_getElem? (i := 124) rfl) rfl
theorem gwt3_125 : Cond.code yX2_allWaiting cX2_allWaiting 3 (some .int) ∈ G0 := gm_t3 (List.mem_of_getElem? (i := 125) rfl) rfl
theorem gwt3_130 : Cond.methodLink RX7 188 yX2_pass ∈ G0 := gm_t3 (List.mem_of_getElem? (i := 130) rfl) rfl
theorem gwt3_131 : Cond.instanceMethod yX2_pass ∈ G0 := gm_t3 (List.mem_of_getElem? (i := 131) rfl) rfl
theorem gwt3_132 : Cond.selects RX2 yX2_pass yX2_pass ∈ G0 := gm_t3 (List.mem_of_getElem? (i := 132) rfl) rfl
theorem gwt3_133 : Cond.code yX2_pass cX2_pass 5 (some .int) ∈ G0 := gm_t3 (List.mem_of_getElem? (i := 133) rfl) rfl
theorem gwt3_134 : Cond.methodLink RX2 104 yX2_hear ∈ G0 := gm_t3 (List.mem_of_getElem? (i := 134) rfl) rfl
theorem gwt3_136 : Cond.instanceMethod yX2_hear ∈ G0 := gm_t3 (List.mem_of_getElem? (i := 136) rfl) rfl
theorem gwt3_137 : Cond.code yX2_hear cX2_hear 5 none ∈ G0 := gm_t3 (List.mem_of_getElem? (i := 137) rfl) rfl
theorem gwt3_138 : Cond.methodLink RX2 108 yX2_isDark ∈ G0 := gm_t3 (List.mem_of_getElem? (i := 138) rfl) rfl
theorem gwt3_139 : Cond.methodLink RX2 111 yX2_act ∈ G0 := gm_t3 (List.mem_of_getElem? (i := 139) rfl) rfl
theorem gwt3_141 : Cond.instanceMethod yX2_act ∈ G0 := gm_t3 (List.mem_of_getElem? (i := 141) rfl) rfl
theorem gwt3_142 : Cond.code yX2_act cX2_act 7 (some .int) ∈ G0 := gm_t3 (List.mem_of_getElem? (i := 142) rfl) rfl
theorem gwt3_143 : Cond.methodLink RX2 129 yX2_counted ∈ G0 := gm_t3 (List.mem_of_getElem? (i := 143) rfl) rfl
theorem gwt3_144 : Cond.methodLink RX2 98 yX2_believed ∈ G0 := gm_t3 (List.mem_of_getElem? (i := 144) rfl) rfl
theorem gwt3_145 : Cond.methodLink RX2 139 yX2_say ∈ G0 := gm_t3 (List.mem_of_getElem? (i := 145) rfl) rfl
theorem gwt3_147 : Cond.instanceMethod yX2_say ∈ G0 := gm_t3 (List.mem_of_getElem? (i := 147) rfl) rfl
theorem gwt3_148 : Cond.code yX2_say cX2_say 6 (some .int) ∈ G0 := gm_t3 (List.mem_of_getElem? (i := 148) rfl) rfl
theorem gwt3_149 : Cond.methodLink RX2 150 yX2_colourSent ∈ G0 := gm_t3 (List.mem_of_getElem? (i := 149) rfl) rfl
theorem gwt3_150 : Cond.static yX2_colourSent ∈ G0 := gm_t3 (List.mem_of_getElem? (i := 150) rfl) rfl
theorem gwt3_151 : Cond.code yX2_colourSent cX2_colourSent 4 (some .int) ∈ G0 := gm_t3 (List.mem_of_getElem? (i := 151) rfl) rfl
theorem gwt3_152 : Cond.methodLink RX2 154 yX2_send ∈ G0 := gm_t3 (List.mem_of_getElem? (i := 152) rfl) rfl
theorem gwt3_154 : Cond.instanceMethod yX2_send ∈ G0 := gm_t3 (List.mem_of_getElem? (i := 154) rfl) rfl
theorem gwt3_155 : Cond.code yX2_send cX2_send 7 none ∈ G0 := gm_t3 (List.mem_of_getElem? (i := 155) rfl) rfl
theorem gwt3_156 : Cond.constant RX2 158 (1103515245) ∈ G0 := gm_t3 (List.mem_of_getElem? (i := 156) rfl) rfl
theorem gwt3_157 : Cond.constant RX2 159 (2147483647) ∈ G0 := gm_t3 (List.mem_of_getElem? (i := 157) rfl) rfl
theorem gwt3_158 : Cond.methodLink RX2 143 yX2_believe ∈ G0 := gm_t3 (List.mem_of_getElem? (i := 158) rfl) rfl
theorem gwt3_160 : Cond.instanceMethod yX2_believe ∈ G0 := gm_t3 (List.mem_of_getElem? (i := 160) rfl) rfl
theorem gwt3_161 : Cond.code yX2_believe cX2_believe 3 none ∈ G0 := gm_t3 (List.mem_of_getElem? (i := 161) rfl) rfl
theorem gwt3_162 : Cond.methodLink RX2 147 yX2_show ∈ G0 := gm_t3 (List.mem_of_getElem? (i := 162) rfl) rfl
theorem gwt3_164 : Cond.instanceMethod yX2_show ∈ G0 := gm_t3 (List.mem_of_getElem? (i := 164) rfl) rfl
theorem gwt3_165 : Cond.code yX2_show cX2_show 3 none ∈ G0 := gm_t3 (List.mem_of_getElem? (i := 165) rfl) rfl
theorem gwt3_166 : Cond.methodLink RX2 115 Lib.Math.min.name ∈ G0 := gm_t3 (List.mem_of_getElem? (i := 166) rfl) rfl
theorem gwt3_167 : Cond.constant RX2 120 (999999) ∈ G0 := gm_t3 (List.mem_of_getElem? (i := 167) rfl) rfl
theorem gwt3_172 : Cond.methodLink RX7 192 yX7_passMinutes ∈ G0 := gm_t3 (List.mem_of_getElem? (i := 172) rfl) rfl
theorem gwt3_174 : Cond.instanceMethod yX7_passMinutes ∈ G0 := gm_t3 (List.mem_of_getElem? (i := 174) rfl) rfl
theorem gwt3_175 : Cond.code yX7_passMinutes cX7_passMinutes 5 (some .int) ∈ G0 := gm_t3 (List.mem_of_getElem? (i := 175) rfl) rfl
theorem gwt3_188 : Cond.methodLink RX7 199 yX6_later ∈ G0 := gm_t3 (List.mem_of_getElem? (i := 188) rfl) rfl
theorem gwt3_189 : Cond.instanceMethod yX6_later ∈ G0 := gm_t3 (List.mem_of_getElem? (i := 189) rfl) rfl
theorem gwt3_190 : Cond.selects RX6 yX6_later yX6_later ∈ G0 := gm_t3 (List.mem_of_getElem? (i := 190) rfl) rfl
theorem gwt3_191 : Cond.code yX6_later cX6_later 2 (some (.object "NineLamps$Night")) ∈ G0 := gm_t3 (List.mem_of_getElem? (i := 191) rfl) rfl
theorem gwt3_192 : Cond.methodLink RX6 83 yX6_run ∈ G0 := gm_t3 (List.mem_of_getElem? (i := 192) rfl) rfl
theorem gwt3_194 : Cond.instanceMethod yX6_run ∈ G0 := gm_t3 (List.mem_of_getElem? (i := 194) rfl) rfl
theorem gwt3_195 : Cond.code yX6_run cX6_run 4 none ∈ G0 := gm_t3 (List.mem_of_getElem? (i := 195) rfl) rfl
theorem gwt3_196 : Cond.methodLink RX6 56 yX6_begin ∈ G0 := gm_t3 (List.mem_of_getElem? (i := 196) rfl) rfl
theorem gwt3_198 : Cond.instanceMethod yX6_begin ∈ G0 := gm_t3 (List.mem_of_getElem? (i := 198) rfl) rfl
theorem gwt3_199 : Cond.code yX6_begin cX6_begin 3 none ∈ G0 := gm_t3 (List.mem_of_getElem? (i := 199) rfl) rfl
theorem gwt3_200 : Cond.methodLink RX6 45 yX2_become ∈ G0 := gm_t3 (List.mem_of_getElem? (i := 200) rfl) rfl
theorem gwt3_201 : Cond.instanceMethod yX2_become ∈ G0 := gm_t3 (List.mem_of_getElem? (i := 201) rfl) rfl
theorem gwt3_202 : Cond.selects RX2 yX2_become yX2_become ∈ G0 := gm_t3 (List.mem_of_getElem? (i := 202) rfl) rfl
theorem gwt3_203 : Cond.code yX2_become cX2_become 3 none ∈ G0 := gm_t3 (List.mem_of_getElem? (i := 203) rfl) rfl
theorem gwt3_204 : Cond.methodLink RX2 61 arraycopyName ∈ G0 := gm_t3 (List.mem_of_getElem? (i := 204) rfl) rfl
theorem gwt3_205 : Cond.static arraycopyName ∈ G0 := gm_t3 (List.mem_of_getElem? (i := 205) rfl) rfl
theorem gwt3_206 : Cond.native arraycopyName ∈ G0 := gm_t3 (List.mem_of_getElem? (i := 206) rfl) rfl
theorem gwt3_207 : Cond.methodLink RX6 60 yX2_pass ∈ G0 := gm_t3 (List.mem_of_getElem? (i := 207) rfl) rfl
theorem gwt3_208 : Cond.methodLink RX6 64 yX2_isStill ∈ G0 := gm_t3 (List.mem_of_getElem? (i := 208) rfl) rfl
theorem gwt3_209 : Cond.instanceMethod yX2_isStill ∈ G0 := gm_t3 (List.mem_of_getElem? (i := 209) rfl) rfl
theorem gwt3_210 : Cond.selects RX2 yX2_isStill yX2_isStill ∈ G0 := gm_t3 (List.mem_of_getElem? (i := 210) rfl) rfl
theorem gwt3_211 : Cond.code yX2_isStill cX2_isStill 2 (some .boolean) ∈ G0 := gm_t3 (List.mem_of_getElem? (i := 211) rfl) rfl
theorem gwt3_212 : Cond.methodLink RX2 101 yX2_allWaiting ∈ G0 := gm_t3 (List.mem_of_getElem? (i := 212) rfl) rfl
theorem gwt3_217 : Cond.methodLink RX7 203 yX6_doneFromNow ∈ G0 := gm_t3 (List.mem_of_getElem? (i := 217) rfl) rfl
theorem gwt3_218 : Cond.instanceMethod yX6_doneFromNow ∈ G0 := gm_t3 (List.mem_of_getElem? (i := 218) rfl) rfl
theorem gwt3_219 : Cond.selects RX6 yX6_doneFromNow yX6_doneFromNow ∈ G0 := gm_t3 (List.mem_of_getElem? (i := 219) rfl) rfl
theorem gwt3_220 : Cond.code yX6_doneFromNow cX6_doneFromNow 1 (some .int) ∈ G0 := gm_t3 (List.mem_of_getElem? (i := 220) rfl) rfl
theorem gwt3_221 : Cond.methodLink RX6 87 yX6_until ∈ G0 := gm_t3 (List.mem_of_getElem? (i := 221) rfl) rfl
theorem gwt3_223 : Cond.instanceMethod yX6_until ∈ G0 := gm_t3 (List.mem_of_getElem? (i := 223) rfl) rfl
theorem gwt3_224 : Cond.code yX6_until cX6_until 5 (some .int) ∈ G0 := gm_t3 (List.mem_of_getElem? (i := 224) rfl) rfl
theorem gwt3_225 : Cond.methodLink RX6 68 yX6_isAt ∈ G0 := gm_t3 (List.mem_of_getElem? (i := 225) rfl) rfl
theorem gwt3_227 : Cond.instanceMethod yX6_isAt ∈ G0 := gm_t3 (List.mem_of_getElem? (i := 227) rfl) rfl
theorem gwt3_228 : Cond.code yX6_isAt cX6_isAt 3 (some .boolean) ∈ G0 := gm_t3 (List.mem_of_getElem? (i := 228) rfl) rfl
theorem gwt3_229 : Cond.methodLink RX6 72 yX2_isDone ∈ G0 := gm_t3 (List.mem_of_getElem? (i := 229) rfl) rfl
theorem gwt3_230 : Cond.methodLink RX6 76 yX2_isUnlike ∈ G0 := gm_t3 (List.mem_of_getElem? (i := 230) rfl) rfl
theorem gwt3_231 : Cond.methodLink RX6 79 yX2_showsAs ∈ G0 := gm_t3 (List.mem_of_getElem? (i := 231) rfl) rfl
theorem gwt3_232 : Cond.instanceMethod yX2_showsAs ∈ G0 := gm_t3 (List.mem_of_getElem? (i := 232) rfl) rfl
theorem gwt3_233 : Cond.selects RX2 yX2_showsAs yX2_showsAs ∈ G0 := gm_t3 (List.mem_of_getElem? (i := 233) rfl) rfl
theorem gwt3_234 : Cond.code yX2_showsAs cX2_showsAs 4 (some .boolean) ∈ G0 := gm_t3 (List.mem_of_getElem? (i := 234) rfl) rfl
theorem gwt3_235 : Cond.methodLink RX7 206 yX6_unlikeWith ∈ G0 := gm_t3 (List.mem_of_getElem? (i := 235) rfl) rfl
theorem gwt3_236 : Cond.instanceMethod yX6_unlikeWith ∈ G0 := gm_t3 (List.mem_of_getElem? (i := 236) rfl) rfl
theorem gwt3_237 : Cond.selects RX6 yX6_unlikeWith yX6_unlikeWith ∈ G0 := gm_t3 (List.mem_of_getElem? (i := 237) rfl) rfl
theorem gwt3_238 : Cond.code yX6_unlikeWith cX6_unlikeWith 2 (some .int) ∈ G0 := gm_t3 (List.mem_of_getElem? (i := 238) rfl) rfl
theorem gwt3_38 : Cond.methodLink RX5 98 yX5_refuse ∈ G0 := gm_t3 (List.mem_of_getElem? (i := 38) rfl) rfl
theorem gwt3_40 : Cond.instanceMethod yX5_refuse ∈ G0 := gm_t3 (List.mem_of_getElem? (i := 40) rfl) rfl
theorem gwt3_41 : Cond.code yX5_refuse cX5_refuse 2 none ∈ G0 := gm_t3 (List.mem_of_getElem? (i := 41) rfl) rfl
theorem gwt3_45 : Cond.methodLink RX5 79 yX0_append ∈ G0 := gm_t3 (List.mem_of_getElem? (i := 45) rfl) rfl
theorem gwt3_46 : Cond.methodLink RX5 56 yX5_pass ∈ G0 := gm_t3 (List.mem_of_getElem? (i := 46) rfl) rfl
theorem gwt3_48 : Cond.instanceMethod yX5_pass ∈ G0 := gm_t3 (List.mem_of_getElem? (i := 48) rfl) rfl
theorem gwt3_49 : Cond.code yX5_pass cX5_pass 2 none ∈ G0 := gm_t3 (List.mem_of_getElem? (i := 49) rfl) rfl
theorem gwt3_50 : Cond.methodLink RX5 91 yX5_isNext ∈ G0 := gm_t3 (List.mem_of_getElem? (i := 50) rfl) rfl
theorem gwt3_52 : Cond.instanceMethod yX5_isNext ∈ G0 := gm_t3 (List.mem_of_getElem? (i := 52) rfl) rfl
theorem gwt3_53 : Cond.code yX5_isNext cX5_isNext 2 (some .boolean) ∈ G0 := gm_t3 (List.mem_of_getElem? (i := 53) rfl) rfl
theorem gwt3_54 : Cond.methodLink RX5 60 yX5_refuseEnd ∈ G0 := gm_t3 (List.mem_of_getElem? (i := 54) rfl) rfl
theorem gwt3_56 : Cond.instanceMethod yX5_refuseEnd ∈ G0 := gm_t3 (List.mem_of_getElem? (i := 56) rfl) rfl
theorem gwt3_57 : Cond.code yX5_refuseEnd cX5_refuseEnd 1 none ∈ G0 := gm_t3 (List.mem_of_getElem? (i := 57) rfl) rfl
theorem gwt3_58 : Cond.methodLink RX5 63 yX5_answer ∈ G0 := gm_t3 (List.mem_of_getElem? (i := 58) rfl) rfl
theorem gwt3_60 : Cond.instanceMethod yX5_answer ∈ G0 := gm_t3 (List.mem_of_getElem? (i := 60) rfl) rfl
theorem gwt3_61 : Cond.code yX5_answer cX5_answer 2 (some .int) ∈ G0 := gm_t3 (List.mem_of_getElem? (i := 61) rfl) rfl
theorem gwt3_62 : Cond.methodLink RX7 151 yX0_become ∈ G0 := gm_t3 (List.mem_of_getElem? (i := 62) rfl) rfl
theorem gwt3_63 : Cond.instanceMethod yX0_become ∈ G0 := gm_t3 (List.mem_of_getElem? (i := 63) rfl) rfl
theorem gwt3_64 : Cond.selects RX0 yX0_become yX0_become ∈ G0 := gm_t3 (List.mem_of_getElem? (i := 64) rfl) rfl
theorem gwt3_65 : Cond.code yX0_become cX0_become 2 none ∈ G0 := gm_t3 (List.mem_of_getElem? (i := 65) rfl) rfl
theorem gwt3_66 : Cond.methodLink RX0 28 yX0_becomeWithout ∈ G0 := gm_t3 (List.mem_of_getElem? (i := 66) rfl) rfl
theorem gwt3_67 : Cond.instanceMethod yX0_becomeWithout ∈ G0 := gm_t3 (List.mem_of_getElem? (i := 67) rfl) rfl
theorem gwt3_68 : Cond.selects RX0 yX0_becomeWithout yX0_becomeWithout ∈ G0 := gm_t3 (List.mem_of_getElem? (i := 68) rfl) rfl
theorem gwt3_69 : Cond.code yX0_becomeWithout cX0_becomeWithout 4 none ∈ G0 := gm_t3 (List.mem_of_getElem? (i := 69) rfl) rfl
theorem gwt3_70 : Cond.methodLink RX0 42 yX0_append ∈ G0 := gm_t3 (List.mem_of_getElem? (i := 70) rfl) rfl
theorem gwt3_76 : Cond.methodLink RX7 155 yX5_readRocks ∈ G0 := gm_t3 (List.mem_of_getElem? (i := 76) rfl) rfl
theorem gwt3_77 : Cond.instanceMethod yX5_readRocks ∈ G0 := gm_t3 (List.mem_of_getElem? (i := 77) rfl) rfl
theorem gwt3_78 : Cond.selects RX5 yX5_readRocks yX5_readRocks ∈ G0 := gm_t3 (List.mem_of_getElem? (i := 78) rfl) rfl
theorem gwt3_79 : Cond.code yX5_readRocks cX5_readRocks 3 (some .int) ∈ G0 := gm_t3 (List.mem_of_getElem? (i := 79) rfl) rfl
theorem gwt3_80 : Cond.methodLink RX5 83 yX5_readRock ∈ G0 := gm_t3 (List.mem_of_getElem? (i := 80) rfl) rfl
theorem gwt3_82 : Cond.instanceMethod yX5_readRock ∈ G0 := gm_t3 (List.mem_of_getElem? (i := 82) rfl) rfl
theorem gwt3_83 : Cond.code yX5_readRock cX5_readRock 2 none ∈ G0 := gm_t3 (List.mem_of_getElem? (i := 83) rfl) rfl
theorem gwt3_86 : Cond.methodLink RX5 95 yX5_readNumber ∈ G0 := gm_t3 (List.mem_of_getElem? (i := 86) rfl) rfl
theorem gwt3_88 : Cond.instanceMethod yX5_readNumber ∈ G0 := gm_t3 (List.mem_of_getElem? (i := 88) rfl) rfl
theorem gwt3_89 : Cond.code yX5_readNumber cX5_readNumber 4 (some .int) ∈ G0 := gm_t3 (List.mem_of_getElem? (i := 89) rfl) rfl
theorem gwt3_90 : Cond.methodLink RX5 106 yX5_isDigit ∈ G0 := gm_t3 (List.mem_of_getElem? (i := 90) rfl) rfl
theorem gwt3_91 : Cond.static yX5_isDigit ∈ G0 := gm_t3 (List.mem_of_getElem? (i := 91) rfl) rfl
theorem gwt3_92 : Cond.code yX5_isDigit cX5_isDigit 1 (some .boolean) ∈ G0 := gm_t3 (List.mem_of_getElem? (i := 92) rfl) rfl
theorem gwt3_93 : Cond.methodLink RX5 109 Lib.Math.min.name ∈ G0 := gm_t3 (List.mem_of_getElem? (i := 93) rfl) rfl
theorem gwt3_94 : Cond.methodLink RX7 158 yX2_beginAnew ∈ G0 := gm_t3 (List.mem_of_getElem? (i := 94) rfl) rfl
theorem gwt3_95 : Cond.instanceMethod yX2_beginAnew ∈ G0 := gm_t3 (List.mem_of_getElem? (i := 95) rfl) rfl
theorem gwt3_96 : Cond.selects RX2 yX2_beginAnew yX2_beginAnew ∈ G0 := gm_t3 (List.mem_of_getElem? (i := 96) rfl) rfl
theorem gwt3_97 : Cond.code yX2_beginAnew cX2_beginAnew 1 none ∈ G0 := gm_t3 (List.mem_of_getElem? (i := 97) rfl) rfl
theorem gwt3_98 : Cond.methodLink RX2 67 yJ7_fill_53178 ∈ G0 := gm_t3 (List.mem_of_getElem? (i := 98) rfl) rfl
theorem gwt3_99 : Cond.static yJ7_fill_53178 ∈ G0 := gm_t3 (List.mem_of_getElem? (i := 99) rfl) rfl
theorem gwt4_10 : Cond.code yX6_keepIfLater cX6_keepIfLater 3 none ∈ G0 := gm_t4 (List.mem_of_getElem? (i := 10) rfl) rfl
theorem gwt4_100 : Cond.instanceMethod yX1_pairToAsk ∈ G0 := gm_t4 (List.mem_of_getElem? (i := 100) rfl) rfl
theorem gwt4_101 : Cond.selects RX1 yX1_pairToAsk yX1_pairToAsk ∈ G0 := gm_t4 (List.mem_of_getElem? (i := 101) rfl) rfl
theorem gwt4_102 : Cond.code yX1_pairToAsk cX1_pairToAsk 8 (some .int) ∈ G0 := gm_t4 (List.mem_of_getElem? (i := 102) rfl) rfl
theorem gwt4_103 : Cond.methodLink RX1 29 yX1_sureLiars ∈ G0 := gm_t4 (List.mem_of_getElem? (i := 103) rfl) rfl
theorem gwt4_104 : Cond.methodLink RX1 33 yX1_logsOf ∈ G0 := gm_t4 (List.mem_of_getElem? (i := 104) rfl) rfl
theorem gwt4_106 : Cond.instanceMethod yX1_logsOf ∈ G0 := gm_t4 (List.mem_of_getElem? (i := 106) rfl) rfl
theorem gwt4_107 : Cond.code yX1_logsOf cX1_logsOf 4 (some .int) ∈ G0 := gm_t4 (List.mem_of_getElem? (i := 107) rfl) rfl
theorem gwt4_108 : Cond.methodLink RX1 37 yX1_firstWithoutLog ∈ G0 := gm_t4 (List.mem_of_getElem? (i := 108) rfl) rfl
theorem gwt4_110 : Cond.instanceMethod yX1_firstWithoutLog ∈ G0 := gm_t4 (List.mem_of_getElem? (i := 110) rfl) rfl
theorem gwt4_111 : Cond.code yX1_firstWithoutLog cX1_firstWithoutLog 4 (some .int) ∈ G0 := gm_t4 (List.mem_of_getElem? (i := 111) rfl) rfl
theorem gwt4_112 : Cond.methodLink RX1 41 yX1_hasPair ∈ G0 := gm_t4 (List.mem_of_getElem? (i := 112) rfl) rfl
theorem gwt4_114 : Cond.instanceMethod yX1_hasPair ∈ G0 := gm_t4 (List.mem_of_getElem? (i := 114) rfl) rfl
theorem gwt4_115 : Cond.code yX1_hasPair cX1_hasPair 4 (some .boolean) ∈ G0 := gm_t4 (List.mem_of_getElem? (i := 115) rfl) rfl
theorem gwt4_120 : Cond.methodLink RX7 249 yX2_howManyShow ∈ G0 := gm_t4 (List.mem_of_getElem? (i := 120) rfl) rfl
theorem gwt4_125 : Cond.methodLink RX7 252 yX4_become ∈ G0 := gm_t4 (List.mem_of_getElem? (i := 125) rfl) rfl
theorem gwt4_126 : Cond.instanceMethod yX4_become ∈ G0 := gm_t4 (List.mem_of_getElem? (i := 126) rfl) rfl
theorem gwt4_127 : Cond.selects RX4 yX4_become yX4_become ∈ G0 := gm_t4 (List.mem_of_getElem? (i := 127) rfl) rfl
theorem gwt4_128 : Cond.code yX4_become cX4_become 2 none ∈ G0 := gm_t4 (List.mem_of_getElem? (i := 128) rfl) rfl
theorem gwt4_129 : Cond.methodLink RX4 30 yX2_become ∈ G0 := gm_t4 (List.mem_of_getElem? (i := 129) rfl) rfl
theorem gwt4_130 : Cond.methodLink RX4 34 yX0_become ∈ G0 := gm_t4 (List.mem_of_getElem? (i := 130) rfl) rfl
theorem gwt4_131 : Cond.methodLink RX4 37 yX1_become ∈ G0 := gm_t4 (List.mem_of_getElem? (i := 131) rfl) rfl
theorem gwt4_132 : Cond.instanceMethod yX1_become ∈ G0 := gm_t4 (List.mem_of_getElem? (i := 132) rfl) rfl
theorem gwt4_133 : Cond.selects RX1 yX1_become yX1_become ∈ G0 := gm_t4 (List.mem_of_getElem? (i := 133) rfl) rfl
theorem gwt4_134 : Cond.code yX1_become cX1_become 3 none ∈ G0 := gm_t4 (List.mem_of_getElem? (i := 134) rfl) rfl
theorem gwt4_135 : Cond.methodLink RX1 25 yX1_append ∈ G0 := gm_t4 (List.mem_of_getElem? (i := 135) rfl) rfl
theorem gwt4_144 : Cond.methodLink RX7 255 yX7_refusalOfRow ∈ G0 := gm_t4 (List.mem_of_getElem? (i := 144) rfl) rfl
theorem gwt4_146 : Cond.instanceMethod yX7_refusalOfRow ∈ G0 := gm_t4 (List.mem_of_getElem? (i := 146) rfl) rfl
theorem gwt4_147 : Cond.code yX7_refusalOfRow cX7_refusalOfRow 5 (some .int) ∈ G0 := gm_t4 (List.mem_of_getElem? (i := 147) rfl) rfl
theorem gwt4_148 : Cond.methodLink RX7 283 yX3_hasRow ∈ G0 := gm_t4 (List.mem_of_getElem? (i := 148) rfl) rfl
theorem gwt4_149 : Cond.instanceMethod yX3_hasRow ∈ G0 := gm_t4 (List.mem_of_getElem? (i := 149) rfl) rfl
theorem gwt4_15 : Cond.methodLink RX7 218 yX7_isSet ∈ G0 := gm_t4 (List.mem_of_getElem? (i := 15) rfl) rfl
theorem gwt4_150 : Cond.selects RX3 yX3_hasRow yX3_hasRow ∈ G0 := gm_t4 (List.mem_of_getElem? (i := 150) rfl) rfl
theorem gwt4_151 : Cond.code yX3_hasRow cX3_hasRow 3 (some .boolean) ∈ G0 := gm_t4 (List.mem_of_getElem? (i := 151) rfl) rfl
theorem gwt4_152 : Cond.constantLong RX7 262 (9) ∈ G0 := gm_t4 (List.mem_of_getElem? (i := 152) rfl) rfl
theorem gwt4_161 : Cond.methodLink RX7 264 yX6_shownFromNow ∈ G0 := gm_t4 (List.mem_of_getElem? (i := 161) rfl) rfl
theorem gwt4_162 : Cond.instanceMethod yX6_shownFromNow ∈ G0 := gm_t4 (List.mem_of_getElem? (i := 162) rfl) rfl
theorem gwt4_163 : Cond.selects RX6 yX6_shownFromNow yX6_shownFromNow ∈ G0 := gm_t4 (List.mem_of_getElem? (i := 163) rfl) rfl
theorem gwt4_164 : Cond.code yX6_shownFromNow cX6_shownFromNow 3 (some .int) ∈ G0 := gm_t4 (List.mem_of_getElem? (i := 164) rfl) rfl
theorem gwt4_169 : Cond.methodLink RX7 268 yX3_renew ∈ G0 := gm_t4 (List.mem_of_getElem? (i := 169) rfl) rfl
theorem gwt4_17 : Cond.instanceMethod yX7_isSet ∈ G0 := gm_t4 (List.mem_of_getElem? (i := 17) rfl) rfl
theorem gwt4_170 : Cond.instanceMethod yX3_renew ∈ G0 := gm_t4 (List.mem_of_getElem? (i := 170) rfl) rfl
theorem gwt4_171 : Cond.selects RX3 yX3_renew yX3_renew ∈ G0 := gm_t4 (List.mem_of_getElem? (i := 171) rfl) rfl
theorem gwt4_172 : Cond.code yX3_renew cX3_renew 3 none ∈ G0 := gm_t4 (List.mem_of_getElem? (i := 172) rfl) rfl
theorem gwt4_173 : Cond.methodLink RX3 26 yJ7_fill_d0a16 ∈ G0 := gm_t4 (List.mem_of_getElem? (i := 173) rfl) rfl
theorem gwt4_174 : Cond.static yJ7_fill_d0a16 ∈ G0 := gm_t4 (List.mem_of_getElem? (i := 174) rfl) rfl
theorem gwt4_175 : Cond.code yJ7_fill_d0a16 cJ7_fill_d0a16 5 none ∈ G0 := gm_t4 (List.mem_of_getElem? (i := 175) rfl) rfl
theorem gwt4_18 : Cond.code yX7_isSet cX7_isSet 2 (some .boolean) ∈ G0 := gm_t4 (List.mem_of_getElem? (i := 18) rfl) rfl
theorem gwt4_184 : Cond.methodLink RX7 276 yX3_put ∈ G0 := gm_t4 (List.mem_of_getElem? (i := 184) rfl) rfl
theorem gwt4_185 : Cond.instanceMethod yX3_put ∈ G0 := gm_t4 (List.mem_of_getElem? (i := 185) rfl) rfl
theorem gwt4_186 : Cond.selects RX3 yX3_put yX3_put ∈ G0 := gm_t4 (List.mem_of_getElem? (i := 186) rfl) rfl
theorem gwt4_187 : Cond.code yX3_put cX3_put 4 none ∈ G0 := gm_t4 (List.mem_of_getElem? (i := 187) rfl) rfl
theorem gwt4_192 : Cond.methodLink RX7 286 arraycopyName ∈ G0 := gm_t4 (List.mem_of_getElem? (i := 192) rfl) rfl
theorem gwt4_199 : Cond.fieldLink RX8 48 "NineLampsModel" "thrown" "I" ∈ G0 := gm_t4 (List.mem_of_getElem? (i := 199) rfl) rfl
theorem gwt4_200 : Cond.fieldLink RX8 7 "NineLampsModel" "s" "[I" ∈ G0 := gm_t4 (List.mem_of_getElem? (i := 200) rfl) rfl
theorem gwt4_201 : Cond.fieldLink RX8 13 "NineLampsModel" "base" "[I" ∈ G0 := gm_t4 (List.mem_of_getElem? (i := 201) rfl) rfl
theorem gwt4_202 : Cond.fieldLink RX8 16 "NineLampsModel" "w" "[I" ∈ G0 := gm_t4 (List.mem_of_getElem? (i := 202) rfl) rfl
theorem gwt4_203 : Cond.fieldLink RX8 19 "NineLampsModel" "kept" "[I" ∈ G0 := gm_t4 (List.mem_of_getElem? (i := 203) rfl) rfl
theorem gwt4_204 : Cond.fieldLink RX8 230 "NineLampsModel" "isKept" "Z" ∈ G0 := gm_t4 (List.mem_of_getElem? (i := 204) rfl) rfl
theorem gwt4_205 : Cond.fieldLink RX8 22 "NineLampsModel" "tape" "[I" ∈ G0 := gm_t4 (List.mem_of_getElem? (i := 205) rfl) rfl
theorem gwt4_206 : Cond.fieldLink RX8 101 "NineLampsModel" "typed" "I" ∈ G0 := gm_t4 (List.mem_of_getElem? (i := 206) rfl) rfl
theorem gwt4_207 : Cond.fieldLink RX8 104 "NineLampsModel" "next" "I" ∈ G0 := gm_t4 (List.mem_of_getElem? (i := 207) rfl) rfl
theorem gwt4_208 : Cond.fieldLink RX8 107 "NineLampsModel" "place" "I" ∈ G0 := gm_t4 (List.mem_of_getElem? (i := 208) rfl) rfl
theorem gwt4_209 : Cond.fieldLink RX8 118 "NineLampsModel" "fault" "I" ∈ G0 := gm_t4 (List.mem_of_getElem? (i := 209) rfl) rfl
theorem gwt4_210 : Cond.fieldLink RX8 25 "NineLampsModel" "draft" "[I" ∈ G0 := gm_t4 (List.mem_of_getElem? (i := 210) rfl) rfl
theorem gwt4_211 : Cond.fieldLink RX8 121 "NineLampsModel" "read" "I" ∈ G0 := gm_t4 (List.mem_of_getElem? (i := 211) rfl) rfl
theorem gwt4_212 : Cond.fieldLink RX8 28 "NineLampsModel" "lane" "[I" ∈ G0 := gm_t4 (List.mem_of_getElem? (i := 212) rfl) rfl
theorem gwt4_213 : Cond.fieldLink RX8 31 "NineLampsModel" "size" "[I" ∈ G0 := gm_t4 (List.mem_of_getElem? (i := 213) rfl) rfl
theorem gwt4_214 : Cond.fieldLink RX8 34 "NineLampsModel" "items" "[J" ∈ G0 := gm_t4 (List.mem_of_getElem? (i := 214) rfl) rfl
theorem gwt4_215 : Cond.fieldLink RX8 165 "NineLampsModel" "isLot" "Z" ∈ G0 := gm_t4 (List.mem_of_getElem? (i := 215) rfl) rfl
theorem gwt4_216 : Cond.fieldLink RX8 38 "NineLampsModel" "darkOne" "I" ∈ G0 := gm_t4 (List.mem_of_getElem? (i := 216) rfl) rfl
theorem gwt4_217 : Cond.fieldLink RX8 173 "NineLampsModel" "sentNow" "I" ∈ G0 := gm_t4 (List.mem_of_getElem? (i := 217) rfl) rfl
theorem gwt4_218 : Cond.fieldLink RX8 42 "NineLampsModel" "ends" "[I" ∈ G0 := gm_t4 (List.mem_of_getElem? (i := 218) rfl) rfl
theorem gwt4_219 : Cond.fieldLink RX8 45 "NineLampsModel" "held" "[J" ∈ G0 := gm_t4 (List.mem_of_getElem? (i := 219) rfl) rfl
theorem gwt4_220 : u_lay RX8 TX8 0 ∈ G0 := gm_t4 (List.mem_of_getElem? (i := 220) rfl) rfl
theorem gwt4_222 : u_lay RX8 TX8 1 ∈ G0 := gm_t4 (List.mem_of_getElem? (i := 222) rfl) rfl
theorem gwt4_224 : u_lay RX8 TX8 2 ∈ G0 := gm_t4 (List.mem_of_getElem? (i := 224) rfl) rfl
theorem gwt4_226 : u_lay RX8 TX8 3 ∈ G0 := gm_t4 (List.mem_of_getElem? (i := 226) rfl) rfl
theorem gwt4_228 : u_lay RX8 TX8 4 ∈ G0 := gm_t4 (List.mem_of_getElem? (i := 228) rfl) rfl
theorem gwt4_23 : Cond.methodLink RX7 221 yX6_mostBorne ∈ G0 := gm_t4 (List.mem_of_getElem? (i := 23) rfl) rfl
theorem gwt4_230 : u_lay RX8 TX8 5 ∈ G0 := gm_t4 (List.mem_of_getElem? (i := 230) rfl) rfl
theorem gwt4_232 : u_lay RX8 TX8 6 ∈ G0 := gm_t4 (List.mem_of_getElem? (i := 232) rfl) rfl
theorem gwt4_234 : u_lay RX8 TX8 7 ∈ G0 := gm_t4 (List.mem_of_getElem? (i := 234) rfl) rfl
theorem gwt4_236 : u_lay RX8 TX8 8 ∈ G0 := gm_t4 (List.mem_of_getElem? (i := 236) rfl) rfl
theorem gwt4_238 : u_lay RX8 TX8 9 ∈ G0 := gm_t4 (List.mem_of_getElem? (i := 238) rfl) rfl
theorem gwt4_24 : Cond.instanceMethod yX6_mostBorne ∈ G0 := gm_t4 (List.mem_of_getElem? (i := 24) rfl) rfl
theorem gwt4_25 : Cond.selects RX6 yX6_mostBorne yX6_mostBorne ∈ G0 := gm_t4 (List.mem_of_getElem? (i := 25) rfl) rfl
theorem gwt4_26 : Cond.code yX6_mostBorne cX6_mostBorne 1 (some .int) ∈ G0 := gm_t4 (List.mem_of_getElem? (i := 26) rfl) rfl
theorem gwt4_27 : Cond.methodLink RX6 102 yX6_borne ∈ G0 := gm_t4 (List.mem_of_getElem? (i := 27) rfl) rfl
theorem gwt4_29 : Cond.instanceMethod yX6_borne ∈ G0 := gm_t4 (List.mem_of_getElem? (i := 29) rfl) rfl
theorem gwt4_3 : Cond.methodLink RX7 209 yX6_findDarkest ∈ G0 := gm_t4 (List.mem_of_getElem? (i := 3) rfl) rfl
theorem gwt4_30 : Cond.code yX6_borne cX6_borne 5 (some .int) ∈ G0 := gm_t4 (List.mem_of_getElem? (i := 30) rfl) rfl
theorem gwt4_31 : Cond.methodLink RX6 106 yJ6_bitCount_0f7a4 ∈ G0 := gm_t4 (List.mem_of_getElem? (i := 31) rfl) rfl
theorem gwt4_36 : Cond.methodLink RX7 224 yX6_findWorst ∈ G0 := gm_t4 (List.mem_of_getElem? (i := 36) rfl) rfl
theorem gwt4_37 : Cond.instanceMethod yX6_findWorst ∈ G0 := gm_t4 (List.mem_of_getElem? (i := 37) rfl) rfl
theorem gwt4_38 : Cond.selects RX6 yX6_findWorst yX6_findWorst ∈ G0 := gm_t4 (List.mem_of_getElem? (i := 38) rfl) rfl
theorem gwt4_39 : Cond.code yX6_findWorst cX6_findWorst 3 none ∈ G0 := gm_t4 (List.mem_of_getElem? (i := 39) rfl) rfl
theorem gwt4_4 : Cond.instanceMethod yX6_findDarkest ∈ G0 := gm_t4 (List.mem_of_getElem? (i := 4) rfl) rfl
theorem gwt4_44 : Cond.methodLink RX7 227 yX6_leastNumber ∈ G0 := gm_t4 (List.mem_of_getElem? (i := 44) rfl) rfl
theorem gwt4_45 : Cond.instanceMethod yX6_leastNumber ∈ G0 := gm_t4 (List.mem_of_getElem? (i := 45) rfl) rfl
theorem gwt4_46 : Cond.selects RX6 yX6_leastNumber yX6_leastNumber ∈ G0 := gm_t4 (List.mem_of_getElem? (i := 46) rfl) rfl
theorem gwt4_47 : Cond.code yX6_leastNumber cX6_leastNumber 4 (some .int) ∈ G0 := gm_t4 (List.mem_of_getElem? (i := 47) rfl) rfl
theorem gwt4_48 : Cond.methodLink RX6 112 yX0_becomeWithNumber ∈ G0 := gm_t4 (List.mem_of_getElem? (i := 48) rfl) rfl
theorem gwt4_49 : Cond.instanceMethod yX0_becomeWithNumber ∈ G0 := gm_t4 (List.mem_of_getElem? (i := 49) rfl) rfl
theorem gwt4_5 : Cond.selects RX6 yX6_findDarkest yX6_findDarkest ∈ G0 := gm_t4 (List.mem_of_getElem? (i := 5) rfl) rfl
theorem gwt4_50 : Cond.selects RX0 yX0_becomeWithNumber yX0_becomeWithNumber ∈ G0 := gm_t4 (List.mem_of_getElem? (i := 50) rfl) rfl
theorem gwt4_51 : Cond.code yX0_becomeWithNumber cX0_becomeWithNumber 3 none ∈ G0 := gm_t4 (List.mem_of_getElem? (i := 51) rfl) rfl
theorem gwt4_52 : Cond.methodLink RX0 32 yX0_become ∈ G0 := gm_t4 (List.mem_of_getElem? (i := 52) rfl) rfl
theorem gwt4_53 : Cond.methodLink RX0 36 yJ7_fill_53178 ∈ G0 := gm_t4 (List.mem_of_getElem? (i := 53) rfl) rfl
theorem gwt4_58 : Cond.methodLink RX7 230 yX6_spareRules ∈ G0 := gm_t4 (List.mem_of_getElem? (i := 58) rfl) rfl
theorem gwt4_59 : Cond.instanceMethod yX6_spareRules ∈ G0 := gm_t4 (List.mem_of_getElem? (i := 59) rfl) rfl
theorem gwt4_6 : Cond.code yX6_findDarkest cX6_findDarkest 2 none ∈ G0 := gm_t4 (List.mem_of_getElem? (i := 6) rfl) rfl
theorem gwt4_60 : Cond.selects RX6 yX6_spareRules yX6_spareRules ∈ G0 := gm_t4 (List.mem_of_getElem? (i := 60) rfl) rfl
theorem gwt4_61 : Cond.code yX6_spareRules cX6_spareRules 4 (some .int) ∈ G0 := gm_t4 (List.mem_of_getElem? (i := 61) rfl) rfl
theorem gwt4_62 : Cond.methodLink RX6 115 yX2_outcome ∈ G0 := gm_t4 (List.mem_of_getElem? (i := 62) rfl) rfl
theorem gwt4_63 : Cond.instanceMethod yX2_outcome ∈ G0 := gm_t4 (List.mem_of_getElem? (i := 63) rfl) rfl
theorem gwt4_64 : Cond.selects RX2 yX2_outcome yX2_outcome ∈ G0 := gm_t4 (List.mem_of_getElem? (i := 64) rfl) rfl
theorem gwt4_65 : Cond.code yX2_outcome cX2_outcome 3 (some .int) ∈ G0 := gm_t4 (List.mem_of_getElem? (i := 65) rfl) rfl
theorem gwt4_66 : Cond.methodLink RX6 122 yX0_becomeWithout ∈ G0 := gm_t4 (List.mem_of_getElem? (i := 66) rfl) rfl
theorem gwt4_7 : Cond.methodLink RX6 94 yX6_keepIfLater ∈ G0 := gm_t4 (List.mem_of_getElem? (i := 7) rfl) rfl
theorem gwt4_71 : Cond.methodLink RX7 233 yX1_append ∈ G0 := gm_t4 (List.mem_of_getElem? (i := 71) rfl) rfl
theorem gwt4_72 : Cond.instanceMethod yX1_append ∈ G0 := gm_t4 (List.mem_of_getElem? (i := 72) rfl) rfl
theorem gwt4_73 : Cond.selects RX1 yX1_append yX1_append ∈ G0 := gm_t4 (List.mem_of_getElem? (i := 73) rfl) rfl
theorem gwt4_74 : Cond.code yX1_append cX1_append 4 (some .int) ∈ G0 := gm_t4 (List.mem_of_getElem? (i := 74) rfl) rfl
theorem gwt4_83 : Cond.methodLink RX7 235 yX1_sureLiars ∈ G0 := gm_t4 (List.mem_of_getElem? (i := 83) rfl) rfl
theorem gwt4_84 : Cond.instanceMethod yX1_sureLiars ∈ G0 := gm_t4 (List.mem_of_getElem? (i := 84) rfl) rfl
theorem gwt4_85 : Cond.selects RX1 yX1_sureLiars yX1_sureLiars ∈ G0 := gm_t4 (List.mem_of_getElem? (i := 85) rfl) rfl
theorem gwt4_86 : Cond.code yX1_sureLiars cX1_sureLiars 4 (some .int) ∈ G0 := gm_t4 (List.mem_of_getElem? (i := 86) rfl) rfl
theorem gwt4_9 : Cond.instanceMethod yX6_keepIfLater ∈ G0 := gm_t4 (List.mem_of_getElem? (i := 9) rfl) rfl
theorem gwt4_91 : Cond.methodLink RX7 238 yJ6_bitCount_0f7a4 ∈ G0 := gm_t4 (List.mem_of_getElem? (i := 91) rfl) rfl
theorem gwt4_92 : Cond.methodLink RX7 243 yX7_choose ∈ G0 := gm_t4 (List.mem_of_getElem? (i := 92) rfl) rfl
theorem gwt4_93 : Cond.static yX7_choose ∈ G0 := gm_t4 (List.mem_of_getElem? (i := 93) rfl) rfl
theorem gwt4_94 : Cond.code yX7_choose cX7_choose 4 (some .int) ∈ G0 := gm_t4 (List.mem_of_getElem? (i := 94) rfl) rfl
theorem gwt4_99 : Cond.methodLink RX7 246 yX1_pairToAsk ∈ G0 := gm_t4 (List.mem_of_getElem? (i := 99) rfl) rfl
theorem gwt5_0 : u_lay RX8 TX8 10 ∈ G0 := gm_t5 (List.mem_of_getElem? (i := 0) rfl) rfl
theorem gwt5_10 : u_lay RX8 TX8 15 ∈ G0 := gm_t5 (List.mem_of_getElem? (i := 10) rfl) rfl
theorem gwt5_104 : Cond.constantLong RX8 97 (32) ∈ G0 := gm_t5 (List.mem_of_getElem? (i := 104) rfl) rfl
theorem gwt5_105 : Cond.constantLong RX8 99 (126) ∈ G0 := gm_t5 (List.mem_of_getElem? (i := 105) rfl) rfl
theorem gwt5_110 : Cond.methodLink RX8 138 yX8_reads ∈ G0 := gm_t5 (List.mem_of_getElem? (i := 110) rfl) rfl
theorem gwt5_112 : Cond.instanceMethod yX8_reads ∈ G0 := gm_t5 (List.mem_of_getElem? (i := 112) rfl) rfl
theorem gwt5_113 : Cond.code yX8_reads cX8_reads 3 none ∈ G0 := gm_t5 (List.mem_of_getElem? (i := 113) rfl) rfl
theorem gwt5_114 : Cond.methodLink RX8 110 yX8_letter ∈ G0 := gm_t5 (List.mem_of_getElem? (i := 114) rfl) rfl
theorem gwt5_116 : Cond.instanceMethod yX8_letter ∈ G0 := gm_t5 (List.mem_of_getElem? (i := 116) rfl) rfl
theorem gwt5_117 : Cond.code yX8_letter cX8_letter 1 (some .int) ∈ G0 := gm_t5 (List.mem_of_getElem? (i := 117) rfl) rfl
theorem gwt5_118 : Cond.methodLink RX8 132 yX8_readsRule ∈ G0 := gm_t5 (List.mem_of_getElem? (i := 118) rfl) rfl
theorem gwt5_12 : u_lay RX8 TX8 16 ∈ G0 := gm_t5 (List.mem_of_getElem? (i := 12) rfl) rfl
theorem gwt5_120 : Cond.instanceMethod yX8_readsRule ∈ G0 := gm_t5 (List.mem_of_getElem? (i := 120) rfl) rfl
theorem gwt5_121 : Cond.code yX8_readsRule cX8_readsRule 3 none ∈ G0 := gm_t5 (List.mem_of_getElem? (i := 121) rfl) rfl
theorem gwt5_122 : Cond.methodLink RX8 124 yX8_takes ∈ G0 := gm_t5 (List.mem_of_getElem? (i := 122) rfl) rfl
theorem gwt5_124 : Cond.instanceMethod yX8_takes ∈ G0 := gm_t5 (List.mem_of_getElem? (i := 124) rfl) rfl
theorem gwt5_125 : Cond.code yX8_takes cX8_takes 6 (some .int) ∈ G0 := gm_t5 (List.mem_of_getElem? (i := 125) rfl) rfl
theorem gwt5_126 : Cond.methodLink RX8 114 yX8_passes ∈ G0 := gm_t5 (List.mem_of_getElem? (i := 126) rfl) rfl
theorem gwt5_128 : Cond.instanceMethod yX8_passes ∈ G0 := gm_t5 (List.mem_of_getElem? (i := 128) rfl) rfl
theorem gwt5_129 : Cond.code yX8_passes cX8_passes 2 (some .int) ∈ G0 := gm_t5 (List.mem_of_getElem? (i := 129) rfl) rfl
theorem gwt5_130 : Cond.constantLong RX8 128 (48) ∈ G0 := gm_t5 (List.mem_of_getElem? (i := 130) rfl) rfl
theorem gwt5_131 : Cond.constantLong RX8 130 (57) ∈ G0 := gm_t5 (List.mem_of_getElem? (i := 131) rfl) rfl
theorem gwt5_132 : Cond.methodLink RX8 135 yX8_readsRock ∈ G0 := gm_t5 (List.mem_of_getElem? (i := 132) rfl) rfl
theorem gwt5_134 : Cond.instanceMethod yX8_readsRock ∈ G0 := gm_t5 (List.mem_of_getElem? (i := 134) rfl) rfl
theorem gwt5_135 : Cond.code yX8_readsRock cX8_readsRock 4 none ∈ G0 := gm_t5 (List.mem_of_getElem? (i := 135) rfl) rfl
theorem gwt5_136 : Cond.methodLink RX8 142 yX8_kindOf ∈ G0 := gm_t5 (List.mem_of_getElem? (i := 136) rfl) rfl
theorem gwt5_138 : Cond.instanceMethod yX8_kindOf ∈ G0 := gm_t5 (List.mem_of_getElem? (i := 138) rfl) rfl
theorem gwt5_139 : Cond.code yX8_kindOf cX8_kindOf 2 (some .int) ∈ G0 := gm_t5 (List.mem_of_getElem? (i := 139) rfl) rfl
theorem gwt5_14 : u_lay RX8 TX8 17 ∈ G0 := gm_t5 (List.mem_of_getElem? (i := 14) rfl) rfl
theorem gwt5_140 : Cond.methodLink RX8 145 yX8_number ∈ G0 := gm_t5 (List.mem_of_getElem? (i := 140) rfl) rfl
theorem gwt5_142 : Cond.instanceMethod yX8_number ∈ G0 := gm_t5 (List.mem_of_getElem? (i := 142) rfl) rfl
theorem gwt5_143 : Cond.code yX8_number cX8_number 5 (some .int) ∈ G0 := gm_t5 (List.mem_of_getElem? (i := 143) rfl) rfl
theorem gwt5_152 : Cond.methodLink RX8 148 yX8_isDone ∈ G0 := gm_t5 (List.mem_of_getElem? (i := 152) rfl) rfl
theorem gwt5_153 : Cond.static yX8_isDone ∈ G0 := gm_t5 (List.mem_of_getElem? (i := 153) rfl) rfl
theorem gwt5_154 : Cond.code yX8_isDone cX8_isDone 4 (some .boolean) ∈ G0 := gm_t5 (List.mem_of_getElem? (i := 154) rfl) rfl
theorem gwt5_155 : Cond.methodLink RX8 151 yX8_isUnlike ∈ G0 := gm_t5 (List.mem_of_getElem? (i := 155) rfl) rfl
theorem gwt5_156 : Cond.static yX8_isUnlike ∈ G0 := gm_t5 (List.mem_of_getElem? (i := 156) rfl) rfl
theorem gwt5_157 : Cond.code yX8_isUnlike cX8_isUnlike 3 (some .boolean) ∈ G0 := gm_t5 (List.mem_of_getElem? (i := 157) rfl) rfl
theorem gwt5_158 : Cond.methodLink RX8 155 yX8_dueMany ∈ G0 := gm_t5 (List.mem_of_getElem? (i := 158) rfl) rfl
theorem gwt5_16 : u_lay RX8 TX8 18 ∈ G0 := gm_t5 (List.mem_of_getElem? (i := 16) rfl) rfl
theorem gwt5_160 : Cond.instanceMethod yX8_dueMany ∈ G0 := gm_t5 (List.mem_of_getElem? (i := 160) rfl) rfl
theorem gwt5_161 : Cond.code yX8_dueMany cX8_dueMany 3 (some .int) ∈ G0 := gm_t5 (List.mem_of_getElem? (i := 161) rfl) rfl
theorem gwt5_166 : Cond.methodLink RX8 187 yX8_goes ∈ G0 := gm_t5 (List.mem_of_getElem? (i := 166) rfl) rfl
theorem gwt5_168 : Cond.instanceMethod yX8_goes ∈ G0 := gm_t5 (List.mem_of_getElem? (i := 168) rfl) rfl
theorem gwt5_169 : Cond.code yX8_goes cX8_goes 6 none ∈ G0 := gm_t5 (List.mem_of_getElem? (i := 169) rfl) rfl
theorem gwt5_170 : Cond.methodLink RX8 180 yX8_isOut ∈ G0 := gm_t5 (List.mem_of_getElem? (i := 170) rfl) rfl
theorem gwt5_172 : Cond.instanceMethod yX8_isOut ∈ G0 := gm_t5 (List.mem_of_getElem? (i := 172) rfl) rfl
theorem gwt5_173 : Cond.code yX8_isOut cX8_isOut 3 (some .boolean) ∈ G0 := gm_t5 (List.mem_of_getElem? (i := 173) rfl) rfl
theorem gwt5_174 : Cond.methodLink RX8 183 yX8_acts ∈ G0 := gm_t5 (List.mem_of_getElem? (i := 174) rfl) rfl
theorem gwt5_176 : Cond.instanceMethod yX8_acts ∈ G0 := gm_t5 (List.mem_of_getElem? (i := 176) rfl) rfl
theorem gwt5_177 : Cond.code yX8_acts cX8_acts 7 none ∈ G0 := gm_t5 (List.mem_of_getElem? (i := 177) rfl) rfl
theorem gwt5_178 : Cond.methodLink RX8 176 yX8_says ∈ G0 := gm_t5 (List.mem_of_getElem? (i := 178) rfl) rfl
theorem gwt5_18 : u_lay RX8 TX8 19 ∈ G0 := gm_t5 (List.mem_of_getElem? (i := 18) rfl) rfl
theorem gwt5_180 : Cond.instanceMethod yX8_says ∈ G0 := gm_t5 (List.mem_of_getElem? (i := 180) rfl) rfl
theorem gwt5_181 : Cond.code yX8_says cX8_says 9 none ∈ G0 := gm_t5 (List.mem_of_getElem? (i := 181) rfl) rfl
theorem gwt5_182 : Cond.methodLink RX8 161 yX8_sentBy ∈ G0 := gm_t5 (List.mem_of_getElem? (i := 182) rfl) rfl
theorem gwt5_183 : Cond.static yX8_sentBy ∈ G0 := gm_t5 (List.mem_of_getElem? (i := 183) rfl) rfl
theorem gwt5_184 : Cond.code yX8_sentBy cX8_sentBy 6 (some .int) ∈ G0 := gm_t5 (List.mem_of_getElem? (i := 184) rfl) rfl
theorem gwt5_185 : Cond.methodLink RX8 169 yX8_drawn ∈ G0 := gm_t5 (List.mem_of_getElem? (i := 185) rfl) rfl
theorem gwt5_187 : Cond.instanceMethod yX8_drawn ∈ G0 := gm_t5 (List.mem_of_getElem? (i := 187) rfl) rfl
theorem gwt5_188 : Cond.code yX8_drawn cX8_drawn 2 (some .int) ∈ G0 := gm_t5 (List.mem_of_getElem? (i := 188) rfl) rfl
theorem gwt5_189 : Cond.constant RX8 158 (1103515245) ∈ G0 := gm_t5 (List.mem_of_getElem? (i := 189) rfl) rfl
theorem gwt5_190 : Cond.constant RX8 159 (2147483647) ∈ G0 := gm_t5 (List.mem_of_getElem? (i := 190) rfl) rfl
theorem gwt5_191 : Cond.constant RX8 160 (65536) ∈ G0 := gm_t5 (List.mem_of_getElem? (i := 191) rfl) rfl
theorem gwt5_192 : Cond.constant RX8 186 (999999) ∈ G0 := gm_t5 (List.mem_of_getElem? (i := 192) rfl) rfl
theorem gwt5_197 : Cond.constantLong RX8 191 (60) ∈ G0 := gm_t5 (List.mem_of_getElem? (i := 197) rfl) rfl
theorem gwt5_198 : Cond.methodLink RX8 193 yX8_gone ∈ G0 := gm_t5 (List.mem_of_getElem? (i := 198) rfl) rfl
theorem gwt5_2 : u_lay RX8 TX8 11 ∈ G0 := gm_t5 (List.mem_of_getElem? (i := 2) rfl) rfl
theorem gwt5_20 : u_lay RX8 TX8 20 ∈ G0 := gm_t5 (List.mem_of_getElem? (i := 20) rfl) rfl
theorem gwt5_200 : Cond.instanceMethod yX8_gone ∈ G0 := gm_t5 (List.mem_of_getElem? (i := 200) rfl) rfl
theorem gwt5_201 : Cond.code yX8_gone cX8_gone 4 (some .int) ∈ G0 := gm_t5 (List.mem_of_getElem? (i := 201) rfl) rfl
theorem gwt5_214 : Cond.methodLink RX8 200 yX8_tries ∈ G0 := gm_t5 (List.mem_of_getElem? (i := 214) rfl) rfl
theorem gwt5_216 : Cond.instanceMethod yX8_tries ∈ G0 := gm_t5 (List.mem_of_getElem? (i := 216) rfl) rfl
theorem gwt5_217 : Cond.code yX8_tries cX8_tries 4 none ∈ G0 := gm_t5 (List.mem_of_getElem? (i := 217) rfl) rfl
theorem gwt5_218 : Cond.methodLink RX8 196 yX8_copies ∈ G0 := gm_t5 (List.mem_of_getElem? (i := 218) rfl) rfl
theorem gwt5_219 : Cond.static yX8_copies ∈ G0 := gm_t5 (List.mem_of_getElem? (i := 219) rfl) rfl
theorem gwt5_220 : Cond.code yX8_copies cX8_copies 3 none ∈ G0 := gm_t5 (List.mem_of_getElem? (i := 220) rfl) rfl
theorem gwt5_225 : Cond.methodLink RX8 203 yX8_doneBy ∈ G0 := gm_t5 (List.mem_of_getElem? (i := 225) rfl) rfl
theorem gwt5_227 : Cond.instanceMethod yX8_doneBy ∈ G0 := gm_t5 (List.mem_of_getElem? (i := 227) rfl) rfl
theorem gwt5_228 : Cond.code yX8_doneBy cX8_doneBy 4 (some .int) ∈ G0 := gm_t5 (List.mem_of_getElem? (i := 228) rfl) rfl
theorem gwt5_237 : Cond.methodLink RX8 207 yX8_holdsBy ∈ G0 := gm_t5 (List.mem_of_getElem? (i := 237) rfl) rfl
theorem gwt5_239 : Cond.instanceMethod yX8_holdsBy ∈ G0 := gm_t5 (List.mem_of_getElem? (i := 239) rfl) rfl
theorem gwt5_27 : Cond.constantLong RX8 59 (5) ∈ G0 := gm_t5 (List.mem_of_getElem? (i := 27) rfl) rfl
theorem gwt5_28 : Cond.methodLink RX8 51 yX8_in ∈ G0 := gm_t5 (List.mem_of_getElem? (i := 28) rfl) rfl
theorem gwt5_29 : Cond.static yX8_in ∈ G0 := gm_t5 (List.mem_of_getElem? (i := 29) rfl) rfl
theorem gwt5_30 : Cond.code yX8_in cX8_in 6 (some .boolean) ∈ G0 := gm_t5 (List.mem_of_getElem? (i := 30) rfl) rfl
theorem gwt5_31 : Cond.methodLink RX8 61 yX8_letsIn ∈ G0 := gm_t5 (List.mem_of_getElem? (i := 31) rfl) rfl
theorem gwt5_32 : Cond.static yX8_letsIn ∈ G0 := gm_t5 (List.mem_of_getElem? (i := 32) rfl) rfl
theorem gwt5_33 : Cond.code yX8_letsIn cX8_letsIn 8 none ∈ G0 := gm_t5 (List.mem_of_getElem? (i := 33) rfl) rfl
theorem gwt5_34 : Cond.methodLink RX8 55 yX8_clears ∈ G0 := gm_t5 (List.mem_of_getElem? (i := 34) rfl) rfl
theorem gwt5_35 : Cond.static yX8_clears ∈ G0 := gm_t5 (List.mem_of_getElem? (i := 35) rfl) rfl
theorem gwt5_36 : Cond.code yX8_clears cX8_clears 3 none ∈ G0 := gm_t5 (List.mem_of_getElem? (i := 36) rfl) rfl
theorem gwt5_4 : u_lay RX8 TX8 12 ∈ G0 := gm_t5 (List.mem_of_getElem? (i := 4) rfl) rfl
theorem gwt5_45 : Cond.methodLink RX8 65 yX8_isRock ∈ G0 := gm_t5 (List.mem_of_getElem? (i := 45) rfl) rfl
theorem gwt5_47 : Cond.instanceMethod yX8_isRock ∈ G0 := gm_t5 (List.mem_of_getElem? (i := 47) rfl) rfl
theorem gwt5_48 : Cond.code yX8_isRock cX8_isRock 2 (some .boolean) ∈ G0 := gm_t5 (List.mem_of_getElem? (i := 48) rfl) rfl
theorem gwt5_53 : Cond.constantLong RX8 69 (99) ∈ G0 := gm_t5 (List.mem_of_getElem? (i := 53) rfl) rfl
theorem gwt5_54 : Cond.constantLong RX8 71 (100) ∈ G0 := gm_t5 (List.mem_of_getElem? (i := 54) rfl) rfl
theorem gwt5_55 : Cond.methodLink RX8 73 yX8_isDark ∈ G0 := gm_t5 (List.mem_of_getElem? (i := 55) rfl) rfl
theorem gwt5_56 : Cond.static yX8_isDark ∈ G0 := gm_t5 (List.mem_of_getElem? (i := 56) rfl) rfl
theorem gwt5_57 : Cond.code yX8_isDark cX8_isDark 3 (some .boolean) ∈ G0 := gm_t5 (List.mem_of_getElem? (i := 57) rfl) rfl
theorem gwt5_6 : u_lay RX8 TX8 13 ∈ G0 := gm_t5 (List.mem_of_getElem? (i := 6) rfl) rfl
theorem gwt5_62 : Cond.constantLong RX8 77 (9) ∈ G0 := gm_t5 (List.mem_of_getElem? (i := 62) rfl) rfl
theorem gwt5_67 : Cond.constantLong RX8 79 (7) ∈ G0 := gm_t5 (List.mem_of_getElem? (i := 67) rfl) rfl
theorem gwt5_68 : Cond.methodLink RX8 81 yX8_isTrue ∈ G0 := gm_t5 (List.mem_of_getElem? (i := 68) rfl) rfl
theorem gwt5_69 : Cond.static yX8_isTrue ∈ G0 := gm_t5 (List.mem_of_getElem? (i := 69) rfl) rfl
theorem gwt5_70 : Cond.code yX8_isTrue cX8_isTrue 3 (some .boolean) ∈ G0 := gm_t5 (List.mem_of_getElem? (i := 70) rfl) rfl
theorem gwt5_75 : Cond.methodLink RX8 84 yX8_heardBy ∈ G0 := gm_t5 (List.mem_of_getElem? (i := 75) rfl) rfl
theorem gwt5_76 : Cond.static yX8_heardBy ∈ G0 := gm_t5 (List.mem_of_getElem? (i := 76) rfl) rfl
theorem gwt5_77 : Cond.code yX8_heardBy cX8_heardBy 3 (some .int) ∈ G0 := gm_t5 (List.mem_of_getElem? (i := 77) rfl) rfl
theorem gwt5_8 : u_lay RX8 TX8 14 ∈ G0 := gm_t5 (List.mem_of_getElem? (i := 8) rfl) rfl
theorem gwt5_82 : Cond.constantLong RX8 88 (2) ∈ G0 := gm_t5 (List.mem_of_getElem? (i := 82) rfl) rfl
theorem gwt5_83 : Cond.methodLink RX8 90 yX8_countBy ∈ G0 := gm_t5 (List.mem_of_getElem? (i := 83) rfl) rfl
theorem gwt5_84 : Cond.static yX8_countBy ∈ G0 := gm_t5 (List.mem_of_getElem? (i := 84) rfl) rfl
theorem gwt5_85 : Cond.code yX8_countBy cX8_countBy 6 (some .int) ∈ G0 := gm_t5 (List.mem_of_getElem? (i := 85) rfl) rfl
theorem gwt5_90 : Cond.constantLong RX8 93 (18) ∈ G0 := gm_t5 (List.mem_of_getElem? (i := 90) rfl) rfl
theorem gwt5_95 : Cond.constantLong RX8 95 (3) ∈ G0 := gm_t5 (List.mem_of_getElem? (i := 95) rfl) rfl
theorem gwt6_0 : Cond.code yX8_holdsBy cX8_holdsBy 4 (some .boolean) ∈ G0 := gm_t6 (List.mem_of_getElem? (i := 0) rfl) rfl
theorem gwt6_10 : Cond.static yX8_ones ∈ G0 := gm_t6 (List.mem_of_getElem? (i := 10) rfl) rfl
theorem gwt6_101 : Cond.methodLink RX8 240 yX8_cut ∈ G0 := gm_t6 (List.mem_of_getElem? (i := 101) rfl) rfl
theorem gwt6_102 : Cond.static yX8_cut ∈ G0 := gm_t6 (List.mem_of_getElem? (i := 102) rfl) rfl
theorem gwt6_103 : Cond.code yX8_cut cX8_cut 3 (some .long) ∈ G0 := gm_t6 (List.mem_of_getElem? (i := 103) rfl) rfl
theorem gwt6_109 : Cond.fieldLink RJ0 15 "java/lang/String" "coder" "B" ∈ G0 := gm_t6 (List.mem_of_getElem? (i := 109) rfl) rfl
theorem gwt6_11 : Cond.code yX8_ones cX8_ones 3 (some .int) ∈ G0 := gm_t6 (List.mem_of_getElem? (i := 11) rfl) rfl
theorem gwt6_110 : Cond.fieldLink RJ0 9 "java/lang/String" "value" "[B" ∈ G0 := gm_t6 (List.mem_of_getElem? (i := 110) rfl) rfl
theorem gwt6_28 : Cond.constantLong RX8 216 (8) ∈ G0 := gm_t6 (List.mem_of_getElem? (i := 28) rfl) rfl
theorem gwt6_37 : Cond.methodLink RX8 218 yX8_sureOnes ∈ G0 := gm_t6 (List.mem_of_getElem? (i := 37) rfl) rfl
theorem gwt6_39 : Cond.instanceMethod yX8_sureOnes ∈ G0 := gm_t6 (List.mem_of_getElem? (i := 39) rfl) rfl
theorem gwt6_40 : Cond.code yX8_sureOnes cX8_sureOnes 5 (some .int) ∈ G0 := gm_t6 (List.mem_of_getElem? (i := 40) rfl) rfl
theorem gwt6_49 : Cond.methodLink RX8 221 yX8_logsOf ∈ G0 := gm_t6 (List.mem_of_getElem? (i := 49) rfl) rfl
theorem gwt6_5 : Cond.methodLink RX8 213 yX8_holdsAll ∈ G0 := gm_t6 (List.mem_of_getElem? (i := 5) rfl) rfl
theorem gwt6_51 : Cond.instanceMethod yX8_logsOf ∈ G0 := gm_t6 (List.mem_of_getElem? (i := 51) rfl) rfl
theorem gwt6_52 : Cond.code yX8_logsOf cX8_logsOf 4 (some .int) ∈ G0 := gm_t6 (List.mem_of_getElem? (i := 52) rfl) rfl
theorem gwt6_53 : Cond.methodLink RX8 224 yX8_isLogged ∈ G0 := gm_t6 (List.mem_of_getElem? (i := 53) rfl) rfl
theorem gwt6_55 : Cond.instanceMethod yX8_isLogged ∈ G0 := gm_t6 (List.mem_of_getElem? (i := 55) rfl) rfl
theorem gwt6_56 : Cond.code yX8_isLogged cX8_isLogged 5 (some .boolean) ∈ G0 := gm_t6 (List.mem_of_getElem? (i := 56) rfl) rfl
theorem gwt6_61 : Cond.constantLong RX8 228 (4) ∈ G0 := gm_t6 (List.mem_of_getElem? (i := 61) rfl) rfl
theorem gwt6_7 : Cond.instanceMethod yX8_holdsAll ∈ G0 := gm_t6 (List.mem_of_getElem? (i := 7) rfl) rfl
theorem gwt6_74 : Cond.methodLink RX8 233 yX8_isSheet ∈ G0 := gm_t6 (List.mem_of_getElem? (i := 74) rfl) rfl
theorem gwt6_75 : Cond.static yX8_isSheet ∈ G0 := gm_t6 (List.mem_of_getElem? (i := 75) rfl) rfl
theorem gwt6_76 : Cond.code yX8_isSheet cX8_isSheet 2 (some .boolean) ∈ G0 := gm_t6 (List.mem_of_getElem? (i := 76) rfl) rfl
theorem gwt6_77 : Cond.methodLink RX8 236 yX8_wrongOf ∈ G0 := gm_t6 (List.mem_of_getElem? (i := 77) rfl) rfl
theorem gwt6_79 : Cond.instanceMethod yX8_wrongOf ∈ G0 := gm_t6 (List.mem_of_getElem? (i := 79) rfl) rfl
theorem gwt6_8 : Cond.code yX8_holdsAll cX8_holdsAll 5 (some .boolean) ∈ G0 := gm_t6 (List.mem_of_getElem? (i := 8) rfl) rfl
theorem gwt6_80 : Cond.code yX8_wrongOf cX8_wrongOf 5 (some .int) ∈ G0 := gm_t6 (List.mem_of_getElem? (i := 80) rfl) rfl
theorem gwt6_9 : Cond.methodLink RX8 210 yX8_ones ∈ G0 := gm_t6 (List.mem_of_getElem? (i := 9) rfl) rfl
theorem inGX0 : ∀ w ∈ u_ws RX0 TX0 5, w ∈ G0 := by
  intro w hw
  obtain ⟨k, hk, rfl⟩ := List.mem_map.mp hw
  have hk := List.mem_range.mp hk
  match k, hk with
  | 0, _ => exact gwt1_125
  | 1, _ => exact gwt1_127
  | 2, _ => exact gwt1_129
  | 3, _ => exact gwt1_131
  | 4, _ => exact gwt1_133
  | k + 5, h => exact absurd h (by omega)
theorem inGX1 : ∀ w ∈ u_ws RX1 TX1 4, w ∈ G0 := by
  intro w hw
  obtain ⟨k, hk, rfl⟩ := List.mem_map.mp hw
  have hk := List.mem_range.mp hk
  match k, hk with
  | 0, _ => exact gwt1_147
  | 1, _ => exact gwt1_149
  | 2, _ => exact gwt1_151
  | 3, _ => exact gwt1_153
  | k + 4, h => exact absurd h (by omega)
theorem inGX2 : ∀ w ∈ u_ws RX2 TX2 15, w ∈ G0 := by
  intro w hw
  obtain ⟨k, hk, rfl⟩ := List.mem_map.mp hw
  have hk := List.mem_range.mp hk
  match k, hk with
  | 0, _ => exact gwt1_70
  | 1, _ => exact gwt1_72
  | 2, _ => exact gwt1_74
  | 3, _ => exact gwt1_76
  | 4, _ => exact gwt1_78
  | 5, _ => exact gwt1_80
  | 6, _ => exact gwt1_82
  | 7, _ => exact gwt1_84
  | 8, _ => exact gwt1_86
  | 9, _ => exact gwt1_88
  | 10, _ => exact gwt1_90
  | 11, _ => exact gwt1_92
  | 12, _ => exact gwt1_94
  | 13, _ => exact gwt1_96
  | 14, _ => exact gwt1_98
  | k + 15, h => exact absurd h (by omega)
theorem inGX3 : ∀ w ∈ u_ws RX3 TX3 4, w ∈ G0 := by
  intro w hw
  obtain ⟨k, hk, rfl⟩ := List.mem_map.mp hw
  have hk := List.mem_range.mp hk
  match k, hk with
  | 0, _ => exact gwt2_24
  | 1, _ => exact gwt2_26
  | 2, _ => exact gwt2_28
  | 3, _ => exact gwt2_30
  | k + 4, h => exact absurd h (by omega)
theorem inGX4 : ∀ w ∈ u_ws RX4 TX4 3, w ∈ G0 := by
  intro w hw
  obtain ⟨k, hk, rfl⟩ := List.mem_map.mp hw
  have hk := List.mem_range.mp hk
  match k, hk with
  | 0, _ => exact gwt1_162
  | 1, _ => exact gwt1_164
  | 2, _ => exact gwt1_166
  | k + 3, h => exact absurd h (by omega)
theorem inGX5 : ∀ w ∈ u_ws RX5 TX5 9, w ∈ G0 := by
  intro w hw
  obtain ⟨k, hk, rfl⟩ := List.mem_map.mp hw
  have hk := List.mem_range.mp hk
  match k, hk with
  | 0, _ => exact gwt1_192
  | 1, _ => exact gwt1_194
  | 2, _ => exact gwt1_196
  | 3, _ => exact gwt1_198
  | 4, _ => exact gwt1_200
  | 5, _ => exact gwt1_202
  | 6, _ => exact gwt1_204
  | 7, _ => exact gwt1_206
  | 8, _ => exact gwt1_208
  | k + 9, h => exact absurd h (by omega)
theorem inGX6 : ∀ w ∈ u_ws RX6 TX6 8, w ∈ G0 := by
  intro w hw
  obtain ⟨k, hk, rfl⟩ := List.mem_map.mp hw
  have hk := List.mem_range.mp hk
  match k, hk with
  | 0, _ => exact gwt1_234
  | 1, _ => exact gwt1_236
  | 2, _ => exact gwt1_238
  | 3, _ => exact gwt2_0
  | 4, _ => exact gwt2_2
  | 5, _ => exact gwt2_4
  | 6, _ => exact gwt2_6
  | 7, _ => exact gwt2_8
  | k + 8, h => exact absurd h (by omega)
theorem inGX7 : ∀ w ∈ u_ws RX7 TX7 6, w ∈ G0 := by
  intro w hw
  obtain ⟨k, hk, rfl⟩ := List.mem_map.mp hw
  have hk := List.mem_range.mp hk
  match k, hk with
  | 0, _ => exact gwt2_40
  | 1, _ => exact gwt2_42
  | 2, _ => exact gwt2_44
  | 3, _ => exact gwt2_46
  | 4, _ => exact gwt2_48
  | 5, _ => exact gwt2_50
  | k + 6, h => exact absurd h (by omega)
theorem inGX8 : ∀ w ∈ u_ws RX8 TX8 21, w ∈ G0 := by
  intro w hw
  obtain ⟨k, hk, rfl⟩ := List.mem_map.mp hw
  have hk := List.mem_range.mp hk
  match k, hk with
  | 0, _ => exact gwt4_220
  | 1, _ => exact gwt4_222
  | 2, _ => exact gwt4_224
  | 3, _ => exact gwt4_226
  | 4, _ => exact gwt4_228
  | 5, _ => exact gwt4_230
  | 6, _ => exact gwt4_232
  | 7, _ => exact gwt4_234
  | 8, _ => exact gwt4_236
  | 9, _ => exact gwt4_238
  | 10, _ => exact gwt5_0
  | 11, _ => exact gwt5_2
  | 12, _ => exact gwt5_4
  | 13, _ => exact gwt5_6
  | 14, _ => exact gwt5_8
  | 15, _ => exact gwt5_10
  | 16, _ => exact gwt5_12
  | 17, _ => exact gwt5_14
  | 18, _ => exact gwt5_16
  | 19, _ => exact gwt5_18
  | 20, _ => exact gwt5_20
  | k + 21, h => exact absurd h (by omega)
theorem lkX0_15 : jm_fl RX0 15 0 1 := ⟨RX0, TX0, 5, rfl, inGX0, by decide, gwt1_113⟩
theorem lkX0_19 : jm_fl RX0 19 0 2 := ⟨RX0, TX0, 5, rfl, inGX0, by decide, gwt1_116⟩
theorem lkX0_22 : jm_fl RX0 22 0 3 := ⟨RX0, TX0, 5, rfl, inGX0, by decide, gwt1_119⟩
theorem lkX0_25 : jm_fl RX0 25 0 4 := ⟨RX0, TX0, 5, rfl, inGX0, by decide, gwt1_122⟩
theorem lkX0_9 : jm_fl RX0 9 0 0 := ⟨RX0, TX0, 5, rfl, inGX0, by decide, gwt1_108⟩
theorem lkX1_15 : jm_fl RX1 15 1 1 := ⟨RX1, TX1, 4, rfl, inGX1, by decide, gwt1_144⟩
theorem lkX1_19 : jm_fl RX1 19 1 2 := ⟨RX1, TX1, 4, rfl, inGX1, by decide, gwt1_145⟩
theorem lkX1_22 : jm_fl RX1 22 1 3 := ⟨RX1, TX1, 4, rfl, inGX1, by decide, gwt1_146⟩
theorem lkX1_9 : jm_fl RX1 9 1 0 := ⟨RX1, TX1, 4, rfl, inGX1, by decide, gwt1_142⟩
theorem lkX2_121 : jm_fl RX2 121 0 0 := ⟨RX0, TX0, 5, rfl, inGX0, by decide, gwt1_112⟩
theorem lkX2_126 : jm_fl RX2 126 0 1 := ⟨RX0, TX0, 5, rfl, inGX0, by decide, gwt1_115⟩
theorem lkX2_131 : jm_fl RX2 131 0 2 := ⟨RX0, TX0, 5, rfl, inGX0, by decide, gwt1_118⟩
theorem lkX2_134 : jm_fl RX2 134 0 4 := ⟨RX0, TX0, 5, rfl, inGX0, by decide, gwt1_124⟩
theorem lkX2_137 : jm_fl RX2 137 0 3 := ⟨RX0, TX0, 5, rfl, inGX0, by decide, gwt1_121⟩
theorem lkX2_15 : jm_fl RX2 15 2 1 := ⟨RX2, TX2, 15, rfl, inGX2, by decide, gwt1_44⟩
theorem lkX2_18 : jm_fl RX2 18 2 2 := ⟨RX2, TX2, 15, rfl, inGX2, by decide, gwt1_46⟩
theorem lkX2_21 : jm_fl RX2 21 2 3 := ⟨RX2, TX2, 15, rfl, inGX2, by decide, gwt1_48⟩
theorem lkX2_24 : jm_fl RX2 24 2 4 := ⟨RX2, TX2, 15, rfl, inGX2, by decide, gwt1_50⟩
theorem lkX2_27 : jm_fl RX2 27 2 5 := ⟨RX2, TX2, 15, rfl, inGX2, by decide, gwt1_51⟩
theorem lkX2_30 : jm_fl RX2 30 2 6 := ⟨RX2, TX2, 15, rfl, inGX2, by decide, gwt1_53⟩
theorem lkX2_34 : jm_fl RX2 34 2 7 := ⟨RX2, TX2, 15, rfl, inGX2, by decide, gwt1_54⟩
theorem lkX2_38 : jm_fl RX2 38 2 8 := ⟨RX2, TX2, 15, rfl, inGX2, by decide, gwt1_57⟩
theorem lkX2_41 : jm_fl RX2 41 2 9 := ⟨RX2, TX2, 15, rfl, inGX2, by decide, gwt1_59⟩
theorem lkX2_44 : jm_fl RX2 44 2 10 := ⟨RX2, TX2, 15, rfl, inGX2, by decide, gwt1_61⟩
theorem lkX2_47 : jm_fl RX2 47 2 11 := ⟨RX2, TX2, 15, rfl, inGX2, by decide, gwt1_63⟩
theorem lkX2_52 : jm_fl RX2 52 2 12 := ⟨RX2, TX2, 15, rfl, inGX2, by decide, gwt1_65⟩
theorem lkX2_55 : jm_fl RX2 55 2 13 := ⟨RX2, TX2, 15, rfl, inGX2, by decide, gwt1_68⟩
theorem lkX2_58 : jm_fl RX2 58 2 14 := ⟨RX2, TX2, 15, rfl, inGX2, by decide, gwt1_69⟩
theorem lkX2_9 : jm_fl RX2 9 2 0 := ⟨RX2, TX2, 15, rfl, inGX2, by decide, gwt1_41⟩
theorem lkX3_15 : jm_fl RX3 15 3 1 := ⟨RX3, TX3, 4, rfl, inGX3, by decide, gwt2_18⟩
theorem lkX3_19 : jm_fl RX3 19 3 2 := ⟨RX3, TX3, 4, rfl, inGX3, by decide, gwt2_20⟩
theorem lkX3_22 : jm_fl RX3 22 3 3 := ⟨RX3, TX3, 4, rfl, inGX3, by decide, gwt2_22⟩
theorem lkX4_10 : jm_fl RX4 10 4 0 := ⟨RX4, TX4, 3, rfl, inGX4, by decide, gwt1_156⟩
theorem lkX4_19 : jm_fl RX4 19 4 1 := ⟨RX4, TX4, 3, rfl, inGX4, by decide, gwt1_158⟩
theorem lkX4_26 : jm_fl RX4 26 4 2 := ⟨RX4, TX4, 3, rfl, inGX4, by decide, gwt1_160⟩
theorem lkX5_18 : jm_fl RX5 18 5 1 := ⟨RX5, TX5, 9, rfl, inGX5, by decide, gwt1_179⟩
theorem lkX5_22 : jm_fl RX5 22 5 2 := ⟨RX5, TX5, 9, rfl, inGX5, by decide, gwt1_181⟩
theorem lkX5_26 : jm_fl RX5 26 5 3 := ⟨RX5, TX5, 9, rfl, inGX5, by decide, gwt1_183⟩
theorem lkX5_29 : jm_fl RX5 29 5 4 := ⟨RX5, TX5, 9, rfl, inGX5, by decide, gwt1_185⟩
theorem lkX5_32 : jm_fl RX5 32 5 5 := ⟨RX5, TX5, 9, rfl, inGX5, by decide, gwt1_187⟩
theorem lkX5_35 : jm_fl RX5 35 5 6 := ⟨RX5, TX5, 9, rfl, inGX5, by decide, gwt1_189⟩
theorem lkX5_39 : jm_fl RX5 39 5 7 := ⟨RX5, TX5, 9, rfl, inGX5, by decide, gwt1_190⟩
theorem lkX5_42 : jm_fl RX5 42 5 8 := ⟨RX5, TX5, 9, rfl, inGX5, by decide, gwt1_191⟩
theorem lkX5_48 : jm_fl RX5 48 0 0 := ⟨RX0, TX0, 5, rfl, inGX0, by decide, gwt1_109⟩
theorem lkX5_9 : jm_fl RX5 9 5 0 := ⟨RX5, TX5, 9, rfl, inGX5, by decide, gwt1_177⟩
theorem lkX6_119 : jm_fl RX6 119 0 0 := ⟨RX0, TX0, 5, rfl, inGX0, by decide, gwt1_111⟩
theorem lkX6_12 : jm_fl RX6 12 6 2 := ⟨RX6, TX6, 8, rfl, inGX6, by decide, gwt1_226⟩
theorem lkX6_21 : jm_fl RX6 21 6 3 := ⟨RX6, TX6, 8, rfl, inGX6, by decide, gwt1_227⟩
theorem lkX6_25 : jm_fl RX6 25 6 4 := ⟨RX6, TX6, 8, rfl, inGX6, by decide, gwt1_228⟩
theorem lkX6_29 : jm_fl RX6 29 6 5 := ⟨RX6, TX6, 8, rfl, inGX6, by decide, gwt1_229⟩
theorem lkX6_36 : jm_fl RX6 36 6 7 := ⟨RX6, TX6, 8, rfl, inGX6, by decide, gwt1_232⟩
theorem lkX6_39 : jm_fl RX6 39 6 0 := ⟨RX6, TX6, 8, rfl, inGX6, by decide, gwt1_224⟩
theorem lkX6_42 : jm_fl RX6 42 6 1 := ⟨RX6, TX6, 8, rfl, inGX6, by decide, gwt1_225⟩
theorem lkX6_49 : jm_fl RX6 49 2 0 := ⟨RX2, TX2, 15, rfl, inGX2, by decide, gwt1_42⟩
theorem lkX6_52 : jm_fl RX6 52 2 7 := ⟨RX2, TX2, 15, rfl, inGX2, by decide, gwt1_55⟩
theorem lkX6_98 : jm_fl RX6 98 2 12 := ⟨RX2, TX2, 15, rfl, inGX2, by decide, gwt1_67⟩
theorem lkX7_10 : jm_fl RX7 10 7 0 := ⟨RX7, TX7, 6, rfl, inGX7, by decide, gwt2_34⟩
theorem lkX7_105 : jm_fl RX7 105 2 8 := ⟨RX2, TX2, 15, rfl, inGX2, by decide, gwt1_58⟩
theorem lkX7_108 : jm_fl RX7 108 2 9 := ⟨RX2, TX2, 15, rfl, inGX2, by decide, gwt1_60⟩
theorem lkX7_124 : jm_fl RX7 124 0 0 := ⟨RX0, TX0, 5, rfl, inGX0, by decide, gwt1_110⟩
theorem lkX7_129 : jm_fl RX7 129 0 1 := ⟨RX0, TX0, 5, rfl, inGX0, by decide, gwt1_114⟩
theorem lkX7_131 : jm_fl RX7 131 0 2 := ⟨RX0, TX0, 5, rfl, inGX0, by decide, gwt1_117⟩
theorem lkX7_134 : jm_fl RX7 134 0 3 := ⟨RX0, TX0, 5, rfl, inGX0, by decide, gwt1_120⟩
theorem lkX7_137 : jm_fl RX7 137 0 4 := ⟨RX0, TX0, 5, rfl, inGX0, by decide, gwt1_123⟩
theorem lkX7_144 : jm_fl RX7 144 5 0 := ⟨RX5, TX5, 9, rfl, inGX5, by decide, gwt1_178⟩
theorem lkX7_150 : jm_fl RX7 150 5 1 := ⟨RX5, TX5, 9, rfl, inGX5, by decide, gwt1_180⟩
theorem lkX7_16 : jm_fl RX7 16 7 1 := ⟨RX7, TX7, 6, rfl, inGX7, by decide, gwt2_35⟩
theorem lkX7_161 : jm_fl RX7 161 5 2 := ⟨RX5, TX5, 9, rfl, inGX5, by decide, gwt1_182⟩
theorem lkX7_162 : jm_fl RX7 162 5 3 := ⟨RX5, TX5, 9, rfl, inGX5, by decide, gwt1_184⟩
theorem lkX7_163 : jm_fl RX7 163 5 4 := ⟨RX5, TX5, 9, rfl, inGX5, by decide, gwt1_186⟩
theorem lkX7_164 : jm_fl RX7 164 5 5 := ⟨RX5, TX5, 9, rfl, inGX5, by decide, gwt1_188⟩
theorem lkX7_165 : jm_fl RX7 165 2 1 := ⟨RX2, TX2, 15, rfl, inGX2, by decide, gwt1_45⟩
theorem lkX7_168 : jm_fl RX7 168 2 2 := ⟨RX2, TX2, 15, rfl, inGX2, by decide, gwt1_47⟩
theorem lkX7_171 : jm_fl RX7 171 4 2 := ⟨RX4, TX4, 3, rfl, inGX4, by decide, gwt1_161⟩
theorem lkX7_175 : jm_fl RX7 175 1 0 := ⟨RX1, TX1, 4, rfl, inGX1, by decide, gwt1_143⟩
theorem lkX7_19 : jm_fl RX7 19 7 2 := ⟨RX7, TX7, 6, rfl, inGX7, by decide, gwt2_36⟩
theorem lkX7_196 : jm_fl RX7 196 2 3 := ⟨RX2, TX2, 15, rfl, inGX2, by decide, gwt1_49⟩
theorem lkX7_212 : jm_fl RX7 212 6 6 := ⟨RX6, TX6, 8, rfl, inGX6, by decide, gwt1_231⟩
theorem lkX7_215 : jm_fl RX7 215 6 7 := ⟨RX6, TX6, 8, rfl, inGX6, by decide, gwt1_233⟩
theorem lkX7_258 : jm_fl RX7 258 3 3 := ⟨RX3, TX3, 4, rfl, inGX3, by decide, gwt2_23⟩
theorem lkX7_26 : jm_fl RX7 26 7 4 := ⟨RX7, TX7, 6, rfl, inGX7, by decide, gwt2_38⟩
theorem lkX7_272 : jm_fl RX7 272 3 0 := ⟨RX3, TX3, 4, rfl, inGX3, by decide, gwt2_17⟩
theorem lkX7_275 : jm_fl RX7 275 3 2 := ⟨RX3, TX3, 4, rfl, inGX3, by decide, gwt2_21⟩
theorem lkX7_280 : jm_fl RX7 280 3 1 := ⟨RX3, TX3, 4, rfl, inGX3, by decide, gwt2_19⟩
theorem lkX7_32 : jm_fl RX7 32 7 5 := ⟨RX7, TX7, 6, rfl, inGX7, by decide, gwt2_39⟩
theorem lkX7_38 : jm_fl RX7 38 4 0 := ⟨RX4, TX4, 3, rfl, inGX4, by decide, gwt1_157⟩
theorem lkX7_42 : jm_fl RX7 42 4 1 := ⟨RX4, TX4, 3, rfl, inGX4, by decide, gwt1_159⟩
theorem lkX7_49 : jm_fl RX7 49 7 3 := ⟨RX7, TX7, 6, rfl, inGX7, by decide, gwt2_37⟩
theorem lkX7_58 : jm_fl RX7 58 2 0 := ⟨RX2, TX2, 15, rfl, inGX2, by decide, gwt1_43⟩
theorem lkX7_76 : jm_fl RX7 76 2 7 := ⟨RX2, TX2, 15, rfl, inGX2, by decide, gwt1_56⟩
theorem lkX7_80 : jm_fl RX7 80 2 10 := ⟨RX2, TX2, 15, rfl, inGX2, by decide, gwt1_62⟩
theorem lkX7_83 : jm_fl RX7 83 2 11 := ⟨RX2, TX2, 15, rfl, inGX2, by decide, gwt1_64⟩
theorem lkX7_97 : jm_fl RX7 97 2 12 := ⟨RX2, TX2, 15, rfl, inGX2, by decide, gwt1_66⟩
theorem lkX8_101 : jm_fl RX8 101 8 7 := ⟨RX8, TX8, 21, rfl, inGX8, by decide, gwt4_206⟩
theorem lkX8_104 : jm_fl RX8 104 8 8 := ⟨RX8, TX8, 21, rfl, inGX8, by decide, gwt4_207⟩
theorem lkX8_107 : jm_fl RX8 107 8 9 := ⟨RX8, TX8, 21, rfl, inGX8, by decide, gwt4_208⟩
theorem lkX8_118 : jm_fl RX8 118 8 10 := ⟨RX8, TX8, 21, rfl, inGX8, by decide, gwt4_209⟩
theorem lkX8_121 : jm_fl RX8 121 8 12 := ⟨RX8, TX8, 21, rfl, inGX8, by decide, gwt4_211⟩
theorem lkX8_13 : jm_fl RX8 13 8 2 := ⟨RX8, TX8, 21, rfl, inGX8, by decide, gwt4_201⟩
theorem lkX8_16 : jm_fl RX8 16 8 3 := ⟨RX8, TX8, 21, rfl, inGX8, by decide, gwt4_202⟩
theorem lkX8_165 : jm_fl RX8 165 8 16 := ⟨RX8, TX8, 21, rfl, inGX8, by decide, gwt4_215⟩
theorem lkX8_173 : jm_fl RX8 173 8 18 := ⟨RX8, TX8, 21, rfl, inGX8, by decide, gwt4_217⟩
theorem lkX8_19 : jm_fl RX8 19 8 4 := ⟨RX8, TX8, 21, rfl, inGX8, by decide, gwt4_203⟩
theorem lkX8_22 : jm_fl RX8 22 8 6 := ⟨RX8, TX8, 21, rfl, inGX8, by decide, gwt4_205⟩
theorem lkX8_230 : jm_fl RX8 230 8 5 := ⟨RX8, TX8, 21, rfl, inGX8, by decide, gwt4_204⟩
theorem lkX8_25 : jm_fl RX8 25 8 11 := ⟨RX8, TX8, 21, rfl, inGX8, by decide, gwt4_210⟩
theorem lkX8_28 : jm_fl RX8 28 8 13 := ⟨RX8, TX8, 21, rfl, inGX8, by decide, gwt4_212⟩
theorem lkX8_31 : jm_fl RX8 31 8 14 := ⟨RX8, TX8, 21, rfl, inGX8, by decide, gwt4_213⟩
theorem lkX8_34 : jm_fl RX8 34 8 15 := ⟨RX8, TX8, 21, rfl, inGX8, by decide, gwt4_214⟩
theorem lkX8_38 : jm_fl RX8 38 8 17 := ⟨RX8, TX8, 21, rfl, inGX8, by decide, gwt4_216⟩
theorem lkX8_42 : jm_fl RX8 42 8 19 := ⟨RX8, TX8, 21, rfl, inGX8, by decide, gwt4_218⟩
theorem lkX8_45 : jm_fl RX8 45 8 20 := ⟨RX8, TX8, 21, rfl, inGX8, by decide, gwt4_219⟩
theorem lkX8_7 : jm_fl RX8 7 8 1 := ⟨RX8, TX8, 21, rfl, inGX8, by decide, gwt4_200⟩
theorem lpX0_9 : jm_fp RX0 9 0 0 .int := ⟨RX0, TX0, 5, tyX0, rfl, inGX0, by decide, gwt1_108, tyX0_ok, nmX0, rfl, by decide +kernel⟩
theorem lpX1_9 : jm_fp RX1 9 1 0 .int := ⟨RX1, TX1, 4, tyX1, rfl, inGX1, by decide, gwt1_142, tyX1_ok, nmX1, rfl, by decide +kernel⟩
theorem lpX2_15 : jm_fp RX2 15 2 1 .int := ⟨RX2, TX2, 15, tyX2, rfl, inGX2, by decide, gwt1_44, tyX2_ok, nmX2, rfl, by decide +kernel⟩
theorem lpX2_18 : jm_fp RX2 18 2 2 .int := ⟨RX2, TX2, 15, tyX2, rfl, inGX2, by decide, gwt1_46, tyX2_ok, nmX2, rfl, by decide +kernel⟩
theorem lpX2_21 : jm_fp RX2 21 2 3 .int := ⟨RX2, TX2, 15, tyX2, rfl, inGX2, by decide, gwt1_48, tyX2_ok, nmX2, rfl, by decide +kernel⟩
theorem lpX2_24 : jm_fp RX2 24 2 4 .int := ⟨RX2, TX2, 15, tyX2, rfl, inGX2, by decide, gwt1_50, tyX2_ok, nmX2, rfl, by decide +kernel⟩
theorem lpX2_27 : jm_fp RX2 27 2 5 .int := ⟨RX2, TX2, 15, tyX2, rfl, inGX2, by decide, gwt1_51, tyX2_ok, nmX2, rfl, by decide +kernel⟩
theorem lpX2_30 : jm_fp RX2 30 2 6 .boolean := ⟨RX2, TX2, 15, tyX2, rfl, inGX2, by decide, gwt1_53, tyX2_ok, nmX2, rfl, by decide +kernel⟩
theorem lpX2_9 : jm_fp RX2 9 2 0 .int := ⟨RX2, TX2, 15, tyX2, rfl, inGX2, by decide, gwt1_41, tyX2_ok, nmX2, rfl, by decide +kernel⟩
theorem lpX3_15 : jm_fp RX3 15 3 1 .int := ⟨RX3, TX3, 4, tyX3, rfl, inGX3, by decide, gwt2_18, tyX3_ok, nmX3, rfl, by decide +kernel⟩
theorem lpX3_19 : jm_fp RX3 19 3 2 .int := ⟨RX3, TX3, 4, tyX3, rfl, inGX3, by decide, gwt2_20, tyX3_ok, nmX3, rfl, by decide +kernel⟩
theorem lpX3_9 : jm_fp RX3 9 3 0 .boolean := ⟨RX3, TX3, 4, tyX3, rfl, inGX3, by decide, gwt2_16, tyX3_ok, nmX3, rfl, by decide +kernel⟩
theorem lpX5_39 : jm_fp RX5 39 5 7 .int := ⟨RX5, TX5, 9, tyX5, rfl, inGX5, by decide, gwt1_190, tyX5_ok, nmX5, rfl, by decide +kernel⟩
theorem lpX5_42 : jm_fp RX5 42 5 8 .int := ⟨RX5, TX5, 9, tyX5, rfl, inGX5, by decide, gwt1_191, tyX5_ok, nmX5, rfl, by decide +kernel⟩
theorem lpX5_48 : jm_fp RX5 48 0 0 .int := ⟨RX0, TX0, 5, tyX0, rfl, inGX0, by decide, gwt1_109, tyX0_ok, nmX0, rfl, by decide +kernel⟩
theorem lpX5_9 : jm_fp RX5 9 5 0 .int := ⟨RX5, TX5, 9, tyX5, rfl, inGX5, by decide, gwt1_177, tyX5_ok, nmX5, rfl, by decide +kernel⟩
theorem lpX6_25 : jm_fp RX6 25 6 4 (.array .long) := ⟨RX6, TX6, 8, tyX6, rfl, inGX6, by decide, gwt1_228, tyX6_ok, nmX6, rfl, by decide +kernel⟩
theorem lpX6_29 : jm_fp RX6 29 6 5 .int := ⟨RX6, TX6, 8, tyX6, rfl, inGX6, by decide, gwt1_229, tyX6_ok, nmX6, rfl, by decide +kernel⟩
theorem lpX6_33 : jm_fp RX6 33 6 6 .int := ⟨RX6, TX6, 8, tyX6, rfl, inGX6, by decide, gwt1_230, tyX6_ok, nmX6, rfl, by decide +kernel⟩
theorem lpX6_36 : jm_fp RX6 36 6 7 .int := ⟨RX6, TX6, 8, tyX6, rfl, inGX6, by decide, gwt1_232, tyX6_ok, nmX6, rfl, by decide +kernel⟩
theorem lpX6_91 : jm_fp RX6 91 2 5 .int := ⟨RX2, TX2, 15, tyX2, rfl, inGX2, by decide, gwt1_52, tyX2_ok, nmX2, rfl, by decide +kernel⟩
theorem lpX7_144 : jm_fp RX7 144 5 0 .int := ⟨RX5, TX5, 9, tyX5, rfl, inGX5, by decide, gwt1_178, tyX5_ok, nmX5, rfl, by decide +kernel⟩
theorem lpX7_175 : jm_fp RX7 175 1 0 .int := ⟨RX1, TX1, 4, tyX1, rfl, inGX1, by decide, gwt1_143, tyX1_ok, nmX1, rfl, by decide +kernel⟩
theorem lpX7_19 : jm_fp RX7 19 7 2 .boolean := ⟨RX7, TX7, 6, tyX7, rfl, inGX7, by decide, gwt2_36, tyX7_ok, nmX7, rfl, by decide +kernel⟩
theorem lpX7_196 : jm_fp RX7 196 2 3 .int := ⟨RX2, TX2, 15, tyX2, rfl, inGX2, by decide, gwt1_49, tyX2_ok, nmX2, rfl, by decide +kernel⟩
theorem lpX7_272 : jm_fp RX7 272 3 0 .boolean := ⟨RX3, TX3, 4, tyX3, rfl, inGX3, by decide, gwt2_17, tyX3_ok, nmX3, rfl, by decide +kernel⟩
theorem lpX8_101 : jm_fp RX8 101 8 7 .int := ⟨RX8, TX8, 21, tyX8, rfl, inGX8, by decide, gwt4_206, tyX8_ok, nmX8, rfl, by decide +kernel⟩
theorem lpX8_104 : jm_fp RX8 104 8 8 .int := ⟨RX8, TX8, 21, tyX8, rfl, inGX8, by decide, gwt4_207, tyX8_ok, nmX8, rfl, by decide +kernel⟩
theorem lpX8_107 : jm_fp RX8 107 8 9 .int := ⟨RX8, TX8, 21, tyX8, rfl, inGX8, by decide, gwt4_208, tyX8_ok, nmX8, rfl, by decide +kernel⟩
theorem lpX8_118 : jm_fp RX8 118 8 10 .int := ⟨RX8, TX8, 21, tyX8, rfl, inGX8, by decide, gwt4_209, tyX8_ok, nmX8, rfl, by decide +kernel⟩
theorem lpX8_121 : jm_fp RX8 121 8 12 .int := ⟨RX8, TX8, 21, tyX8, rfl, inGX8, by decide, gwt4_211, tyX8_ok, nmX8, rfl, by decide +kernel⟩
theorem lpX8_165 : jm_fp RX8 165 8 16 .boolean := ⟨RX8, TX8, 21, tyX8, rfl, inGX8, by decide, gwt4_215, tyX8_ok, nmX8, rfl, by decide +kernel⟩
theorem lpX8_173 : jm_fp RX8 173 8 18 .int := ⟨RX8, TX8, 21, tyX8, rfl, inGX8, by decide, gwt4_217, tyX8_ok, nmX8, rfl, by decide +kernel⟩
theorem lpX8_230 : jm_fp RX8 230 8 5 .boolean := ⟨RX8, TX8, 21, tyX8, rfl, inGX8, by decide, gwt4_204, tyX8_ok, nmX8, rfl, by decide +kernel⟩
theorem lpX8_38 : jm_fp RX8 38 8 17 .int := ⟨RX8, TX8, 21, tyX8, rfl, inGX8, by decide, gwt4_216, tyX8_ok, nmX8, rfl, by decide +kernel⟩
theorem lpX8_48 : jm_fp RX8 48 8 0 .int := ⟨RX8, TX8, 21, tyX8, rfl, inGX8, by decide, gwt4_199, tyX8_ok, nmX8, rfl, by decide +kernel⟩
theorem qcX2_61 : jm_cp RX2 61 := ⟨gwt3_204, gwt3_206, gwt3_205, gwt1_18⟩
theorem qcX7_286 : jm_cp RX7 286 := ⟨gwt4_192, gwt3_206, gwt3_205, gwt1_18⟩
theorem qmJ1_38 : jm_mmin RJ1 38 := ⟨gwt2_223, gwt2_224, gwt1_13, gwt2_225⟩
theorem qmJ1_92 : jm_mmax RJ1 92 := ⟨gwt2_220, gwt2_221, gwt1_13, gwt2_222⟩
theorem qmX2_115 : jm_mmin RX2 115 := ⟨gwt3_166, gwt2_224, gwt1_13, gwt2_225⟩
theorem qmX5_109 : jm_mmin RX5 109 := ⟨gwt3_93, gwt2_224, gwt1_13, gwt2_225⟩
