theorem inX0 : GoodIn lw_tbl (u_ws RX0 TX0 4) := goodIn_r _ [209, 211, 213, 215] (by decide +kernel) (by decide +kernel)
theorem inX1 : GoodIn lw_tbl (u_ws RX1 TX1 8) := goodIn_r _ [171, 173, 175, 177, 179, 181, 183, 185] (by decide +kernel) (by decide +kernel)
theorem inX2 : GoodIn lw_tbl (u_ws RX2 TX2 4) := goodIn_r _ [103, 105, 107, 109] (by decide +kernel) (by decide +kernel)
theorem inX3 : GoodIn lw_tbl (u_ws RX3 TX3 3) := goodIn_r _ [72, 74, 76] (by decide +kernel) (by decide +kernel)
theorem inX4 : GoodIn lw_tbl (u_ws RX4 TX4 5) := goodIn_r _ [132, 134, 136, 138, 140] (by decide +kernel) (by decide +kernel)
theorem inX5 : GoodIn lw_tbl (u_ws RX5 TX5 4) := goodIn_r _ [847, 849, 851, 853] (by decide +kernel) (by decide +kernel)
theorem inX6 : GoodIn lw_tbl (u_ws RX6 TX6 7) := goodIn_r _ [822, 824, 826, 828, 830, 832, 834] (by decide +kernel) (by decide +kernel)
theorem inX7 : GoodIn lw_tbl (u_ws RX7 TX7 7) := goodIn_r _ [238, 240, 242, 244, 246, 248, 250] (by decide +kernel) (by decide +kernel)
theorem inX8 : GoodIn lw_tbl (u_ws RX8 TX8 14) := goodIn_r _ [269, 271, 273, 275, 277, 279, 281, 283, 285, 287, 289, 291, 293, 295] (by decide +kernel) (by decide +kernel)
theorem inX9 : GoodIn lw_tbl (u_ws RX9 TX9 4) := goodIn_r _ [644, 646, 648, 650] (by decide +kernel) (by decide +kernel)
theorem inX20 : GoodIn lw_tbl (u_ws RX10 TX10 2) := goodIn_r _ [318, 320] (by decide +kernel) (by decide +kernel)
theorem inX21 : GoodIn lw_tbl (u_ws RX11 TX11 6) := goodIn_r _ [593, 595, 597, 599, 601, 603] (by decide +kernel) (by decide +kernel)
theorem inX22 : GoodIn lw_tbl (u_ws RX12 TX12 8) := goodIn_r _ [671, 673, 675, 677, 679, 681, 683, 685] (by decide +kernel) (by decide +kernel)
theorem inX23 : GoodIn lw_tbl (u_ws RJ4 TJ4 4) := goodIn_r _ [484, 486, 488, 490] (by decide +kernel) (by decide +kernel)
theorem inX24 : GoodIn lw_tbl (u_ws RJ0 TJ0 4) := goodIn_r _ [1753, 1755, 1757, 1759] (by decide +kernel) (by decide +kernel)
theorem fkX8_9 : xIn (.fieldLink RX8 9 "CrossedModules" "buffer" "[B") := ⟨List.mem_of_getElem? (i := 255) (by decide +kernel), rfl⟩
theorem fkX8_13 : xIn (.fieldLink RX8 13 "CrossedModules" "lastErrorAt" "I") := ⟨List.mem_of_getElem? (i := 258) (by decide +kernel), rfl⟩
theorem fkX8_20 : xIn (.fieldLink RX8 20 "CrossedModules" "world" "LCrossedModules$World;") := ⟨List.mem_of_getElem? (i := 260) (by decide +kernel), rfl⟩
theorem fkX8_24 : xIn (.fieldLink RX8 24 "CrossedModules" "spare" "LCrossedModules$World;") := ⟨List.mem_of_getElem? (i := 261) (by decide +kernel), rfl⟩
theorem fkX8_29 : xIn (.fieldLink RX8 29 "CrossedModules" "undoStates" "[[I") := ⟨List.mem_of_getElem? (i := 262) (by decide +kernel), rfl⟩
theorem fkX8_32 : xIn (.fieldLink RX8 32 "CrossedModules" "slotStates" "[[I") := ⟨List.mem_of_getElem? (i := 265) (by decide +kernel), rfl⟩
theorem fkX8_35 : xIn (.fieldLink RX8 35 "CrossedModules" "text" "[B") := ⟨List.mem_of_getElem? (i := 267) (by decide +kernel), rfl⟩
theorem fkX8_38 : xIn (.fieldLink RX8 38 "CrossedModules" "filled" "I") := ⟨List.mem_of_getElem? (i := 256) (by decide +kernel), rfl⟩
theorem fkX8_66 : xIn (.fieldLink RX8 66 "CrossedModules$Parser" "error" "I") := ⟨List.mem_of_getElem? (i := 844) (by decide +kernel), rfl⟩
theorem fkX8_69 : xIn (.fieldLink RX8 69 "CrossedModules" "lastError" "I") := ⟨List.mem_of_getElem? (i := 257) (by decide +kernel), rfl⟩
theorem fkX8_72 : xIn (.fieldLink RX8 72 "CrossedModules$Parser" "errorAt" "I") := ⟨List.mem_of_getElem? (i := 846) (by decide +kernel), rfl⟩
theorem fkX8_81 : xIn (.fieldLink RX8 81 "CrossedModules" "loaded" "Z") := ⟨List.mem_of_getElem? (i := 259) (by decide +kernel), rfl⟩
theorem fkX8_88 : xIn (.fieldLink RX8 88 "CrossedModules" "savedSlots" "I") := ⟨List.mem_of_getElem? (i := 266) (by decide +kernel), rfl⟩
theorem fkX8_91 : xIn (.fieldLink RX8 91 "CrossedModules$World" "moduleNames" "LCrossedModules$Names;") := ⟨List.mem_of_getElem? (i := 222) (by decide +kernel), rfl⟩
theorem fkX8_95 : xIn (.fieldLink RX8 95 "CrossedModules$Names" "total" "I") := ⟨List.mem_of_getElem? (i := 70) (by decide +kernel), rfl⟩
theorem fkX8_123 : xIn (.fieldLink RX8 123 "CrossedModules$Group" "elements" "I") := ⟨List.mem_of_getElem? (i := 101) (by decide +kernel), rfl⟩
theorem fkX8_158 : xIn (.fieldLink RX8 158 "CrossedModules$Crossed" "lower" "LCrossedModules$Group;") := ⟨List.mem_of_getElem? (i := 155) (by decide +kernel), rfl⟩
theorem fkX8_164 : xIn (.fieldLink RX8 164 "CrossedModules$Group" "number" "I") := ⟨List.mem_of_getElem? (i := 94) (by decide +kernel), rfl⟩
theorem fkX8_167 : xIn (.fieldLink RX8 167 "CrossedModules$Crossed" "upper" "LCrossedModules$Group;") := ⟨List.mem_of_getElem? (i := 150) (by decide +kernel), rfl⟩
theorem fkX8_176 : xIn (.fieldLink RX8 176 "CrossedModules$Crossed" "reason" "I") := ⟨List.mem_of_getElem? (i := 170) (by decide +kernel), rfl⟩
theorem fkX8_201 : xIn (.fieldLink RX8 201 "CrossedModules$Pair" "classCount" "I") := ⟨List.mem_of_getElem? (i := 131) (by decide +kernel), rfl⟩
theorem fkX8_216 : xIn (.fieldLink RX8 216 "CrossedModules$Pair" "classOrders" "[I") := ⟨List.mem_of_getElem? (i := 128) (by decide +kernel), rfl⟩
theorem fkX8_220 : xIn (.fieldLink RX8 220 "CrossedModules$Pair" "kernelOrders" "[I") := ⟨List.mem_of_getElem? (i := 126) (by decide +kernel), rfl⟩
theorem fkX8_231 : xIn (.fieldLink RX8 231 "CrossedModules$World" "modules" "[LCrossedModules$Crossed;") := ⟨List.mem_of_getElem? (i := 232) (by decide +kernel), rfl⟩
theorem fkX8_264 : xIn (.fieldLink RX8 264 "CrossedModules$Arrow" "to" "LCrossedModules$Crossed;") := ⟨List.mem_of_getElem? (i := 200) (by decide +kernel), rfl⟩
theorem fkX8_270 : xIn (.fieldLink RX8 270 "CrossedModules$Crossed" "number" "I") := ⟨List.mem_of_getElem? (i := 145) (by decide +kernel), rfl⟩
theorem fkX8_271 : xIn (.fieldLink RX8 271 "CrossedModules$Arrow" "from" "LCrossedModules$Crossed;") := ⟨List.mem_of_getElem? (i := 196) (by decide +kernel), rfl⟩
theorem fkX8_296 : xIn (.fieldLink RX8 296 "CrossedModules$World" "accounts" "[I") := ⟨List.mem_of_getElem? (i := 237) (by decide +kernel), rfl⟩
theorem fkX8_299 : xIn (.fieldLink RX8 299 "CrossedModules" "textLength" "I") := ⟨List.mem_of_getElem? (i := 268) (by decide +kernel), rfl⟩
theorem fkX8_308 : xIn (.fieldLink RX8 308 "CrossedModules$Crossed" "boundaries" "[I") := ⟨List.mem_of_getElem? (i := 159) (by decide +kernel), rfl⟩
theorem fkX8_319 : xIn (.fieldLink RX8 319 "CrossedModules$Crossed" "actions" "[I") := ⟨List.mem_of_getElem? (i := 163) (by decide +kernel), rfl⟩
theorem fkX8_328 : xIn (.fieldLink RX8 328 "CrossedModules$Arrow" "tops" "[I") := ⟨List.mem_of_getElem? (i := 204) (by decide +kernel), rfl⟩
theorem fkX8_331 : xIn (.fieldLink RX8 331 "CrossedModules$Arrow" "bottoms" "[I") := ⟨List.mem_of_getElem? (i := 208) (by decide +kernel), rfl⟩
theorem fkX8_334 : xIn (.fieldLink RX8 334 "CrossedModules" "undoCount" "I") := ⟨List.mem_of_getElem? (i := 264) (by decide +kernel), rfl⟩
theorem fkX8_377 : xIn (.fieldLink RX8 377 "CrossedModules$World" "groupNames" "LCrossedModules$Names;") := ⟨List.mem_of_getElem? (i := 220) (by decide +kernel), rfl⟩
theorem fkX8_380 : xIn (.fieldLink RX8 380 "CrossedModules$World" "groups" "[LCrossedModules$Group;") := ⟨List.mem_of_getElem? (i := 229) (by decide +kernel), rfl⟩
theorem fkX8_384 : xIn (.fieldLink RX8 384 "CrossedModules$World" "arrowNames" "LCrossedModules$Names;") := ⟨List.mem_of_getElem? (i := 226) (by decide +kernel), rfl⟩
theorem fkX8_387 : xIn (.fieldLink RX8 387 "CrossedModules$World" "arrows" "[LCrossedModules$Arrow;") := ⟨List.mem_of_getElem? (i := 235) (by decide +kernel), rfl⟩
theorem fkX8_391 : xIn (.fieldLink RX8 391 "CrossedModules" "firstUndo" "I") := ⟨List.mem_of_getElem? (i := 263) (by decide +kernel), rfl⟩
theorem fkX0_9 : xIn (.fieldLink RX0 9 "CrossedModules$Arrow" "tops" "[I") := ⟨List.mem_of_getElem? (i := 201) (by decide +kernel), rfl⟩
theorem fkX0_15 : xIn (.fieldLink RX0 15 "CrossedModules$Arrow" "bottoms" "[I") := ⟨List.mem_of_getElem? (i := 205) (by decide +kernel), rfl⟩
theorem fkX0_18 : xIn (.fieldLink RX0 18 "CrossedModules$Arrow" "from" "LCrossedModules$Crossed;") := ⟨List.mem_of_getElem? (i := 193) (by decide +kernel), rfl⟩
theorem fkX0_22 : xIn (.fieldLink RX0 22 "CrossedModules$Arrow" "to" "LCrossedModules$Crossed;") := ⟨List.mem_of_getElem? (i := 197) (by decide +kernel), rfl⟩
theorem fkX0_29 : xIn (.fieldLink RX0 29 "CrossedModules$Crossed" "reason" "I") := ⟨List.mem_of_getElem? (i := 168) (by decide +kernel), rfl⟩
theorem fkX0_35 : xIn (.fieldLink RX0 35 "CrossedModules$Crossed" "upper" "LCrossedModules$Group;") := ⟨List.mem_of_getElem? (i := 147) (by decide +kernel), rfl⟩
theorem fkX0_43 : xIn (.fieldLink RX0 43 "CrossedModules$Crossed" "lower" "LCrossedModules$Group;") := ⟨List.mem_of_getElem? (i := 152) (by decide +kernel), rfl⟩
theorem fkX0_53 : xIn (.fieldLink RX0 53 "CrossedModules$Group" "elements" "I") := ⟨List.mem_of_getElem? (i := 98) (by decide +kernel), rfl⟩
theorem fkX0_98 : xIn (.fieldLink RX0 98 "CrossedModules$Crossed" "pair" "LCrossedModules$Pair;") := ⟨List.mem_of_getElem? (i := 165) (by decide +kernel), rfl⟩
theorem fkX0_111 : xIn (.fieldLink RX0 111 "CrossedModules$Pair" "classCount" "I") := ⟨List.mem_of_getElem? (i := 130) (by decide +kernel), rfl⟩
theorem fkX1_9 : xIn (.fieldLink RX1 9 "CrossedModules$Crossed" "boundaries" "[I") := ⟨List.mem_of_getElem? (i := 156) (by decide +kernel), rfl⟩
theorem fkX1_15 : xIn (.fieldLink RX1 15 "CrossedModules$Crossed" "actions" "[I") := ⟨List.mem_of_getElem? (i := 160) (by decide +kernel), rfl⟩
theorem fkX1_21 : xIn (.fieldLink RX1 21 "CrossedModules$Crossed" "pair" "LCrossedModules$Pair;") := ⟨List.mem_of_getElem? (i := 164) (by decide +kernel), rfl⟩
theorem fkX1_25 : xIn (.fieldLink RX1 25 "CrossedModules$Crossed" "number" "I") := ⟨List.mem_of_getElem? (i := 143) (by decide +kernel), rfl⟩
theorem fkX1_29 : xIn (.fieldLink RX1 29 "CrossedModules$Crossed" "upper" "LCrossedModules$Group;") := ⟨List.mem_of_getElem? (i := 146) (by decide +kernel), rfl⟩
theorem fkX1_33 : xIn (.fieldLink RX1 33 "CrossedModules$Crossed" "lower" "LCrossedModules$Group;") := ⟨List.mem_of_getElem? (i := 151) (by decide +kernel), rfl⟩
theorem fkX1_36 : xIn (.fieldLink RX1 36 "CrossedModules$Crossed" "told" "I") := ⟨List.mem_of_getElem? (i := 166) (by decide +kernel), rfl⟩
theorem fkX1_56 : xIn (.fieldLink RX1 56 "CrossedModules$Group" "elements" "I") := ⟨List.mem_of_getElem? (i := 99) (by decide +kernel), rfl⟩
theorem fkX2_9 : xIn (.fieldLink RX2 9 "CrossedModules$Group" "table" "[I") := ⟨List.mem_of_getElem? (i := 95) (by decide +kernel), rfl⟩
theorem fkX2_15 : xIn (.fieldLink RX2 15 "CrossedModules$Group" "opposites" "[I") := ⟨List.mem_of_getElem? (i := 96) (by decide +kernel), rfl⟩
theorem fkX2_18 : xIn (.fieldLink RX2 18 "CrossedModules$Group" "elements" "I") := ⟨List.mem_of_getElem? (i := 97) (by decide +kernel), rfl⟩
theorem fkX2_22 : xIn (.fieldLink RX2 22 "CrossedModules$Group" "number" "I") := ⟨List.mem_of_getElem? (i := 93) (by decide +kernel), rfl⟩
theorem fkX3_9 : xIn (.fieldLink RX3 9 "CrossedModules$Names" "words" "[J") := ⟨List.mem_of_getElem? (i := 66) (by decide +kernel), rfl⟩
theorem fkX3_15 : xIn (.fieldLink RX3 15 "CrossedModules$Names" "lengths" "[I") := ⟨List.mem_of_getElem? (i := 67) (by decide +kernel), rfl⟩
theorem fkX3_19 : xIn (.fieldLink RX3 19 "CrossedModules$Names" "total" "I") := ⟨List.mem_of_getElem? (i := 68) (by decide +kernel), rfl⟩
theorem fkX4_9 : xIn (.fieldLink RX4 9 "CrossedModules$Pair" "numbers" "[I") := ⟨List.mem_of_getElem? (i := 123) (by decide +kernel), rfl⟩
theorem fkX4_15 : xIn (.fieldLink RX4 15 "CrossedModules$Pair" "leasts" "[I") := ⟨List.mem_of_getElem? (i := 124) (by decide +kernel), rfl⟩
theorem fkX4_18 : xIn (.fieldLink RX4 18 "CrossedModules$Pair" "kernelOrders" "[I") := ⟨List.mem_of_getElem? (i := 125) (by decide +kernel), rfl⟩
theorem fkX4_21 : xIn (.fieldLink RX4 21 "CrossedModules$Pair" "classOrders" "[I") := ⟨List.mem_of_getElem? (i := 127) (by decide +kernel), rfl⟩
theorem fkX4_24 : xIn (.fieldLink RX4 24 "CrossedModules$Pair" "classCount" "I") := ⟨List.mem_of_getElem? (i := 129) (by decide +kernel), rfl⟩
theorem fkX4_47 : xIn (.fieldLink RX4 47 "CrossedModules$Crossed" "lower" "LCrossedModules$Group;") := ⟨List.mem_of_getElem? (i := 153) (by decide +kernel), rfl⟩
theorem fkX4_53 : xIn (.fieldLink RX4 53 "CrossedModules$Group" "elements" "I") := ⟨List.mem_of_getElem? (i := 100) (by decide +kernel), rfl⟩
theorem fkX4_64 : xIn (.fieldLink RX4 64 "CrossedModules$Crossed" "upper" "LCrossedModules$Group;") := ⟨List.mem_of_getElem? (i := 148) (by decide +kernel), rfl⟩
theorem fkX5_9 : xIn (.fieldLink RX5 9 "CrossedModules$Parser" "errorAt" "I") := ⟨List.mem_of_getElem? (i := 845) (by decide +kernel), rfl⟩
theorem fkX5_15 : xIn (.fieldLink RX5 15 "CrossedModules$Parser" "tokens" "LCrossedModules$Tokens;") := ⟨List.mem_of_getElem? (i := 841) (by decide +kernel), rfl⟩
theorem fkX5_19 : xIn (.fieldLink RX5 19 "CrossedModules$Parser" "world" "LCrossedModules$World;") := ⟨List.mem_of_getElem? (i := 842) (by decide +kernel), rfl⟩
theorem fkX5_23 : xIn (.fieldLink RX5 23 "CrossedModules$Parser" "error" "I") := ⟨List.mem_of_getElem? (i := 843) (by decide +kernel), rfl⟩
theorem fkX5_26 : xIn (.fieldLink RX5 26 "CrossedModules$Tokens" "start" "I") := ⟨List.mem_of_getElem? (i := 812) (by decide +kernel), rfl⟩
theorem fkX5_44 : xIn (.fieldLink RX5 44 "CrossedModules$Tokens" "kind" "I") := ⟨List.mem_of_getElem? (i := 816) (by decide +kernel), rfl⟩
theorem fkX5_71 : xIn (.fieldLink RX5 71 "CrossedModules$World" "groupNames" "LCrossedModules$Names;") := ⟨List.mem_of_getElem? (i := 219) (by decide +kernel), rfl⟩
theorem fkX5_81 : xIn (.fieldLink RX5 81 "CrossedModules$World" "groups" "[LCrossedModules$Group;") := ⟨List.mem_of_getElem? (i := 228) (by decide +kernel), rfl⟩
theorem fkX5_85 : xIn (.fieldLink RX5 85 "CrossedModules$Names" "total" "I") := ⟨List.mem_of_getElem? (i := 71) (by decide +kernel), rfl⟩
theorem fkX5_115 : xIn (.fieldLink RX5 115 "CrossedModules$Tokens" "value" "I") := ⟨List.mem_of_getElem? (i := 821) (by decide +kernel), rfl⟩
theorem fkX5_137 : xIn (.fieldLink RX5 137 "CrossedModules$Group" "elements" "I") := ⟨List.mem_of_getElem? (i := 102) (by decide +kernel), rfl⟩
theorem fkX5_144 : xIn (.fieldLink RX5 144 "CrossedModules$World" "moduleNames" "LCrossedModules$Names;") := ⟨List.mem_of_getElem? (i := 223) (by decide +kernel), rfl⟩
theorem fkX5_147 : xIn (.fieldLink RX5 147 "CrossedModules$World" "modules" "[LCrossedModules$Crossed;") := ⟨List.mem_of_getElem? (i := 231) (by decide +kernel), rfl⟩
theorem fkX5_155 : xIn (.fieldLink RX5 155 "CrossedModules$Crossed" "boundaries" "[I") := ⟨List.mem_of_getElem? (i := 157) (by decide +kernel), rfl⟩
theorem fkX5_167 : xIn (.fieldLink RX5 167 "CrossedModules$Crossed" "lower" "LCrossedModules$Group;") := ⟨List.mem_of_getElem? (i := 154) (by decide +kernel), rfl⟩
theorem fkX5_171 : xIn (.fieldLink RX5 171 "CrossedModules$Crossed" "told" "I") := ⟨List.mem_of_getElem? (i := 167) (by decide +kernel), rfl⟩
theorem fkX5_177 : xIn (.fieldLink RX5 177 "CrossedModules$Crossed" "actions" "[I") := ⟨List.mem_of_getElem? (i := 161) (by decide +kernel), rfl⟩
theorem fkX5_180 : xIn (.fieldLink RX5 180 "CrossedModules$Crossed" "upper" "LCrossedModules$Group;") := ⟨List.mem_of_getElem? (i := 149) (by decide +kernel), rfl⟩
theorem fkX5_183 : xIn (.fieldLink RX5 183 "CrossedModules$World" "arrowNames" "LCrossedModules$Names;") := ⟨List.mem_of_getElem? (i := 225) (by decide +kernel), rfl⟩
theorem fkX5_186 : xIn (.fieldLink RX5 186 "CrossedModules$World" "arrows" "[LCrossedModules$Arrow;") := ⟨List.mem_of_getElem? (i := 234) (by decide +kernel), rfl⟩
theorem fkX5_190 : xIn (.fieldLink RX5 190 "CrossedModules$Arrow" "from" "LCrossedModules$Crossed;") := ⟨List.mem_of_getElem? (i := 195) (by decide +kernel), rfl⟩
theorem fkX5_196 : xIn (.fieldLink RX5 196 "CrossedModules$Arrow" "to" "LCrossedModules$Crossed;") := ⟨List.mem_of_getElem? (i := 199) (by decide +kernel), rfl⟩
theorem fkX5_199 : xIn (.fieldLink RX5 199 "CrossedModules$Arrow" "tops" "[I") := ⟨List.mem_of_getElem? (i := 202) (by decide +kernel), rfl⟩
theorem fkX5_202 : xIn (.fieldLink RX5 202 "CrossedModules$Arrow" "bottoms" "[I") := ⟨List.mem_of_getElem? (i := 206) (by decide +kernel), rfl⟩
theorem fkX5_208 : xIn (.fieldLink RX5 208 "CrossedModules$Tokens" "word" "J") := ⟨List.mem_of_getElem? (i := 819) (by decide +kernel), rfl⟩
theorem fkX5_216 : xIn (.fieldLink RX5 216 "CrossedModules$Tokens" "stop" "I") := ⟨List.mem_of_getElem? (i := 815) (by decide +kernel), rfl⟩
theorem fkX6_9 : xIn (.fieldLink RX6 9 "CrossedModules$Tokens" "bytes" "[B") := ⟨List.mem_of_getElem? (i := 810) (by decide +kernel), rfl⟩
theorem fkX6_15 : xIn (.fieldLink RX6 15 "CrossedModules$Tokens" "length" "I") := ⟨List.mem_of_getElem? (i := 811) (by decide +kernel), rfl⟩
theorem fkX6_19 : xIn (.fieldLink RX6 19 "CrossedModules$Tokens" "stop" "I") := ⟨List.mem_of_getElem? (i := 814) (by decide +kernel), rfl⟩
theorem fkX6_26 : xIn (.fieldLink RX6 26 "CrossedModules$Tokens" "start" "I") := ⟨List.mem_of_getElem? (i := 813) (by decide +kernel), rfl⟩
theorem fkX6_33 : xIn (.fieldLink RX6 33 "CrossedModules$Tokens" "kind" "I") := ⟨List.mem_of_getElem? (i := 817) (by decide +kernel), rfl⟩
theorem fkX6_44 : xIn (.fieldLink RX6 44 "CrossedModules$Tokens" "word" "J") := ⟨List.mem_of_getElem? (i := 818) (by decide +kernel), rfl⟩
theorem fkX6_52 : xIn (.fieldLink RX6 52 "CrossedModules$Tokens" "value" "I") := ⟨List.mem_of_getElem? (i := 820) (by decide +kernel), rfl⟩
theorem fkX7_14 : xIn (.fieldLink RX7 14 "CrossedModules$World" "groupNames" "LCrossedModules$Names;") := ⟨List.mem_of_getElem? (i := 218) (by decide +kernel), rfl⟩
theorem fkX7_20 : xIn (.fieldLink RX7 20 "CrossedModules$World" "moduleNames" "LCrossedModules$Names;") := ⟨List.mem_of_getElem? (i := 221) (by decide +kernel), rfl⟩
theorem fkX7_23 : xIn (.fieldLink RX7 23 "CrossedModules$World" "arrowNames" "LCrossedModules$Names;") := ⟨List.mem_of_getElem? (i := 224) (by decide +kernel), rfl⟩
theorem fkX7_28 : xIn (.fieldLink RX7 28 "CrossedModules$World" "groups" "[LCrossedModules$Group;") := ⟨List.mem_of_getElem? (i := 227) (by decide +kernel), rfl⟩
theorem fkX7_34 : xIn (.fieldLink RX7 34 "CrossedModules$World" "modules" "[LCrossedModules$Crossed;") := ⟨List.mem_of_getElem? (i := 230) (by decide +kernel), rfl⟩
theorem fkX7_40 : xIn (.fieldLink RX7 40 "CrossedModules$World" "arrows" "[LCrossedModules$Arrow;") := ⟨List.mem_of_getElem? (i := 233) (by decide +kernel), rfl⟩
theorem fkX7_44 : xIn (.fieldLink RX7 44 "CrossedModules$World" "accounts" "[I") := ⟨List.mem_of_getElem? (i := 236) (by decide +kernel), rfl⟩
theorem fkX7_55 : xIn (.fieldLink RX7 55 "CrossedModules$Names" "total" "I") := ⟨List.mem_of_getElem? (i := 69) (by decide +kernel), rfl⟩
theorem fkX7_72 : xIn (.fieldLink RX7 72 "CrossedModules$Crossed" "reason" "I") := ⟨List.mem_of_getElem? (i := 169) (by decide +kernel), rfl⟩
theorem fkX7_90 : xIn (.fieldLink RX7 90 "CrossedModules$Crossed" "number" "I") := ⟨List.mem_of_getElem? (i := 144) (by decide +kernel), rfl⟩
theorem fkX7_103 : xIn (.fieldLink RX7 103 "CrossedModules$Arrow" "from" "LCrossedModules$Crossed;") := ⟨List.mem_of_getElem? (i := 194) (by decide +kernel), rfl⟩
theorem fkX7_107 : xIn (.fieldLink RX7 107 "CrossedModules$Arrow" "to" "LCrossedModules$Crossed;") := ⟨List.mem_of_getElem? (i := 198) (by decide +kernel), rfl⟩
theorem fkX7_118 : xIn (.fieldLink RX7 118 "CrossedModules$Crossed" "boundaries" "[I") := ⟨List.mem_of_getElem? (i := 158) (by decide +kernel), rfl⟩
theorem fkX7_127 : xIn (.fieldLink RX7 127 "CrossedModules$Crossed" "actions" "[I") := ⟨List.mem_of_getElem? (i := 162) (by decide +kernel), rfl⟩
theorem fkX7_130 : xIn (.fieldLink RX7 130 "CrossedModules$Arrow" "tops" "[I") := ⟨List.mem_of_getElem? (i := 203) (by decide +kernel), rfl⟩
theorem fkX7_133 : xIn (.fieldLink RX7 133 "CrossedModules$Arrow" "bottoms" "[I") := ⟨List.mem_of_getElem? (i := 207) (by decide +kernel), rfl⟩
theorem fkX9_7 : xIn (.fieldLink RX9 7 "CrossedModulesLaw$Arrow" "from" "I") := ⟨List.mem_of_getElem? (i := 635) (by decide +kernel), rfl⟩
theorem fkX9_13 : xIn (.fieldLink RX9 13 "CrossedModulesLaw$Arrow" "to" "I") := ⟨List.mem_of_getElem? (i := 636) (by decide +kernel), rfl⟩
theorem fkX9_16 : xIn (.fieldLink RX9 16 "CrossedModulesLaw$Arrow" "top" "[I") := ⟨List.mem_of_getElem? (i := 638) (by decide +kernel), rfl⟩
theorem fkX9_20 : xIn (.fieldLink RX9 20 "CrossedModulesLaw$Arrow" "bottom" "[I") := ⟨List.mem_of_getElem? (i := 641) (by decide +kernel), rfl⟩
theorem fkX10_7 : xIn (.fieldLink RX10 7 "CrossedModulesLaw$Draws" "cells" "[I") := ⟨List.mem_of_getElem? (i := 316) (by decide +kernel), rfl⟩
theorem fkX10_13 : xIn (.fieldLink RX10 13 "CrossedModulesLaw$Draws" "at" "I") := ⟨List.mem_of_getElem? (i := 317) (by decide +kernel), rfl⟩
theorem fkX11_7 : xIn (.fieldLink RX11 7 "CrossedModulesLaw$Module" "high" "I") := ⟨List.mem_of_getElem? (i := 580) (by decide +kernel), rfl⟩
theorem fkX11_13 : xIn (.fieldLink RX11 13 "CrossedModulesLaw$Module" "low" "I") := ⟨List.mem_of_getElem? (i := 582) (by decide +kernel), rfl⟩
theorem fkX11_16 : xIn (.fieldLink RX11 16 "CrossedModulesLaw$Module" "up" "[[I") := ⟨List.mem_of_getElem? (i := 584) (by decide +kernel), rfl⟩
theorem fkX11_20 : xIn (.fieldLink RX11 20 "CrossedModulesLaw$Module" "down" "[[I") := ⟨List.mem_of_getElem? (i := 585) (by decide +kernel), rfl⟩
theorem fkX11_23 : xIn (.fieldLink RX11 23 "CrossedModulesLaw$Module" "boundary" "[I") := ⟨List.mem_of_getElem? (i := 590) (by decide +kernel), rfl⟩
theorem fkX11_28 : xIn (.fieldLink RX11 28 "CrossedModulesLaw$Module" "on" "[[I") := ⟨List.mem_of_getElem? (i := 587) (by decide +kernel), rfl⟩
theorem fkX12_14 : xIn (.fieldLink RX12 14 "CrossedModulesLaw$World" "text" "Ljava/lang/StringBuilder;") := ⟨List.mem_of_getElem? (i := 655) (by decide +kernel), rfl⟩
theorem fkX12_22 : xIn (.fieldLink RX12 22 "CrossedModulesLaw$World" "groups" "[[[I") := ⟨List.mem_of_getElem? (i := 657) (by decide +kernel), rfl⟩
theorem fkX12_28 : xIn (.fieldLink RX12 28 "CrossedModulesLaw$World" "modules" "[LCrossedModulesLaw$Module;") := ⟨List.mem_of_getElem? (i := 659) (by decide +kernel), rfl⟩
theorem fkX12_34 : xIn (.fieldLink RX12 34 "CrossedModulesLaw$World" "arrows" "[LCrossedModulesLaw$Arrow;") := ⟨List.mem_of_getElem? (i := 661) (by decide +kernel), rfl⟩
theorem fkX12_38 : xIn (.fieldLink RX12 38 "CrossedModulesLaw$World" "accounts" "[I") := ⟨List.mem_of_getElem? (i := 663) (by decide +kernel), rfl⟩
theorem fkX12_64 : xIn (.fieldLink RX12 64 "CrossedModulesLaw$World" "many" "I") := ⟨List.mem_of_getElem? (i := 665) (by decide +kernel), rfl⟩
theorem fkX12_104 : xIn (.fieldLink RX12 104 "CrossedModulesLaw$World" "wide" "I") := ⟨List.mem_of_getElem? (i := 667) (by decide +kernel), rfl⟩
theorem fkX12_133 : xIn (.fieldLink RX12 133 "CrossedModulesLaw$World" "far" "I") := ⟨List.mem_of_getElem? (i := 669) (by decide +kernel), rfl⟩
theorem fkJ5_15 : xIn (.fieldLink RJ5 15 "java/lang/AbstractStringBuilder" "value" "[B") := ⟨List.mem_of_getElem? (i := 480) (by decide +kernel), rfl⟩
theorem fkJ5_18 : xIn (.fieldLink RJ5 18 "java/lang/String" "COMPACT_STRINGS" "Z") := ⟨List.mem_of_getElem? (i := 420) (by decide +kernel), rfl⟩
theorem fkJ5_22 : xIn (.fieldLink RJ5 22 "java/lang/AbstractStringBuilder" "coder" "B") := ⟨List.mem_of_getElem? (i := 481) (by decide +kernel), rfl⟩
theorem fkJ5_79 : xIn (.fieldLink RJ5 79 "java/lang/AbstractStringBuilder" "count" "I") := ⟨List.mem_of_getElem? (i := 483) (by decide +kernel), rfl⟩
theorem fkJ0_9 : xIn (.fieldLink RJ0 9 "java/lang/String" "value" "[B") := ⟨List.mem_of_getElem? (i := 1751) (by decide +kernel), rfl⟩
theorem fkJ0_15 : xIn (.fieldLink RJ0 15 "java/lang/String" "coder" "B") := ⟨List.mem_of_getElem? (i := 1752) (by decide +kernel), rfl⟩
theorem fkJ0_38 : xIn (.fieldLink RJ0 38 "java/lang/String" "COMPACT_STRINGS" "Z") := ⟨List.mem_of_getElem? (i := 352) (by decide +kernel), rfl⟩
theorem fkJ0_1048 : xIn (.fieldLink RJ0 1048 "java/lang/AbstractStringBuilder" "maybeLatin1" "Z") := ⟨List.mem_of_getElem? (i := 482) (by decide +kernel), rfl⟩
theorem mkX8_19 : xIn (.methodLink RX8 19 yX7_init) := ⟨List.mem_of_getElem? (i := 56) (by decide +kernel), rfl⟩
theorem mkX8_41 : xIn (.methodLink RX8 41 yX8_appendWord) := ⟨List.mem_of_getElem? (i := 717) (by decide +kernel), rfl⟩
theorem mkX8_45 : xIn (.methodLink RX8 45 yX8_demandThere) := ⟨List.mem_of_getElem? (i := 725) (by decide +kernel), rfl⟩
theorem mkX8_49 : xIn (.methodLink RX8 49 yX7_clear) := ⟨List.mem_of_getElem? (i := 795) (by decide +kernel), rfl⟩
theorem mkX8_56 : xIn (.methodLink RX8 56 yX6_init) := ⟨List.mem_of_getElem? (i := 806) (by decide +kernel), rfl⟩
theorem mkX8_59 : xIn (.methodLink RX8 59 yX5_init) := ⟨List.mem_of_getElem? (i := 837) (by decide +kernel), rfl⟩
theorem mkX8_62 : xIn (.methodLink RX8 62 yX5_readText) := ⟨List.mem_of_getElem? (i := 856) (by decide +kernel), rfl⟩
theorem mkX8_75 : xIn (.methodLink RX8 75 yX8_demandFit) := ⟨List.mem_of_getElem? (i := 1020) (by decide +kernel), rfl⟩
theorem mkX8_78 : xIn (.methodLink RX8 78 yX7_settle) := ⟨List.mem_of_getElem? (i := 1039) (by decide +kernel), rfl⟩
theorem mkX8_85 : xIn (.methodLink RX8 85 yX8_forgetChanges) := ⟨List.mem_of_getElem? (i := 1094) (by decide +kernel), rfl⟩
theorem mkX8_100 : xIn (.methodLink RX8 100 yX8_demandText) := ⟨List.mem_of_getElem? (i := 1111) (by decide +kernel), rfl⟩
theorem mkX8_103 : xIn (.methodLink RX8 103 yX7_namesOf) := ⟨List.mem_of_getElem? (i := 1131) (by decide +kernel), rfl⟩
theorem mkX8_107 : xIn (.methodLink RX8 107 yX3_has) := ⟨List.mem_of_getElem? (i := 1139) (by decide +kernel), rfl⟩
theorem mkX8_111 : xIn (.methodLink RX8 111 yX3_lengthOf) := ⟨List.mem_of_getElem? (i := 1143) (by decide +kernel), rfl⟩
theorem mkX8_115 : xIn (.methodLink RX8 115 yX3_letterOf) := ⟨List.mem_of_getElem? (i := 1148) (by decide +kernel), rfl⟩
theorem mkX8_119 : xIn (.methodLink RX8 119 yX8_groupAt) := ⟨List.mem_of_getElem? (i := 1159) (by decide +kernel), rfl⟩
theorem mkX8_128 : xIn (.methodLink RX8 128 yX2_has) := ⟨List.mem_of_getElem? (i := 1163) (by decide +kernel), rfl⟩
theorem mkX8_129 : xIn (.methodLink RX8 129 yX2_product) := ⟨List.mem_of_getElem? (i := 1167) (by decide +kernel), rfl⟩
theorem mkX8_132 : xIn (.methodLink RX8 132 yX2_opposite) := ⟨List.mem_of_getElem? (i := 1571) (by decide +kernel), rfl⟩
theorem mkX8_135 : xIn (.methodLink RX8 135 yX2_period) := ⟨List.mem_of_getElem? (i := 1577) (by decide +kernel), rfl⟩
theorem mkX8_138 : xIn (.methodLink RX8 138 yX2_middle) := ⟨List.mem_of_getElem? (i := 1589) (by decide +kernel), rfl⟩
theorem mkX8_145 : xIn (.methodLink RX8 145 yX2_hasAll) := ⟨List.mem_of_getElem? (i := 1172) (by decide +kernel), rfl⟩
theorem mkX8_148 : xIn (.methodLink RX8 148 yX2_closure) := ⟨List.mem_of_getElem? (i := 1176) (by decide +kernel), rfl⟩
theorem mkX8_154 : xIn (.methodLink RX8 154 yX8_moduleAt) := ⟨List.mem_of_getElem? (i := 1189) (by decide +kernel), rfl⟩
theorem mkX8_170 : xIn (.methodLink RX8 170 yX1_boundaryOf) := ⟨List.mem_of_getElem? (i := 1193) (by decide +kernel), rfl⟩
theorem mkX8_173 : xIn (.methodLink RX8 173 yX1_actionOf) := ⟨List.mem_of_getElem? (i := 1198) (by decide +kernel), rfl⟩
theorem mkX8_179 : xIn (.methodLink RX8 179 yX7_lawfulModules) := ⟨List.mem_of_getElem? (i := 1511) (by decide +kernel), rfl⟩
theorem mkX8_182 : xIn (.methodLink RX8 182 yX1_kernelSet) := ⟨List.mem_of_getElem? (i := 1640) (by decide +kernel), rfl⟩
theorem mkX8_185 : xIn (.methodLink RX8 185 yX1_imageSet) := ⟨List.mem_of_getElem? (i := 1649) (by decide +kernel), rfl⟩
theorem mkX8_188 : xIn (.methodLink RX8 188 yX1_stabilizer) := ⟨List.mem_of_getElem? (i := 1624) (by decide +kernel), rfl⟩
theorem mkX8_191 : xIn (.methodLink RX8 191 yX1_orbitSet) := ⟨List.mem_of_getElem? (i := 1632) (by decide +kernel), rfl⟩
theorem mkX8_194 : xIn (.methodLink RX8 194 yX8_lawfulModuleAt) := ⟨List.mem_of_getElem? (i := 1207) (by decide +kernel), rfl⟩
theorem mkX8_197 : xIn (.methodLink RX8 197 yX1_freshPair) := ⟨List.mem_of_getElem? (i := 1211) (by decide +kernel), rfl⟩
theorem mkX8_206 : xIn (.methodLink RX8 206 yX4_classHolding) := ⟨List.mem_of_getElem? (i := 1251) (by decide +kernel), rfl⟩
theorem mkX8_209 : xIn (.methodLink RX8 209 yX4_has) := ⟨List.mem_of_getElem? (i := 1256) (by decide +kernel), rfl⟩
theorem mkX8_210 : xIn (.methodLink RX8 210 yX4_product) := ⟨List.mem_of_getElem? (i := 1260) (by decide +kernel), rfl⟩
theorem mkX8_213 : xIn (.methodLink RX8 213 yX4_leastOf) := ⟨List.mem_of_getElem? (i := 1265) (by decide +kernel), rfl⟩
theorem mkX8_223 : xIn (.methodLink RX8 223 yX8_at) := ⟨List.mem_of_getElem? (i := 1273) (by decide +kernel), rfl⟩
theorem mkX8_227 : xIn (.methodLink RX8 227 yX4_matches) := ⟨List.mem_of_getElem? (i := 1278) (by decide +kernel), rfl⟩
theorem mkX8_235 : xIn (.methodLink RX8 235 yX7_firstLike) := ⟨List.mem_of_getElem? (i := 1286) (by decide +kernel), rfl⟩
theorem mkX8_239 : xIn (.methodLink RX8 239 yX1_hasLarge) := ⟨List.mem_of_getElem? (i := 1296) (by decide +kernel), rfl⟩
theorem mkX8_242 : xIn (.methodLink RX8 242 yX1_largeProduct) := ⟨List.mem_of_getElem? (i := 1300) (by decide +kernel), rfl⟩
theorem mkX8_245 : xIn (.methodLink RX8 245 yX1_upperPart) := ⟨List.mem_of_getElem? (i := 1316) (by decide +kernel), rfl⟩
theorem mkX8_248 : xIn (.methodLink RX8 248 yX1_lowerPart) := ⟨List.mem_of_getElem? (i := 1317) (by decide +kernel), rfl⟩
theorem mkX8_251 : xIn (.methodLink RX8 251 yX1_targetOf) := ⟨List.mem_of_getElem? (i := 1318) (by decide +kernel), rfl⟩
theorem mkX8_254 : xIn (.methodLink RX8 254 yX1_largePeriod) := ⟨List.mem_of_getElem? (i := 1326) (by decide +kernel), rfl⟩
theorem mkX8_257 : xIn (.methodLink RX8 257 yX1_countBetween) := ⟨List.mem_of_getElem? (i := 1335) (by decide +kernel), rfl⟩
theorem mkX8_260 : xIn (.methodLink RX8 260 yX8_arrowAt) := ⟨List.mem_of_getElem? (i := 1344) (by decide +kernel), rfl⟩
theorem mkX8_274 : xIn (.methodLink RX8 274 yX0_topOf) := ⟨List.mem_of_getElem? (i := 1348) (by decide +kernel), rfl⟩
theorem mkX8_277 : xIn (.methodLink RX8 277 yX0_bottomOf) := ⟨List.mem_of_getElem? (i := 1357) (by decide +kernel), rfl⟩
theorem mkX8_280 : xIn (.methodLink RX8 280 yX0_firstReason) := ⟨List.mem_of_getElem? (i := 1526) (by decide +kernel), rfl⟩
theorem mkX8_286 : xIn (.methodLink RX8 286 yX7_equivalenceSet) := ⟨List.mem_of_getElem? (i := 1365) (by decide +kernel), rfl⟩
theorem mkX8_289 : xIn (.methodLink RX8 289 yX7_stepsBetween) := ⟨List.mem_of_getElem? (i := 1414) (by decide +kernel), rfl⟩
theorem mkX8_302 : xIn (.methodLink RX8 302 yX8_write) := ⟨List.mem_of_getElem? (i := 1597) (by decide +kernel), rfl⟩
theorem mkX8_305 : xIn (.methodLink RX8 305 yX8_beginChange) := ⟨List.mem_of_getElem? (i := 1439) (by decide +kernel), rfl⟩
theorem mkX8_311 : xIn (.methodLink RX8 311 yX8_put) := ⟨List.mem_of_getElem? (i := 1459) (by decide +kernel), rfl⟩
theorem mkX8_315 : xIn (.methodLink RX8 315 yX7_judgeAgain) := ⟨List.mem_of_getElem? (i := 1460) (by decide +kernel), rfl⟩
theorem mkX8_322 : xIn (.methodLink RX8 322 yX1_becomeRestful) := ⟨List.mem_of_getElem? (i := 1473) (by decide +kernel), rfl⟩
theorem mkX8_325 : xIn (.methodLink RX8 325 yX1_becomeConjugation) := ⟨List.mem_of_getElem? (i := 1486) (by decide +kernel), rfl⟩
theorem mkX8_344 : xIn (.methodLink RX8 344 yX8_undoPlace) := ⟨List.mem_of_getElem? (i := 1443) (by decide +kernel), rfl⟩
theorem mkX8_347 : xIn (.methodLink RX8 347 yX7_takeState) := ⟨List.mem_of_getElem? (i := 1503) (by decide +kernel), rfl⟩
theorem mkX8_351 : xIn (.methodLink RX8 351 yX7_giveState) := ⟨List.mem_of_getElem? (i := 1448) (by decide +kernel), rfl⟩
theorem mkX8_354 : xIn (.methodLink RX8 354 yJ6_bitCount_0f7a4) := ⟨List.mem_of_getElem? (i := 1515) (by decide +kernel), rfl⟩
theorem mkX8_359 : xIn (.methodLink RX8 359 yX8_isIn) := ⟨List.mem_of_getElem? (i := 1520) (by decide +kernel), rfl⟩
theorem mkX8_394 : xIn (.methodLink RX8 394 yX7_addToAccount) := ⟨List.mem_of_getElem? (i := 1453) (by decide +kernel), rfl⟩
theorem mkX8_397 : xIn (.methodLink RX8 397 yJ9_floorMod_7cf53) := ⟨List.mem_of_getElem? (i := 1447) (by decide +kernel), rfl⟩
theorem mkX0_39 : xIn (.methodLink RX0 39 yX0_keepsProducts) := ⟨List.mem_of_getElem? (i := 1377) (by decide +kernel), rfl⟩
theorem mkX0_46 : xIn (.methodLink RX0 46 yX0_keepsBoundaries) := ⟨List.mem_of_getElem? (i := 1381) (by decide +kernel), rfl⟩
theorem mkX0_50 : xIn (.methodLink RX0 50 yX0_keepsActions) := ⟨List.mem_of_getElem? (i := 1388) (by decide +kernel), rfl⟩
theorem mkX0_58 : xIn (.methodLink RX0 58 yX2_product) := ⟨List.mem_of_getElem? (i := 1380) (by decide +kernel), rfl⟩
theorem mkX0_62 : xIn (.methodLink RX0 62 yX0_topOf) := ⟨List.mem_of_getElem? (i := 1385) (by decide +kernel), rfl⟩
theorem mkX0_66 : xIn (.methodLink RX0 66 yX1_boundaryOf) := ⟨List.mem_of_getElem? (i := 1386) (by decide +kernel), rfl⟩
theorem mkX0_69 : xIn (.methodLink RX0 69 yX0_bottomOf) := ⟨List.mem_of_getElem? (i := 1387) (by decide +kernel), rfl⟩
theorem mkX0_72 : xIn (.methodLink RX0 72 yX1_actionOf) := ⟨List.mem_of_getElem? (i := 1392) (by decide +kernel), rfl⟩
theorem mkX0_75 : xIn (.methodLink RX0 75 yX0_firstReason) := ⟨List.mem_of_getElem? (i := 1373) (by decide +kernel), rfl⟩
theorem mkX0_79 : xIn (.methodLink RX0 79 yX1_kernelSet) := ⟨List.mem_of_getElem? (i := 1393) (by decide +kernel), rfl⟩
theorem mkX0_82 : xIn (.methodLink RX0 82 yJ6_bitCount_0f7a4) := ⟨List.mem_of_getElem? (i := 1397) (by decide +kernel), rfl⟩
theorem mkX0_87 : xIn (.methodLink RX0 87 yX0_partsKernel) := ⟨List.mem_of_getElem? (i := 1403) (by decide +kernel), rfl⟩
theorem mkX0_91 : xIn (.methodLink RX0 91 yX0_matchesClasses) := ⟨List.mem_of_getElem? (i := 1408) (by decide +kernel), rfl⟩
theorem mkX0_102 : xIn (.methodLink RX0 102 yX4_sortClasses) := ⟨List.mem_of_getElem? (i := 1412) (by decide +kernel), rfl⟩
theorem mkX0_108 : xIn (.methodLink RX0 108 yX4_classHolding) := ⟨List.mem_of_getElem? (i := 1413) (by decide +kernel), rfl⟩
theorem mkX1_39 : xIn (.methodLink RX1 39 yJ9_floorMod_7cf53) := ⟨List.mem_of_getElem? (i := 997) (by decide +kernel), rfl⟩
theorem mkX1_49 : xIn (.methodLink RX1 49 yX1_actionOf) := ⟨List.mem_of_getElem? (i := 1068) (by decide +kernel), rfl⟩
theorem mkX1_61 : xIn (.methodLink RX1 61 yX1_replaceAction) := ⟨List.mem_of_getElem? (i := 1477) (by decide +kernel), rfl⟩
theorem mkX1_65 : xIn (.methodLink RX1 65 yX2_conjugateBy) := ⟨List.mem_of_getElem? (i := 1081) (by decide +kernel), rfl⟩
theorem mkX1_68 : xIn (.methodLink RX1 68 yX1_boundaryKeepsProducts) := ⟨List.mem_of_getElem? (i := 1052) (by decide +kernel), rfl⟩
theorem mkX1_72 : xIn (.methodLink RX1 72 yX1_isAutomorphism) := ⟨List.mem_of_getElem? (i := 1064) (by decide +kernel), rfl⟩
theorem mkX1_76 : xIn (.methodLink RX1 76 yX1_actionKeepsProducts) := ⟨List.mem_of_getElem? (i := 1073) (by decide +kernel), rfl⟩
theorem mkX1_79 : xIn (.methodLink RX1 79 yX1_boundaryFollowsAction) := ⟨List.mem_of_getElem? (i := 1077) (by decide +kernel), rfl⟩
theorem mkX1_82 : xIn (.methodLink RX1 82 yX1_boundaryActsAsConjugation) := ⟨List.mem_of_getElem? (i := 1090) (by decide +kernel), rfl⟩
theorem mkX1_85 : xIn (.methodLink RX1 85 yX2_product) := ⟨List.mem_of_getElem? (i := 1056) (by decide +kernel), rfl⟩
theorem mkX1_88 : xIn (.methodLink RX1 88 yX1_boundaryOf) := ⟨List.mem_of_getElem? (i := 1057) (by decide +kernel), rfl⟩
theorem mkX1_96 : xIn (.methodLink RX1 96 yX4_sortClasses) := ⟨List.mem_of_getElem? (i := 1215) (by decide +kernel), rfl⟩
theorem mkX1_100 : xIn (.methodLink RX1 100 yX4_countOrders) := ⟨List.mem_of_getElem? (i := 1228) (by decide +kernel), rfl⟩
theorem mkX1_103 : xIn (.methodLink RX1 103 yX1_lowerPart) := ⟨List.mem_of_getElem? (i := 1304) (by decide +kernel), rfl⟩
theorem mkX1_106 : xIn (.methodLink RX1 106 yX1_upperPart) := ⟨List.mem_of_getElem? (i := 1308) (by decide +kernel), rfl⟩
theorem mkX1_109 : xIn (.methodLink RX1 109 yX1_largeProduct) := ⟨List.mem_of_getElem? (i := 1330) (by decide +kernel), rfl⟩
theorem mkX1_112 : xIn (.methodLink RX1 112 yX1_targetOf) := ⟨List.mem_of_getElem? (i := 1339) (by decide +kernel), rfl⟩
theorem mkX2_29 : xIn (.methodLink RX2 29 yX2_product) := ⟨List.mem_of_getElem? (i := 984) (by decide +kernel), rfl⟩
theorem mkX2_33 : xIn (.methodLink RX2 33 yX2_opposite) := ⟨List.mem_of_getElem? (i := 1085) (by decide +kernel), rfl⟩
theorem mkX2_37 : xIn (.methodLink RX2 37 yJ9_floorMod_7cf53) := ⟨List.mem_of_getElem? (i := 936) (by decide +kernel), rfl⟩
theorem mkX2_42 : xIn (.methodLink RX2 42 yX2_setProduct) := ⟨List.mem_of_getElem? (i := 939) (by decide +kernel), rfl⟩
theorem mkX2_46 : xIn (.methodLink RX2 46 yX2_productOfUnits) := ⟨List.mem_of_getElem? (i := 961) (by decide +kernel), rfl⟩
theorem mkX2_49 : xIn (.methodLink RX2 49 yJ9_floorDiv_7cf53) := ⟨List.mem_of_getElem? (i := 981) (by decide +kernel), rfl⟩
theorem mkX2_66 : xIn (.methodLink RX2 66 yX2_productsWithin) := ⟨List.mem_of_getElem? (i := 1180) (by decide +kernel), rfl⟩
theorem mkX3_27 : xIn (.methodLink RX3 27 yX3_has) := ⟨List.mem_of_getElem? (i := 1152) (by decide +kernel), rfl⟩
theorem mkX3_31 : xIn (.methodLink RX3 31 yX3_lengthOf) := ⟨List.mem_of_getElem? (i := 1153) (by decide +kernel), rfl⟩
theorem mkX4_32 : xIn (.methodLink RX4 32 yX2_product) := ⟨List.mem_of_getElem? (i := 1227) (by decide +kernel), rfl⟩
theorem mkX4_38 : xIn (.methodLink RX4 38 yX4_product) := ⟨List.mem_of_getElem? (i := 1243) (by decide +kernel), rfl⟩
theorem mkX4_41 : xIn (.methodLink RX4 41 yJ7_fill_53178) := ⟨List.mem_of_getElem? (i := 1219) (by decide +kernel), rfl⟩
theorem mkX4_56 : xIn (.methodLink RX4 56 yX4_classHolding) := ⟨List.mem_of_getElem? (i := 1220) (by decide +kernel), rfl⟩
theorem mkX4_67 : xIn (.methodLink RX4 67 yX1_boundaryOf) := ⟨List.mem_of_getElem? (i := 1226) (by decide +kernel), rfl⟩
theorem mkX4_70 : xIn (.methodLink RX4 70 yX2_period) := ⟨List.mem_of_getElem? (i := 1232) (by decide +kernel), rfl⟩
theorem mkX4_73 : xIn (.methodLink RX4 73 yX4_addOne) := ⟨List.mem_of_getElem? (i := 1236) (by decide +kernel), rfl⟩
theorem mkX4_76 : xIn (.methodLink RX4 76 yX4_period) := ⟨List.mem_of_getElem? (i := 1239) (by decide +kernel), rfl⟩
theorem mkX5_31 : xIn (.methodLink RX5 31 yX6_advance) := ⟨List.mem_of_getElem? (i := 860) (by decide +kernel), rfl⟩
theorem mkX5_36 : xIn (.methodLink RX5 36 yX6_spells) := ⟨List.mem_of_getElem? (i := 884) (by decide +kernel), rfl⟩
theorem mkX5_40 : xIn (.methodLink RX5 40 yX5_refuse) := ⟨List.mem_of_getElem? (i := 890) (by decide +kernel), rfl⟩
theorem mkX5_47 : xIn (.methodLink RX5 47 yX5_readLine) := ⟨List.mem_of_getElem? (i := 894) (by decide +kernel), rfl⟩
theorem mkX5_53 : xIn (.methodLink RX5 53 yX5_readGroup) := ⟨List.mem_of_getElem? (i := 899) (by decide +kernel), rfl⟩
theorem mkX5_58 : xIn (.methodLink RX5 58 yX5_readModule) := ⟨List.mem_of_getElem? (i := 989) (by decide +kernel), rfl⟩
theorem mkX5_63 : xIn (.methodLink RX5 63 yX5_readAct) := ⟨List.mem_of_getElem? (i := 1004) (by decide +kernel), rfl⟩
theorem mkX5_68 : xIn (.methodLink RX5 68 yX5_readArrow) := ⟨List.mem_of_getElem? (i := 1016) (by decide +kernel), rfl⟩
theorem mkX5_77 : xIn (.methodLink RX5 77 yX5_readNewName) := ⟨List.mem_of_getElem? (i := 903) (by decide +kernel), rfl⟩
theorem mkX5_92 : xIn (.methodLink RX5 92 yX5_readCyclic) := ⟨List.mem_of_getElem? (i := 923) (by decide +kernel), rfl⟩
theorem mkX5_98 : xIn (.methodLink RX5 98 yX5_readDihedral) := ⟨List.mem_of_getElem? (i := 944) (by decide +kernel), rfl⟩
theorem mkX5_103 : xIn (.methodLink RX5 103 yX5_readQuaternion) := ⟨List.mem_of_getElem? (i := 953) (by decide +kernel), rfl⟩
theorem mkX5_108 : xIn (.methodLink RX5 108 yX5_readProduct) := ⟨List.mem_of_getElem? (i := 965) (by decide +kernel), rfl⟩
theorem mkX5_111 : xIn (.methodLink RX5 111 yX5_isNumber) := ⟨List.mem_of_getElem? (i := 927) (by decide +kernel), rfl⟩
theorem mkX5_118 : xIn (.methodLink RX5 118 yX2_becomeCyclic) := ⟨List.mem_of_getElem? (i := 932) (by decide +kernel), rfl⟩
theorem mkX5_124 : xIn (.methodLink RX5 124 yX2_becomeDihedral) := ⟨List.mem_of_getElem? (i := 948) (by decide +kernel), rfl⟩
theorem mkX5_127 : xIn (.methodLink RX5 127 yX2_becomeQuaternion) := ⟨List.mem_of_getElem? (i := 957) (by decide +kernel), rfl⟩
theorem mkX5_130 : xIn (.methodLink RX5 130 yX5_isKnown) := ⟨List.mem_of_getElem? (i := 969) (by decide +kernel), rfl⟩
theorem mkX5_133 : xIn (.methodLink RX5 133 yX5_groupTold) := ⟨List.mem_of_getElem? (i := 973) (by decide +kernel), rfl⟩
theorem mkX5_140 : xIn (.methodLink RX5 140 yX2_becomeProduct) := ⟨List.mem_of_getElem? (i := 977) (by decide +kernel), rfl⟩
theorem mkX5_151 : xIn (.methodLink RX5 151 yX1_start) := ⟨List.mem_of_getElem? (i := 993) (by decide +kernel), rfl⟩
theorem mkX5_159 : xIn (.methodLink RX5 159 yX5_readElements) := ⟨List.mem_of_getElem? (i := 998) (by decide +kernel), rfl⟩
theorem mkX5_163 : xIn (.methodLink RX5 163 yX5_moduleTold) := ⟨List.mem_of_getElem? (i := 1008) (by decide +kernel), rfl⟩
theorem mkX5_205 : xIn (.methodLink RX5 205 yX3_isFull) := ⟨List.mem_of_getElem? (i := 907) (by decide +kernel), rfl⟩
theorem mkX5_212 : xIn (.methodLink RX5 212 yX3_numberOf) := ⟨List.mem_of_getElem? (i := 911) (by decide +kernel), rfl⟩
theorem mkX5_219 : xIn (.methodLink RX5 219 yX3_noteNext) := ⟨List.mem_of_getElem? (i := 915) (by decide +kernel), rfl⟩
theorem mkX6_22 : xIn (.methodLink RX6 22 yX6_endOfRun) := ⟨List.mem_of_getElem? (i := 864) (by decide +kernel), rfl⟩
theorem mkX6_29 : xIn (.methodLink RX6 29 yX6_byteAt) := ⟨List.mem_of_getElem? (i := 868) (by decide +kernel), rfl⟩
theorem mkX6_40 : xIn (.methodLink RX6 40 yX6_packed) := ⟨List.mem_of_getElem? (i := 875) (by decide +kernel), rfl⟩
theorem mkX6_48 : xIn (.methodLink RX6 48 yX6_reckoned) := ⟨List.mem_of_getElem? (i := 879) (by decide +kernel), rfl⟩
theorem mkX6_55 : xIn (.methodLink RX6 55 yJ0_length_8abf5) := ⟨List.mem_of_getElem? (i := 888) (by decide +kernel), rfl⟩
theorem mkX6_59 : xIn (.methodLink RX6 59 yJ0_charAt_5068e) := ⟨List.mem_of_getElem? (i := 889) (by decide +kernel), rfl⟩
theorem mkX7_11 : xIn (.methodLink RX7 11 yX3_init) := ⟨List.mem_of_getElem? (i := 62) (by decide +kernel), rfl⟩
theorem mkX7_48 : xIn (.methodLink RX7 48 yX2_init) := ⟨List.mem_of_getElem? (i := 89) (by decide +kernel), rfl⟩
theorem mkX7_49 : xIn (.methodLink RX7 49 yX1_init) := ⟨List.mem_of_getElem? (i := 113) (by decide +kernel), rfl⟩
theorem mkX7_52 : xIn (.methodLink RX7 52 yX0_init) := ⟨List.mem_of_getElem? (i := 189) (by decide +kernel), rfl⟩
theorem mkX7_59 : xIn (.methodLink RX7 59 yJ7_fill_53178) := ⟨List.mem_of_getElem? (i := 799) (by decide +kernel), rfl⟩
theorem mkX7_65 : xIn (.methodLink RX7 65 yX2_findOpposites) := ⟨List.mem_of_getElem? (i := 1043) (by decide +kernel), rfl⟩
theorem mkX7_68 : xIn (.methodLink RX7 68 yX1_firstReason) := ⟨List.mem_of_getElem? (i := 1048) (by decide +kernel), rfl⟩
theorem mkX7_83 : xIn (.methodLink RX7 83 yX7_addToAccount) := ⟨List.mem_of_getElem? (i := 1464) (by decide +kernel), rfl⟩
theorem mkX7_86 : xIn (.methodLink RX7 86 yX1_freshPair) := ⟨List.mem_of_getElem? (i := 1290) (by decide +kernel), rfl⟩
theorem mkX7_93 : xIn (.methodLink RX7 93 yX4_matches) := ⟨List.mem_of_getElem? (i := 1291) (by decide +kernel), rfl⟩
theorem mkX7_99 : xIn (.methodLink RX7 99 yX0_joinsAlikePairs) := ⟨List.mem_of_getElem? (i := 1369) (by decide +kernel), rfl⟩
theorem mkX7_114 : xIn (.methodLink RX7 114 yX7_oneStepFrom) := ⟨List.mem_of_getElem? (i := 1419) (by decide +kernel), rfl⟩
theorem mkL_7 : xIn (.methodLink RL 7 yJ0_length_8abf5) := ⟨List.mem_of_getElem? (i := 694) (by decide +kernel), rfl⟩
theorem mkL_13 : xIn (.methodLink RL 13 yJ0_charAt_5068e) := ⟨List.mem_of_getElem? (i := 695) (by decide +kernel), rfl⟩
theorem mkL_17 : xIn (.methodLink RL 17 yX8_append) := ⟨List.mem_of_getElem? (i := 713) (by decide +kernel), rfl⟩
theorem mkL_23 : xIn (.methodLink RL 23 yL_feeds) := ⟨List.mem_of_getElem? (i := 691) (by decide +kernel), rfl⟩
theorem mkL_29 : xIn (.methodLink RL 29 yX8_load) := ⟨List.mem_of_getElem? (i := 721) (by decide +kernel), rfl⟩
theorem mkL_33 : xIn (.methodLink RL 33 yX8_count) := ⟨List.mem_of_getElem? (i := 1107) (by decide +kernel), rfl⟩
theorem mkL_36 : xIn (.methodLink RL 36 yX8_letter) := ⟨List.mem_of_getElem? (i := 1135) (by decide +kernel), rfl⟩
theorem mkL_40 : xIn (.methodLink RL 40 yX8_times) := ⟨List.mem_of_getElem? (i := 1155) (by decide +kernel), rfl⟩
theorem mkL_43 : xIn (.methodLink RL 43 yX8_generated) := ⟨List.mem_of_getElem? (i := 1168) (by decide +kernel), rfl⟩
theorem mkL_47 : xIn (.methodLink RL 47 yX8_boundary) := ⟨List.mem_of_getElem? (i := 1185) (by decide +kernel), rfl⟩
theorem mkL_50 : xIn (.methodLink RL 50 yX8_act) := ⟨List.mem_of_getElem? (i := 1194) (by decide +kernel), rfl⟩
theorem mkL_53 : xIn (.methodLink RL 53 yX8_why) := ⟨List.mem_of_getElem? (i := 1199) (by decide +kernel), rfl⟩
theorem mkL_56 : xIn (.methodLink RL 56 yX8_classes) := ⟨List.mem_of_getElem? (i := 1203) (by decide +kernel), rfl⟩
theorem mkL_59 : xIn (.methodLink RL 59 yX8_classOf) := ⟨List.mem_of_getElem? (i := 1247) (by decide +kernel), rfl⟩
theorem mkL_62 : xIn (.methodLink RL 62 yX8_classTimes) := ⟨List.mem_of_getElem? (i := 1252) (by decide +kernel), rfl⟩
theorem mkL_65 : xIn (.methodLink RL 65 yX8_classAct) := ⟨List.mem_of_getElem? (i := 1261) (by decide +kernel), rfl⟩
theorem mkL_68 : xIn (.methodLink RL 68 yX8_profile) := ⟨List.mem_of_getElem? (i := 1269) (by decide +kernel), rfl⟩
theorem mkL_72 : xIn (.methodLink RL 72 yX8_areAlike) := ⟨List.mem_of_getElem? (i := 1274) (by decide +kernel), rfl⟩
theorem mkL_76 : xIn (.methodLink RL 76 yX8_firstAlike) := ⟨List.mem_of_getElem? (i := 1282) (by decide +kernel), rfl⟩
theorem mkL_79 : xIn (.methodLink RL 79 yX8_largeTimes) := ⟨List.mem_of_getElem? (i := 1292) (by decide +kernel), rfl⟩
theorem mkL_82 : xIn (.methodLink RL 82 yX8_target) := ⟨List.mem_of_getElem? (i := 1312) (by decide +kernel), rfl⟩
theorem mkL_85 : xIn (.methodLink RL 85 yX8_largeOrder) := ⟨List.mem_of_getElem? (i := 1322) (by decide +kernel), rfl⟩
theorem mkL_88 : xIn (.methodLink RL 88 yX8_between) := ⟨List.mem_of_getElem? (i := 1331) (by decide +kernel), rfl⟩
theorem mkL_91 : xIn (.methodLink RL 91 yX8_top) := ⟨List.mem_of_getElem? (i := 1340) (by decide +kernel), rfl⟩
theorem mkL_94 : xIn (.methodLink RL 94 yX8_bottom) := ⟨List.mem_of_getElem? (i := 1353) (by decide +kernel), rfl⟩
theorem mkL_97 : xIn (.methodLink RL 97 yX8_ladder) := ⟨List.mem_of_getElem? (i := 1361) (by decide +kernel), rfl⟩
theorem mkL_100 : xIn (.methodLink RL 100 yX8_through) := ⟨List.mem_of_getElem? (i := 1423) (by decide +kernel), rfl⟩
theorem mkL_103 : xIn (.methodLink RL 103 yX8_account) := ⟨List.mem_of_getElem? (i := 1427) (by decide +kernel), rfl⟩
theorem mkL_106 : xIn (.methodLink RL 106 yX8_textByte) := ⟨List.mem_of_getElem? (i := 1431) (by decide +kernel), rfl⟩
theorem mkL_109 : xIn (.methodLink RL 109 yX8_setBoundary) := ⟨List.mem_of_getElem? (i := 1435) (by decide +kernel), rfl⟩
theorem mkL_112 : xIn (.methodLink RL 112 yX8_setAct) := ⟨List.mem_of_getElem? (i := 1465) (by decide +kernel), rfl⟩
theorem mkL_116 : xIn (.methodLink RL 116 yX8_rest) := ⟨List.mem_of_getElem? (i := 1469) (by decide +kernel), rfl⟩
theorem mkL_119 : xIn (.methodLink RL 119 yX8_conjugate) := ⟨List.mem_of_getElem? (i := 1482) (by decide +kernel), rfl⟩
theorem mkL_122 : xIn (.methodLink RL 122 yX8_setTop) := ⟨List.mem_of_getElem? (i := 1490) (by decide +kernel), rfl⟩
theorem mkL_125 : xIn (.methodLink RL 125 yX8_setBottom) := ⟨List.mem_of_getElem? (i := 1494) (by decide +kernel), rfl⟩
theorem mkL_128 : xIn (.methodLink RL 128 yX8_undo) := ⟨List.mem_of_getElem? (i := 1498) (by decide +kernel), rfl⟩
theorem mkL_131 : xIn (.methodLink RL 131 yX8_save) := ⟨List.mem_of_getElem? (i := 1507) (by decide +kernel), rfl⟩
theorem mkL_134 : xIn (.methodLink RL 134 yX8_restore) := ⟨List.mem_of_getElem? (i := 1516) (by decide +kernel), rfl⟩
theorem mkL_137 : xIn (.methodLink RL 137 yX8_arrowWhy) := ⟨List.mem_of_getElem? (i := 1522) (by decide +kernel), rfl⟩
theorem mkL_140 : xIn (.methodLink RL 140 yL_calls) := ⟨List.mem_of_getElem? (i := 1104) (by decide +kernel), rfl⟩
theorem mkL_168 : xIn (.methodLink RL 168 yX8_lawful) := ⟨List.mem_of_getElem? (i := 1531) (by decide +kernel), rfl⟩
theorem mkL_171 : xIn (.methodLink RL 171 yX12_lawful) := ⟨List.mem_of_getElem? (i := 1535) (by decide +kernel), rfl⟩
theorem mkL_196 : xIn (.methodLink RL 196 yX10_next) := ⟨List.mem_of_getElem? (i := 323) (by decide +kernel), rfl⟩
theorem mkL_201 : xIn (.methodLink RL 201 yL_turns) := ⟨List.mem_of_getElem? (i := 1547) (by decide +kernel), rfl⟩
theorem mkL_205 : xIn (.methodLink RL 205 yL_thrown) := ⟨List.mem_of_getElem? (i := 1098) (by decide +kernel), rfl⟩
theorem mkL_215 : xIn (.methodLink RL 215 yX11_why) := ⟨List.mem_of_getElem? (i := 1550) (by decide +kernel), rfl⟩
theorem mkL_217 : xIn (.methodLink RL 217 yL_moves) := ⟨List.mem_of_getElem? (i := 1551) (by decide +kernel), rfl⟩
theorem mkL_221 : xIn (.methodLink RL 221 yX11_conjugate) := ⟨List.mem_of_getElem? (i := 1554) (by decide +kernel), rfl⟩
theorem mkL_226 : xIn (.methodLink RL 226 yJ4_length_8abf5) := ⟨List.mem_of_getElem? (i := 1601) (by decide +kernel), rfl⟩
theorem mkL_229 : xIn (.methodLink RL 229 yJ4_charAt_5068e) := ⟨List.mem_of_getElem? (i := 1605) (by decide +kernel), rfl⟩
theorem mkL_234 : xIn (.methodLink RL 234 yJ4_init_da8c8) := ⟨List.mem_of_getElem? (i := 1559) (by decide +kernel), rfl⟩
theorem mkL_235 : xIn (.methodLink RL 235 yJ4_append_cf468) := ⟨List.mem_of_getElem? (i := 1565) (by decide +kernel), rfl⟩
theorem mkL_238 : xIn (.methodLink RL 238 yJ4_append_bf812) := ⟨List.mem_of_getElem? (i := 1566) (by decide +kernel), rfl⟩
theorem mkL_241 : xIn (.methodLink RL 241 yX8_inverse) := ⟨List.mem_of_getElem? (i := 1567) (by decide +kernel), rfl⟩
theorem mkL_244 : xIn (.methodLink RL 244 yL_inverse) := ⟨List.mem_of_getElem? (i := 1572) (by decide +kernel), rfl⟩
theorem mkL_247 : xIn (.methodLink RL 247 yX8_orderOf) := ⟨List.mem_of_getElem? (i := 1573) (by decide +kernel), rfl⟩
theorem mkL_250 : xIn (.methodLink RL 250 yL_order) := ⟨List.mem_of_getElem? (i := 1578) (by decide +kernel), rfl⟩
theorem mkL_253 : xIn (.methodLink RL 253 yX8_size) := ⟨List.mem_of_getElem? (i := 1581) (by decide +kernel), rfl⟩
theorem mkL_256 : xIn (.methodLink RL 256 yX8_centre) := ⟨List.mem_of_getElem? (i := 1585) (by decide +kernel), rfl⟩
theorem mkL_259 : xIn (.methodLink RL 259 yX8_writeTable) := ⟨List.mem_of_getElem? (i := 1593) (by decide +kernel), rfl⟩
theorem mkL_262 : xIn (.methodLink RL 262 yL_isText) := ⟨List.mem_of_getElem? (i := 1602) (by decide +kernel), rfl⟩
theorem mkL_268 : xIn (.methodLink RL 268 yJ4_init_a7421) := ⟨List.mem_of_getElem? (i := 1619) (by decide +kernel), rfl⟩
theorem mkL_271 : xIn (.methodLink RL 271 yX8_fixed) := ⟨List.mem_of_getElem? (i := 1620) (by decide +kernel), rfl⟩
theorem mkL_274 : xIn (.methodLink RL 274 yX8_orbit) := ⟨List.mem_of_getElem? (i := 1628) (by decide +kernel), rfl⟩
theorem mkL_277 : xIn (.methodLink RL 277 yX8_kernel) := ⟨List.mem_of_getElem? (i := 1636) (by decide +kernel), rfl⟩
theorem mkL_280 : xIn (.methodLink RL 280 yX11_kernel) := ⟨List.mem_of_getElem? (i := 1641) (by decide +kernel), rfl⟩
theorem mkL_282 : xIn (.methodLink RL 282 yX8_image) := ⟨List.mem_of_getElem? (i := 1645) (by decide +kernel), rfl⟩
theorem mkL_285 : xIn (.methodLink RL 285 yX11_image) := ⟨List.mem_of_getElem? (i := 1653) (by decide +kernel), rfl⟩
theorem mkL_287 : xIn (.methodLink RL 287 yX8_groupOf) := ⟨List.mem_of_getElem? (i := 1657) (by decide +kernel), rfl⟩
theorem mkL_291 : xIn (.methodLink RL 291 yX8_writeModule) := ⟨List.mem_of_getElem? (i := 1661) (by decide +kernel), rfl⟩
theorem mkL_294 : xIn (.methodLink RL 294 yX8_isCentral) := ⟨List.mem_of_getElem? (i := 1665) (by decide +kernel), rfl⟩
theorem mkL_298 : xIn (.methodLink RL 298 yL_pairs) := ⟨List.mem_of_getElem? (i := 1669) (by decide +kernel), rfl⟩
theorem mkL_302 : xIn (.methodLink RL 302 yL_like) := ⟨List.mem_of_getElem? (i := 1693) (by decide +kernel), rfl⟩
theorem mkL_306 : xIn (.methodLink RL 306 yX8_kinds) := ⟨List.mem_of_getElem? (i := 1700) (by decide +kernel), rfl⟩
theorem mkL_309 : xIn (.methodLink RL 309 yX11_pair) := ⟨List.mem_of_getElem? (i := 1677) (by decide +kernel), rfl⟩
theorem mkL_313 : xIn (.methodLink RL 313 yL_areLike) := ⟨List.mem_of_getElem? (i := 1696) (by decide +kernel), rfl⟩
theorem mkL_317 : xIn (.methodLink RL 317 yX11_classes) := ⟨List.mem_of_getElem? (i := 1672) (by decide +kernel), rfl⟩
theorem mkL_319 : xIn (.methodLink RL 319 yX11_many) := ⟨List.mem_of_getElem? (i := 1692) (by decide +kernel), rfl⟩
theorem mkL_324 : xIn (.methodLink RL 324 yX11_leastOf) := ⟨List.mem_of_getElem? (i := 1699) (by decide +kernel), rfl⟩
theorem mkL_327 : xIn (.methodLink RL 327 yX10_init) := ⟨List.mem_of_getElem? (i := 312) (by decide +kernel), rfl⟩
theorem mkL_330 : xIn (.methodLink RL 330 yX12_init) := ⟨List.mem_of_getElem? (i := 330) (by decide +kernel), rfl⟩
theorem mkL_333 : xIn (.methodLink RL 333 yX8_init) := ⟨List.mem_of_getElem? (i := 48) (by decide +kernel), rfl⟩
theorem mkL_334 : xIn (.methodLink RL 334 yX8_undoable) := ⟨List.mem_of_getElem? (i := 306) (by decide +kernel), rfl⟩
theorem mkL_341 : xIn (.methodLink RL 341 yJ4_toString_0e30d) := ⟨List.mem_of_getElem? (i := 1704) (by decide +kernel), rfl⟩
theorem mkL_345 : xIn (.methodLink RL 345 yL_tell) := ⟨List.mem_of_getElem? (i := 688) (by decide +kernel), rfl⟩
theorem mkL_349 : xIn (.methodLink RL 349 yX8_parseError) := ⟨List.mem_of_getElem? (i := 298) (by decide +kernel), rfl⟩
theorem mkL_352 : xIn (.methodLink RL 352 yX8_errorPosition) := ⟨List.mem_of_getElem? (i := 302) (by decide +kernel), rfl⟩
theorem mkL_355 : xIn (.methodLink RL 355 yL_isLike) := ⟨List.mem_of_getElem? (i := 1528) (by decide +kernel), rfl⟩
theorem mkL_359 : xIn (.methodLink RL 359 yL_groups) := ⟨List.mem_of_getElem? (i := 1555) (by decide +kernel), rfl⟩
theorem mkL_361 : xIn (.methodLink RL 361 yL_modules) := ⟨List.mem_of_getElem? (i := 1615) (by decide +kernel), rfl⟩
theorem mkL_363 : xIn (.methodLink RL 363 yL_act) := ⟨List.mem_of_getElem? (i := 1544) (by decide +kernel), rfl⟩
theorem mkX11_37 : xIn (.methodLink RX11 37 yX11_conjugate) := ⟨List.mem_of_getElem? (i := 1543) (by decide +kernel), rfl⟩
theorem mkX11_41 : xIn (.methodLink RX11 41 yX11_image) := ⟨List.mem_of_getElem? (i := 1676) (by decide +kernel), rfl⟩
theorem mkX11_45 : xIn (.methodLink RX11 45 yX11_classes) := ⟨List.mem_of_getElem? (i := 1681) (by decide +kernel), rfl⟩
theorem mkX11_49 : xIn (.methodLink RX11 49 yJ9_max_7cf53) := ⟨List.mem_of_getElem? (i := 1687) (by decide +kernel), rfl⟩
theorem mkX11_57 : xIn (.methodLink RX11 57 yX11_many) := ⟨List.mem_of_getElem? (i := 1683) (by decide +kernel), rfl⟩
theorem mkX11_60 : xIn (.methodLink RX11 60 yX11_leastOf) := ⟨List.mem_of_getElem? (i := 1688) (by decide +kernel), rfl⟩
theorem mkX12_11 : xIn (.methodLink RX12 11 yJ4_init_a7421) := ⟨List.mem_of_getElem? (i := 337) (by decide +kernel), rfl⟩
theorem mkX12_42 : xIn (.methodLink RX12 42 yX10_next) := ⟨List.mem_of_getElem? (i := 498) (by decide +kernel), rfl⟩
theorem mkX12_48 : xIn (.methodLink RX12 48 yX12_group) := ⟨List.mem_of_getElem? (i := 499) (by decide +kernel), rfl⟩
theorem mkX12_52 : xIn (.methodLink RX12 52 yX12_module) := ⟨List.mem_of_getElem? (i := 570) (by decide +kernel), rfl⟩
theorem mkX12_55 : xIn (.methodLink RX12 55 yX12_arrow) := ⟨List.mem_of_getElem? (i := 626) (by decide +kernel), rfl⟩
theorem mkX12_60 : xIn (.methodLink RX12 60 yJ4_append_15ec4) := ⟨List.mem_of_getElem? (i := 504) (by decide +kernel), rfl⟩
theorem mkX12_68 : xIn (.methodLink RX12 68 yJ4_append_cf468) := ⟨List.mem_of_getElem? (i := 505) (by decide +kernel), rfl⟩
theorem mkX12_93 : xIn (.methodLink RX12 93 yJ4_append_bf812) := ⟨List.mem_of_getElem? (i := 542) (by decide +kernel), rfl⟩
theorem mkX12_99 : xIn (.methodLink RX12 99 yX11_init) := ⟨List.mem_of_getElem? (i := 575) (by decide +kernel), rfl⟩
theorem mkX12_112 : xIn (.methodLink RX12 112 yJ4_length_8abf5) := ⟨List.mem_of_getElem? (i := 608) (by decide +kernel), rfl⟩
theorem mkX12_125 : xIn (.methodLink RX12 125 yX11_conjugate) := ⟨List.mem_of_getElem? (i := 619) (by decide +kernel), rfl⟩
theorem mkX12_128 : xIn (.methodLink RX12 128 yX9_init) := ⟨List.mem_of_getElem? (i := 631) (by decide +kernel), rfl⟩
theorem mkX12_144 : xIn (.methodLink RX12 144 yX11_why) := ⟨List.mem_of_getElem? (i := 1539) (by decide +kernel), rfl⟩
theorem mkJ5_32 : xIn (.methodLink RJ5 32 yJ0_length_8abf5) := ⟨List.mem_of_getElem? (i := 344) (by decide +kernel), rfl⟩
theorem mkJ5_40 : xIn (.methodLink RJ5 40 yJ0_coder_7d493) := ⟨List.mem_of_getElem? (i := 356) (by decide +kernel), rfl⟩
theorem mkJ5_43 : xIn (.methodLink RJ5 43 yJ5_append_cf1ce) := ⟨List.mem_of_getElem? (i := 364) (by decide +kernel), rfl⟩
theorem mkJ5_83 : xIn (.methodLink RJ5 83 yJ5_isLatin1_aae02) := ⟨List.mem_of_getElem? (i := 415) (by decide +kernel), rfl⟩
theorem mkJ5_100 : xIn (.methodLink RJ5 100 yJ5_ensureCapacityInternal_d00df) := ⟨List.mem_of_getElem? (i := 381) (by decide +kernel), rfl⟩
theorem mkJ5_104 : xIn (.methodLink RJ5 104 yJ5_newCapacity_0f7a4) := ⟨List.mem_of_getElem? (i := 385) (by decide +kernel), rfl⟩
theorem mkJ5_108 : xIn (.methodLink RJ5 108 yJ7_copyOf_9075b) := ⟨List.mem_of_getElem? (i := 399) (by decide +kernel), rfl⟩
theorem mkJ5_114 : xIn (.methodLink RJ5 114 yJ8_newLength_cabcc) := ⟨List.mem_of_getElem? (i := 389) (by decide +kernel), rfl⟩
theorem mkJ5_138 : xIn (.methodLink RJ5 138 yJ9_min_7cf53) := ⟨List.mem_of_getElem? (i := 1612) (by decide +kernel), rfl⟩
theorem mkJ5_144 : xIn (.methodLink RJ5 144 yJ0_checkIndex_df160) := ⟨List.mem_of_getElem? (i := 1613) (by decide +kernel), rfl⟩
theorem mkJ5_191 : xIn (.methodLink RJ5 191 yJ1_canEncode_fc78d) := ⟨List.mem_of_getElem? (i := 512) (by decide +kernel), rfl⟩
theorem mkJ5_208 : xIn (.methodLink RJ5 208 yJ5_putStringAt_47b60) := ⟨List.mem_of_getElem? (i := 447) (by decide +kernel), rfl⟩
theorem mkJ5_245 : xIn (.methodLink RJ5 245 yJ6_stringSize_0f7a4) := ⟨List.mem_of_getElem? (i := 549) (by decide +kernel), rfl⟩
theorem mkJ5_248 : xIn (.methodLink RJ5 248 yJ6_getChars_ba4f3) := ⟨List.mem_of_getElem? (i := 552) (by decide +kernel), rfl⟩
theorem mkJ5_397 : xIn (.methodLink RJ5 397 yJ5_inflateIfNeededFor_a7421) := ⟨List.mem_of_getElem? (i := 451) (by decide +kernel), rfl⟩
theorem mkJ5_399 : xIn (.methodLink RJ5 399 yJ0_getBytes_840e7) := ⟨List.mem_of_getElem? (i := 474) (by decide +kernel), rfl⟩
theorem mkJ0_54 : xIn (.methodLink RJ0 54 yJ7_copyOfRange_39247) := ⟨List.mem_of_getElem? (i := 1724) (by decide +kernel), rfl⟩
theorem mkJ0_335 : xIn (.methodLink RJ0 335 yJ0_coder_7d493) := ⟨List.mem_of_getElem? (i := 348) (by decide +kernel), rfl⟩
theorem mkJ0_489 : xIn (.methodLink RJ0 489 yJ0_init_db425) := ⟨List.mem_of_getElem? (i := 1713) (by decide +kernel), rfl⟩
theorem mkJ0_492 : xIn (.methodLink RJ0 492 yJ0_isLatin1_aae02) := ⟨List.mem_of_getElem? (i := 699) (by decide +kernel), rfl⟩
theorem mkJ0_495 : xIn (.methodLink RJ0 495 yJ1_charAt_3b067) := ⟨List.mem_of_getElem? (i := 703) (by decide +kernel), rfl⟩
theorem mkJ0_549 : xIn (.methodLink RJ0 549 yJ5_length_8abf5) := ⟨List.mem_of_getElem? (i := 1722) (by decide +kernel), rfl⟩
theorem mkJ0_552 : xIn (.methodLink RJ0 552 yJ5_getValue_6d5f1) := ⟨List.mem_of_getElem? (i := 1717) (by decide +kernel), rfl⟩
theorem mkJ0_1047 : xIn (.methodLink RJ0 1047 yJ5_isLatin1_aae02) := ⟨List.mem_of_getElem? (i := 1723) (by decide +kernel), rfl⟩
theorem mkJ0_1059 : xIn (.methodLink RJ0 1059 yJ3_checkIndex_8e157) := ⟨List.mem_of_getElem? (i := 524) (by decide +kernel), rfl⟩
theorem mkJ0_1062 : xIn (.methodLink RJ0 1062 yJ3_checkFromToIndex_8c36e) := ⟨List.mem_of_getElem? (i := 435) (by decide +kernel), rfl⟩
theorem mkJ0_1065 : xIn (.methodLink RJ0 1065 yJ3_checkFromIndexSize_8c36e) := ⟨List.mem_of_getElem? (i := 471) (by decide +kernel), rfl⟩
theorem mkJ4_1 : xIn (.methodLink RJ4 1 yJ5_init_d00df) := ⟨List.mem_of_getElem? (i := 1562) (by decide +kernel), rfl⟩
theorem mkJ4_7 : xIn (.methodLink RJ4 7 yJ5_init_a7421) := ⟨List.mem_of_getElem? (i := 340) (by decide +kernel), rfl⟩
theorem mkJ4_23 : xIn (.methodLink RJ4 23 yJ4_append_15ec4) := ⟨List.mem_of_getElem? (i := 370) (by decide +kernel), rfl⟩
theorem mkJ4_29 : xIn (.methodLink RJ4 29 yJ5_append_cf1ce) := ⟨List.mem_of_getElem? (i := 374) (by decide +kernel), rfl⟩
theorem mkJ4_50 : xIn (.methodLink RJ4 50 yJ5_append_3fe6f) := ⟨List.mem_of_getElem? (i := 509) (by decide +kernel), rfl⟩
theorem mkJ4_53 : xIn (.methodLink RJ4 53 yJ5_append_c97b9) := ⟨List.mem_of_getElem? (i := 546) (by decide +kernel), rfl⟩
theorem mkJ4_137 : xIn (.methodLink RJ4 137 yJ0_init_81219) := ⟨List.mem_of_getElem? (i := 1710) (by decide +kernel), rfl⟩
theorem mkJ4_329 : xIn (.methodLink RJ4 329 yJ5_charAt_5068e) := ⟨List.mem_of_getElem? (i := 1609) (by decide +kernel), rfl⟩
theorem mkJ4_343 : xIn (.methodLink RJ4 343 yJ5_length_8abf5) := ⟨List.mem_of_getElem? (i := 612) (by decide +kernel), rfl⟩
theorem mkJ1_9 : xIn (.methodLink RJ1 9 yJ0_checkIndex_df160) := ⟨List.mem_of_getElem? (i := 706) (by decide +kernel), rfl⟩
theorem mkJ2_126 : xIn (.methodLink RJ2 126 yJ7_copyOfRange_39247) := ⟨List.mem_of_getElem? (i := 1747) (by decide +kernel), rfl⟩
theorem mkJ2_241 : xIn (.methodLink RJ2 241 yJ0_checkBoundsBeginEnd_23922) := ⟨List.mem_of_getElem? (i := 430) (by decide +kernel), rfl⟩
theorem mkJ2_414 : xIn (.methodLink RJ2 414 yJ0_checkIndex_df160) := ⟨List.mem_of_getElem? (i := 521) (by decide +kernel), rfl⟩
theorem mkJ2_419 : xIn (.methodLink RJ2 419 yJ0_checkBoundsOffCount_cabcc) := ⟨List.mem_of_getElem? (i := 468) (by decide +kernel), rfl⟩
theorem mkJ7_47 : xIn (.methodLink RJ7 47 yJ4_init_da8c8) := ⟨List.mem_of_getElem? (i := 1735) (by decide +kernel), rfl⟩
theorem mkJ7_50 : xIn (.methodLink RJ7 50 yJ4_append_15ec4) := ⟨List.mem_of_getElem? (i := 1738) (by decide +kernel), rfl⟩
theorem mkJ7_54 : xIn (.methodLink RJ7 54 yJ4_append_bf812) := ⟨List.mem_of_getElem? (i := 1736) (by decide +kernel), rfl⟩
theorem mkJ7_61 : xIn (.methodLink RJ7 61 yJ4_toString_0e30d) := ⟨List.mem_of_getElem? (i := 1739) (by decide +kernel), rfl⟩
theorem mkJ7_304 : xIn (.methodLink RJ7 304 yJ9_min_7cf53) := ⟨List.mem_of_getElem? (i := 409) (by decide +kernel), rfl⟩
theorem mkJ7_339 : xIn (.methodLink RJ7 339 yJ7_copyOfRangeByte_39247) := ⟨List.mem_of_getElem? (i := 1727) (by decide +kernel), rfl⟩
theorem mkJ7_343 : xIn (.methodLink RJ7 343 yJ7_checkLength_df160) := ⟨List.mem_of_getElem? (i := 1730) (by decide +kernel), rfl⟩
theorem mkJ8_194 : xIn (.methodLink RJ8 194 yJ9_max_7cf53) := ⟨List.mem_of_getElem? (i := 392) (by decide +kernel), rfl⟩
theorem okX0_init : xIn (.code yX0_init cX0_init 2 none) ∧ xIn (.initialized RX0) := ⟨⟨List.mem_of_getElem? (i := 191) (by decide +kernel), rfl⟩, ⟨List.mem_of_getElem? (i := 37) (by decide +kernel), rfl⟩⟩
theorem imX0_init : xIn (.instanceMethod yX0_init) := ⟨List.mem_of_getElem? (i := 190) (by decide +kernel), rfl⟩
theorem okX0_topOf : xIn (.code yX0_topOf cX0_topOf 2 (some .int)) ∧ xIn (.initialized RX0) := ⟨⟨List.mem_of_getElem? (i := 1351) (by decide +kernel), rfl⟩, ⟨List.mem_of_getElem? (i := 37) (by decide +kernel), rfl⟩⟩
theorem imX0_topOf : xIn (.instanceMethod yX0_topOf) := ⟨List.mem_of_getElem? (i := 1349) (by decide +kernel), rfl⟩
theorem seX0_topOf : xIn (.selects RX0 yX0_topOf yX0_topOf) := ⟨List.mem_of_getElem? (i := 1350) (by decide +kernel), rfl⟩
theorem okX0_bottomOf : xIn (.code yX0_bottomOf cX0_bottomOf 2 (some .int)) ∧ xIn (.initialized RX0) := ⟨⟨List.mem_of_getElem? (i := 1360) (by decide +kernel), rfl⟩, ⟨List.mem_of_getElem? (i := 37) (by decide +kernel), rfl⟩⟩
theorem imX0_bottomOf : xIn (.instanceMethod yX0_bottomOf) := ⟨List.mem_of_getElem? (i := 1358) (by decide +kernel), rfl⟩
theorem seX0_bottomOf : xIn (.selects RX0 yX0_bottomOf yX0_bottomOf) := ⟨List.mem_of_getElem? (i := 1359) (by decide +kernel), rfl⟩
theorem okX0_firstReason : xIn (.code yX0_firstReason cX0_firstReason 1 (some .int)) ∧ xIn (.initialized RX0) := ⟨⟨List.mem_of_getElem? (i := 1376) (by decide +kernel), rfl⟩, ⟨List.mem_of_getElem? (i := 37) (by decide +kernel), rfl⟩⟩
theorem imX0_firstReason : xIn (.instanceMethod yX0_firstReason) := ⟨List.mem_of_getElem? (i := 1374) (by decide +kernel), rfl⟩
theorem seX0_firstReason : xIn (.selects RX0 yX0_firstReason yX0_firstReason) := ⟨List.mem_of_getElem? (i := 1375) (by decide +kernel), rfl⟩
theorem okX0_keepsProducts : xIn (.code yX0_keepsProducts cX0_keepsProducts 5 (some .boolean)) ∧ xIn (.initialized RX0) := ⟨⟨List.mem_of_getElem? (i := 1379) (by decide +kernel), rfl⟩, ⟨List.mem_of_getElem? (i := 37) (by decide +kernel), rfl⟩⟩
theorem stX0_keepsProducts : xIn (.static yX0_keepsProducts) := ⟨List.mem_of_getElem? (i := 1378) (by decide +kernel), rfl⟩
theorem okX0_keepsBoundaries : xIn (.code yX0_keepsBoundaries cX0_keepsBoundaries 2 (some .boolean)) ∧ xIn (.initialized RX0) := ⟨⟨List.mem_of_getElem? (i := 1384) (by decide +kernel), rfl⟩, ⟨List.mem_of_getElem? (i := 37) (by decide +kernel), rfl⟩⟩
theorem imX0_keepsBoundaries : xIn (.instanceMethod yX0_keepsBoundaries) := ⟨List.mem_of_getElem? (i := 1382) (by decide +kernel), rfl⟩
theorem seX0_keepsBoundaries : xIn (.selects RX0 yX0_keepsBoundaries yX0_keepsBoundaries) := ⟨List.mem_of_getElem? (i := 1383) (by decide +kernel), rfl⟩
theorem okX0_keepsActions : xIn (.code yX0_keepsActions cX0_keepsActions 3 (some .boolean)) ∧ xIn (.initialized RX0) := ⟨⟨List.mem_of_getElem? (i := 1391) (by decide +kernel), rfl⟩, ⟨List.mem_of_getElem? (i := 37) (by decide +kernel), rfl⟩⟩
theorem imX0_keepsActions : xIn (.instanceMethod yX0_keepsActions) := ⟨List.mem_of_getElem? (i := 1389) (by decide +kernel), rfl⟩
theorem seX0_keepsActions : xIn (.selects RX0 yX0_keepsActions yX0_keepsActions) := ⟨List.mem_of_getElem? (i := 1390) (by decide +kernel), rfl⟩
theorem okX0_joinsAlikePairs : xIn (.code yX0_joinsAlikePairs cX0_joinsAlikePairs 3 (some .boolean)) ∧ xIn (.initialized RX0) := ⟨⟨List.mem_of_getElem? (i := 1372) (by decide +kernel), rfl⟩, ⟨List.mem_of_getElem? (i := 37) (by decide +kernel), rfl⟩⟩
theorem imX0_joinsAlikePairs : xIn (.instanceMethod yX0_joinsAlikePairs) := ⟨List.mem_of_getElem? (i := 1370) (by decide +kernel), rfl⟩
theorem seX0_joinsAlikePairs : xIn (.selects RX0 yX0_joinsAlikePairs yX0_joinsAlikePairs) := ⟨List.mem_of_getElem? (i := 1371) (by decide +kernel), rfl⟩
theorem okX0_partsKernel : xIn (.code yX0_partsKernel cX0_partsKernel 4 (some .boolean)) ∧ xIn (.initialized RX0) := ⟨⟨List.mem_of_getElem? (i := 1406) (by decide +kernel), rfl⟩, ⟨List.mem_of_getElem? (i := 37) (by decide +kernel), rfl⟩⟩
theorem imX0_partsKernel : xIn (.instanceMethod yX0_partsKernel) := ⟨List.mem_of_getElem? (i := 1404) (by decide +kernel), rfl⟩
theorem seX0_partsKernel : xIn (.selects RX0 yX0_partsKernel yX0_partsKernel) := ⟨List.mem_of_getElem? (i := 1405) (by decide +kernel), rfl⟩
theorem okX0_matchesClasses : xIn (.code yX0_matchesClasses cX0_matchesClasses 6 (some .boolean)) ∧ xIn (.initialized RX0) := ⟨⟨List.mem_of_getElem? (i := 1411) (by decide +kernel), rfl⟩, ⟨List.mem_of_getElem? (i := 37) (by decide +kernel), rfl⟩⟩
theorem imX0_matchesClasses : xIn (.instanceMethod yX0_matchesClasses) := ⟨List.mem_of_getElem? (i := 1409) (by decide +kernel), rfl⟩
theorem seX0_matchesClasses : xIn (.selects RX0 yX0_matchesClasses yX0_matchesClasses) := ⟨List.mem_of_getElem? (i := 1410) (by decide +kernel), rfl⟩
theorem okX1_init : xIn (.code yX1_init cX1_init 3 none) ∧ xIn (.initialized RX1) := ⟨⟨List.mem_of_getElem? (i := 115) (by decide +kernel), rfl⟩, ⟨List.mem_of_getElem? (i := 35) (by decide +kernel), rfl⟩⟩
theorem imX1_init : xIn (.instanceMethod yX1_init) := ⟨List.mem_of_getElem? (i := 114) (by decide +kernel), rfl⟩
theorem okX1_start : xIn (.code yX1_start cX1_start 4 none) ∧ xIn (.initialized RX1) := ⟨⟨List.mem_of_getElem? (i := 996) (by decide +kernel), rfl⟩, ⟨List.mem_of_getElem? (i := 35) (by decide +kernel), rfl⟩⟩
theorem imX1_start : xIn (.instanceMethod yX1_start) := ⟨List.mem_of_getElem? (i := 994) (by decide +kernel), rfl⟩
theorem seX1_start : xIn (.selects RX1 yX1_start yX1_start) := ⟨List.mem_of_getElem? (i := 995) (by decide +kernel), rfl⟩
theorem okX1_boundaryOf : xIn (.code yX1_boundaryOf cX1_boundaryOf 2 (some .int)) ∧ xIn (.initialized RX1) := ⟨⟨List.mem_of_getElem? (i := 1060) (by decide +kernel), rfl⟩, ⟨List.mem_of_getElem? (i := 35) (by decide +kernel), rfl⟩⟩
theorem imX1_boundaryOf : xIn (.instanceMethod yX1_boundaryOf) := ⟨List.mem_of_getElem? (i := 1058) (by decide +kernel), rfl⟩
theorem seX1_boundaryOf : xIn (.selects RX1 yX1_boundaryOf yX1_boundaryOf) := ⟨List.mem_of_getElem? (i := 1059) (by decide +kernel), rfl⟩
theorem okX1_actionOf : xIn (.code yX1_actionOf cX1_actionOf 3 (some .int)) ∧ xIn (.initialized RX1) := ⟨⟨List.mem_of_getElem? (i := 1071) (by decide +kernel), rfl⟩, ⟨List.mem_of_getElem? (i := 35) (by decide +kernel), rfl⟩⟩
theorem imX1_actionOf : xIn (.instanceMethod yX1_actionOf) := ⟨List.mem_of_getElem? (i := 1069) (by decide +kernel), rfl⟩
theorem seX1_actionOf : xIn (.selects RX1 yX1_actionOf yX1_actionOf) := ⟨List.mem_of_getElem? (i := 1070) (by decide +kernel), rfl⟩
theorem okX1_replaceAction : xIn (.code yX1_replaceAction cX1_replaceAction 5 (some .int)) ∧ xIn (.initialized RX1) := ⟨⟨List.mem_of_getElem? (i := 1480) (by decide +kernel), rfl⟩, ⟨List.mem_of_getElem? (i := 35) (by decide +kernel), rfl⟩⟩
theorem imX1_replaceAction : xIn (.instanceMethod yX1_replaceAction) := ⟨List.mem_of_getElem? (i := 1478) (by decide +kernel), rfl⟩
theorem seX1_replaceAction : xIn (.selects RX1 yX1_replaceAction yX1_replaceAction) := ⟨List.mem_of_getElem? (i := 1479) (by decide +kernel), rfl⟩
theorem okX1_becomeRestful : xIn (.code yX1_becomeRestful cX1_becomeRestful 4 (some .int)) ∧ xIn (.initialized RX1) := ⟨⟨List.mem_of_getElem? (i := 1476) (by decide +kernel), rfl⟩, ⟨List.mem_of_getElem? (i := 35) (by decide +kernel), rfl⟩⟩
theorem imX1_becomeRestful : xIn (.instanceMethod yX1_becomeRestful) := ⟨List.mem_of_getElem? (i := 1474) (by decide +kernel), rfl⟩
theorem seX1_becomeRestful : xIn (.selects RX1 yX1_becomeRestful yX1_becomeRestful) := ⟨List.mem_of_getElem? (i := 1475) (by decide +kernel), rfl⟩
theorem okX1_becomeConjugation : xIn (.code yX1_becomeConjugation cX1_becomeConjugation 4 (some .int)) ∧ xIn (.initialized RX1) := ⟨⟨List.mem_of_getElem? (i := 1489) (by decide +kernel), rfl⟩, ⟨List.mem_of_getElem? (i := 35) (by decide +kernel), rfl⟩⟩
theorem imX1_becomeConjugation : xIn (.instanceMethod yX1_becomeConjugation) := ⟨List.mem_of_getElem? (i := 1487) (by decide +kernel), rfl⟩
theorem seX1_becomeConjugation : xIn (.selects RX1 yX1_becomeConjugation yX1_becomeConjugation) := ⟨List.mem_of_getElem? (i := 1488) (by decide +kernel), rfl⟩
theorem okX1_firstReason : xIn (.code yX1_firstReason cX1_firstReason 2 (some .int)) ∧ xIn (.initialized RX1) := ⟨⟨List.mem_of_getElem? (i := 1051) (by decide +kernel), rfl⟩, ⟨List.mem_of_getElem? (i := 35) (by decide +kernel), rfl⟩⟩
theorem imX1_firstReason : xIn (.instanceMethod yX1_firstReason) := ⟨List.mem_of_getElem? (i := 1049) (by decide +kernel), rfl⟩
theorem seX1_firstReason : xIn (.selects RX1 yX1_firstReason yX1_firstReason) := ⟨List.mem_of_getElem? (i := 1050) (by decide +kernel), rfl⟩
theorem okX1_boundaryKeepsProducts : xIn (.code yX1_boundaryKeepsProducts cX1_boundaryKeepsProducts 3 (some .boolean)) ∧ xIn (.initialized RX1) := ⟨⟨List.mem_of_getElem? (i := 1055) (by decide +kernel), rfl⟩, ⟨List.mem_of_getElem? (i := 35) (by decide +kernel), rfl⟩⟩
theorem imX1_boundaryKeepsProducts : xIn (.instanceMethod yX1_boundaryKeepsProducts) := ⟨List.mem_of_getElem? (i := 1053) (by decide +kernel), rfl⟩
theorem seX1_boundaryKeepsProducts : xIn (.selects RX1 yX1_boundaryKeepsProducts yX1_boundaryKeepsProducts) := ⟨List.mem_of_getElem? (i := 1054) (by decide +kernel), rfl⟩
theorem okX1_isAutomorphism : xIn (.code yX1_isAutomorphism cX1_isAutomorphism 5 (some .boolean)) ∧ xIn (.initialized RX1) := ⟨⟨List.mem_of_getElem? (i := 1067) (by decide +kernel), rfl⟩, ⟨List.mem_of_getElem? (i := 35) (by decide +kernel), rfl⟩⟩
theorem imX1_isAutomorphism : xIn (.instanceMethod yX1_isAutomorphism) := ⟨List.mem_of_getElem? (i := 1065) (by decide +kernel), rfl⟩
theorem seX1_isAutomorphism : xIn (.selects RX1 yX1_isAutomorphism yX1_isAutomorphism) := ⟨List.mem_of_getElem? (i := 1066) (by decide +kernel), rfl⟩
theorem okX1_actionKeepsProducts : xIn (.code yX1_actionKeepsProducts cX1_actionKeepsProducts 4 (some .boolean)) ∧ xIn (.initialized RX1) := ⟨⟨List.mem_of_getElem? (i := 1076) (by decide +kernel), rfl⟩, ⟨List.mem_of_getElem? (i := 35) (by decide +kernel), rfl⟩⟩
theorem imX1_actionKeepsProducts : xIn (.instanceMethod yX1_actionKeepsProducts) := ⟨List.mem_of_getElem? (i := 1074) (by decide +kernel), rfl⟩
theorem seX1_actionKeepsProducts : xIn (.selects RX1 yX1_actionKeepsProducts yX1_actionKeepsProducts) := ⟨List.mem_of_getElem? (i := 1075) (by decide +kernel), rfl⟩
theorem okX1_boundaryFollowsAction : xIn (.code yX1_boundaryFollowsAction cX1_boundaryFollowsAction 3 (some .boolean)) ∧ xIn (.initialized RX1) := ⟨⟨List.mem_of_getElem? (i := 1080) (by decide +kernel), rfl⟩, ⟨List.mem_of_getElem? (i := 35) (by decide +kernel), rfl⟩⟩
theorem imX1_boundaryFollowsAction : xIn (.instanceMethod yX1_boundaryFollowsAction) := ⟨List.mem_of_getElem? (i := 1078) (by decide +kernel), rfl⟩
theorem seX1_boundaryFollowsAction : xIn (.selects RX1 yX1_boundaryFollowsAction yX1_boundaryFollowsAction) := ⟨List.mem_of_getElem? (i := 1079) (by decide +kernel), rfl⟩
theorem okX1_boundaryActsAsConjugation : xIn (.code yX1_boundaryActsAsConjugation cX1_boundaryActsAsConjugation 3 (some .boolean)) ∧ xIn (.initialized RX1) := ⟨⟨List.mem_of_getElem? (i := 1093) (by decide +kernel), rfl⟩, ⟨List.mem_of_getElem? (i := 35) (by decide +kernel), rfl⟩⟩
theorem imX1_boundaryActsAsConjugation : xIn (.instanceMethod yX1_boundaryActsAsConjugation) := ⟨List.mem_of_getElem? (i := 1091) (by decide +kernel), rfl⟩
theorem seX1_boundaryActsAsConjugation : xIn (.selects RX1 yX1_boundaryActsAsConjugation yX1_boundaryActsAsConjugation) := ⟨List.mem_of_getElem? (i := 1092) (by decide +kernel), rfl⟩
theorem okX1_kernelSet : xIn (.code yX1_kernelSet cX1_kernelSet 3 (some .int)) ∧ xIn (.initialized RX1) := ⟨⟨List.mem_of_getElem? (i := 1396) (by decide +kernel), rfl⟩, ⟨List.mem_of_getElem? (i := 35) (by decide +kernel), rfl⟩⟩
theorem imX1_kernelSet : xIn (.instanceMethod yX1_kernelSet) := ⟨List.mem_of_getElem? (i := 1394) (by decide +kernel), rfl⟩
theorem seX1_kernelSet : xIn (.selects RX1 yX1_kernelSet yX1_kernelSet) := ⟨List.mem_of_getElem? (i := 1395) (by decide +kernel), rfl⟩
theorem okX1_imageSet : xIn (.code yX1_imageSet cX1_imageSet 3 (some .int)) ∧ xIn (.initialized RX1) := ⟨⟨List.mem_of_getElem? (i := 1652) (by decide +kernel), rfl⟩, ⟨List.mem_of_getElem? (i := 35) (by decide +kernel), rfl⟩⟩
theorem imX1_imageSet : xIn (.instanceMethod yX1_imageSet) := ⟨List.mem_of_getElem? (i := 1650) (by decide +kernel), rfl⟩
theorem seX1_imageSet : xIn (.selects RX1 yX1_imageSet yX1_imageSet) := ⟨List.mem_of_getElem? (i := 1651) (by decide +kernel), rfl⟩
theorem okX1_stabilizer : xIn (.code yX1_stabilizer cX1_stabilizer 4 (some .int)) ∧ xIn (.initialized RX1) := ⟨⟨List.mem_of_getElem? (i := 1627) (by decide +kernel), rfl⟩, ⟨List.mem_of_getElem? (i := 35) (by decide +kernel), rfl⟩⟩
theorem imX1_stabilizer : xIn (.instanceMethod yX1_stabilizer) := ⟨List.mem_of_getElem? (i := 1625) (by decide +kernel), rfl⟩
theorem seX1_stabilizer : xIn (.selects RX1 yX1_stabilizer yX1_stabilizer) := ⟨List.mem_of_getElem? (i := 1626) (by decide +kernel), rfl⟩
theorem okX1_orbitSet : xIn (.code yX1_orbitSet cX1_orbitSet 4 (some .int)) ∧ xIn (.initialized RX1) := ⟨⟨List.mem_of_getElem? (i := 1635) (by decide +kernel), rfl⟩, ⟨List.mem_of_getElem? (i := 35) (by decide +kernel), rfl⟩⟩
theorem imX1_orbitSet : xIn (.instanceMethod yX1_orbitSet) := ⟨List.mem_of_getElem? (i := 1633) (by decide +kernel), rfl⟩
theorem seX1_orbitSet : xIn (.selects RX1 yX1_orbitSet yX1_orbitSet) := ⟨List.mem_of_getElem? (i := 1634) (by decide +kernel), rfl⟩
theorem okX1_freshPair : xIn (.code yX1_freshPair cX1_freshPair 1 (some (.object "CrossedModules$Pair"))) ∧ xIn (.initialized RX1) := ⟨⟨List.mem_of_getElem? (i := 1214) (by decide +kernel), rfl⟩, ⟨List.mem_of_getElem? (i := 35) (by decide +kernel), rfl⟩⟩
theorem imX1_freshPair : xIn (.instanceMethod yX1_freshPair) := ⟨List.mem_of_getElem? (i := 1212) (by decide +kernel), rfl⟩
theorem seX1_freshPair : xIn (.selects RX1 yX1_freshPair yX1_freshPair) := ⟨List.mem_of_getElem? (i := 1213) (by decide +kernel), rfl⟩
theorem okX1_hasLarge : xIn (.code yX1_hasLarge cX1_hasLarge 2 (some .boolean)) ∧ xIn (.initialized RX1) := ⟨⟨List.mem_of_getElem? (i := 1299) (by decide +kernel), rfl⟩, ⟨List.mem_of_getElem? (i := 35) (by decide +kernel), rfl⟩⟩
theorem imX1_hasLarge : xIn (.instanceMethod yX1_hasLarge) := ⟨List.mem_of_getElem? (i := 1297) (by decide +kernel), rfl⟩
theorem seX1_hasLarge : xIn (.selects RX1 yX1_hasLarge yX1_hasLarge) := ⟨List.mem_of_getElem? (i := 1298) (by decide +kernel), rfl⟩
theorem okX1_upperPart : xIn (.code yX1_upperPart cX1_upperPart 2 (some .int)) ∧ xIn (.initialized RX1) := ⟨⟨List.mem_of_getElem? (i := 1311) (by decide +kernel), rfl⟩, ⟨List.mem_of_getElem? (i := 35) (by decide +kernel), rfl⟩⟩
theorem imX1_upperPart : xIn (.instanceMethod yX1_upperPart) := ⟨List.mem_of_getElem? (i := 1309) (by decide +kernel), rfl⟩
theorem seX1_upperPart : xIn (.selects RX1 yX1_upperPart yX1_upperPart) := ⟨List.mem_of_getElem? (i := 1310) (by decide +kernel), rfl⟩
theorem okX1_lowerPart : xIn (.code yX1_lowerPart cX1_lowerPart 2 (some .int)) ∧ xIn (.initialized RX1) := ⟨⟨List.mem_of_getElem? (i := 1307) (by decide +kernel), rfl⟩, ⟨List.mem_of_getElem? (i := 35) (by decide +kernel), rfl⟩⟩
theorem imX1_lowerPart : xIn (.instanceMethod yX1_lowerPart) := ⟨List.mem_of_getElem? (i := 1305) (by decide +kernel), rfl⟩
theorem seX1_lowerPart : xIn (.selects RX1 yX1_lowerPart yX1_lowerPart) := ⟨List.mem_of_getElem? (i := 1306) (by decide +kernel), rfl⟩
theorem okX1_largeProduct : xIn (.code yX1_largeProduct cX1_largeProduct 5 (some .int)) ∧ xIn (.initialized RX1) := ⟨⟨List.mem_of_getElem? (i := 1303) (by decide +kernel), rfl⟩, ⟨List.mem_of_getElem? (i := 35) (by decide +kernel), rfl⟩⟩
theorem imX1_largeProduct : xIn (.instanceMethod yX1_largeProduct) := ⟨List.mem_of_getElem? (i := 1301) (by decide +kernel), rfl⟩
theorem seX1_largeProduct : xIn (.selects RX1 yX1_largeProduct yX1_largeProduct) := ⟨List.mem_of_getElem? (i := 1302) (by decide +kernel), rfl⟩
theorem okX1_largePeriod : xIn (.code yX1_largePeriod cX1_largePeriod 4 (some .int)) ∧ xIn (.initialized RX1) := ⟨⟨List.mem_of_getElem? (i := 1329) (by decide +kernel), rfl⟩, ⟨List.mem_of_getElem? (i := 35) (by decide +kernel), rfl⟩⟩
theorem imX1_largePeriod : xIn (.instanceMethod yX1_largePeriod) := ⟨List.mem_of_getElem? (i := 1327) (by decide +kernel), rfl⟩
theorem seX1_largePeriod : xIn (.selects RX1 yX1_largePeriod yX1_largePeriod) := ⟨List.mem_of_getElem? (i := 1328) (by decide +kernel), rfl⟩
theorem okX1_targetOf : xIn (.code yX1_targetOf cX1_targetOf 3 (some .int)) ∧ xIn (.initialized RX1) := ⟨⟨List.mem_of_getElem? (i := 1321) (by decide +kernel), rfl⟩, ⟨List.mem_of_getElem? (i := 35) (by decide +kernel), rfl⟩⟩
theorem imX1_targetOf : xIn (.instanceMethod yX1_targetOf) := ⟨List.mem_of_getElem? (i := 1319) (by decide +kernel), rfl⟩
theorem seX1_targetOf : xIn (.selects RX1 yX1_targetOf yX1_targetOf) := ⟨List.mem_of_getElem? (i := 1320) (by decide +kernel), rfl⟩
theorem okX1_countBetween : xIn (.code yX1_countBetween cX1_countBetween 5 (some .int)) ∧ xIn (.initialized RX1) := ⟨⟨List.mem_of_getElem? (i := 1338) (by decide +kernel), rfl⟩, ⟨List.mem_of_getElem? (i := 35) (by decide +kernel), rfl⟩⟩
theorem imX1_countBetween : xIn (.instanceMethod yX1_countBetween) := ⟨List.mem_of_getElem? (i := 1336) (by decide +kernel), rfl⟩
theorem seX1_countBetween : xIn (.selects RX1 yX1_countBetween yX1_countBetween) := ⟨List.mem_of_getElem? (i := 1337) (by decide +kernel), rfl⟩
theorem okX2_init : xIn (.code yX2_init cX2_init 2 none) ∧ xIn (.initialized RX2) := ⟨⟨List.mem_of_getElem? (i := 91) (by decide +kernel), rfl⟩, ⟨List.mem_of_getElem? (i := 34) (by decide +kernel), rfl⟩⟩
theorem imX2_init : xIn (.instanceMethod yX2_init) := ⟨List.mem_of_getElem? (i := 90) (by decide +kernel), rfl⟩
theorem okX2_has : xIn (.code yX2_has cX2_has 2 (some .boolean)) ∧ xIn (.initialized RX2) := ⟨⟨List.mem_of_getElem? (i := 1166) (by decide +kernel), rfl⟩, ⟨List.mem_of_getElem? (i := 34) (by decide +kernel), rfl⟩⟩
theorem imX2_has : xIn (.instanceMethod yX2_has) := ⟨List.mem_of_getElem? (i := 1164) (by decide +kernel), rfl⟩
theorem seX2_has : xIn (.selects RX2 yX2_has yX2_has) := ⟨List.mem_of_getElem? (i := 1165) (by decide +kernel), rfl⟩
theorem okX2_hasAll : xIn (.code yX2_hasAll cX2_hasAll 2 (some .boolean)) ∧ xIn (.initialized RX2) := ⟨⟨List.mem_of_getElem? (i := 1175) (by decide +kernel), rfl⟩, ⟨List.mem_of_getElem? (i := 34) (by decide +kernel), rfl⟩⟩
theorem imX2_hasAll : xIn (.instanceMethod yX2_hasAll) := ⟨List.mem_of_getElem? (i := 1173) (by decide +kernel), rfl⟩
theorem seX2_hasAll : xIn (.selects RX2 yX2_hasAll yX2_hasAll) := ⟨List.mem_of_getElem? (i := 1174) (by decide +kernel), rfl⟩
theorem okX2_product : xIn (.code yX2_product cX2_product 4 (some .int)) ∧ xIn (.initialized RX2) := ⟨⟨List.mem_of_getElem? (i := 987) (by decide +kernel), rfl⟩, ⟨List.mem_of_getElem? (i := 34) (by decide +kernel), rfl⟩⟩
theorem imX2_product : xIn (.instanceMethod yX2_product) := ⟨List.mem_of_getElem? (i := 985) (by decide +kernel), rfl⟩
theorem seX2_product : xIn (.selects RX2 yX2_product yX2_product) := ⟨List.mem_of_getElem? (i := 986) (by decide +kernel), rfl⟩
theorem okX2_setProduct : xIn (.code yX2_setProduct cX2_setProduct 5 none) ∧ xIn (.initialized RX2) := ⟨⟨List.mem_of_getElem? (i := 942) (by decide +kernel), rfl⟩, ⟨List.mem_of_getElem? (i := 34) (by decide +kernel), rfl⟩⟩
theorem imX2_setProduct : xIn (.instanceMethod yX2_setProduct) := ⟨List.mem_of_getElem? (i := 940) (by decide +kernel), rfl⟩
theorem seX2_setProduct : xIn (.selects RX2 yX2_setProduct yX2_setProduct) := ⟨List.mem_of_getElem? (i := 941) (by decide +kernel), rfl⟩
theorem okX2_opposite : xIn (.code yX2_opposite cX2_opposite 2 (some .int)) ∧ xIn (.initialized RX2) := ⟨⟨List.mem_of_getElem? (i := 1088) (by decide +kernel), rfl⟩, ⟨List.mem_of_getElem? (i := 34) (by decide +kernel), rfl⟩⟩
theorem imX2_opposite : xIn (.instanceMethod yX2_opposite) := ⟨List.mem_of_getElem? (i := 1086) (by decide +kernel), rfl⟩
theorem seX2_opposite : xIn (.selects RX2 yX2_opposite yX2_opposite) := ⟨List.mem_of_getElem? (i := 1087) (by decide +kernel), rfl⟩
theorem okX2_conjugateBy : xIn (.code yX2_conjugateBy cX2_conjugateBy 3 (some .int)) ∧ xIn (.initialized RX2) := ⟨⟨List.mem_of_getElem? (i := 1084) (by decide +kernel), rfl⟩, ⟨List.mem_of_getElem? (i := 34) (by decide +kernel), rfl⟩⟩
theorem imX2_conjugateBy : xIn (.instanceMethod yX2_conjugateBy) := ⟨List.mem_of_getElem? (i := 1082) (by decide +kernel), rfl⟩
theorem seX2_conjugateBy : xIn (.selects RX2 yX2_conjugateBy yX2_conjugateBy) := ⟨List.mem_of_getElem? (i := 1083) (by decide +kernel), rfl⟩
theorem okX2_becomeCyclic : xIn (.code yX2_becomeCyclic cX2_becomeCyclic 4 none) ∧ xIn (.initialized RX2) := ⟨⟨List.mem_of_getElem? (i := 935) (by decide +kernel), rfl⟩, ⟨List.mem_of_getElem? (i := 34) (by decide +kernel), rfl⟩⟩
theorem imX2_becomeCyclic : xIn (.instanceMethod yX2_becomeCyclic) := ⟨List.mem_of_getElem? (i := 933) (by decide +kernel), rfl⟩
theorem seX2_becomeCyclic : xIn (.selects RX2 yX2_becomeCyclic yX2_becomeCyclic) := ⟨List.mem_of_getElem? (i := 934) (by decide +kernel), rfl⟩
theorem okX2_becomeDihedral : xIn (.code yX2_becomeDihedral cX2_becomeDihedral 6 none) ∧ xIn (.initialized RX2) := ⟨⟨List.mem_of_getElem? (i := 951) (by decide +kernel), rfl⟩, ⟨List.mem_of_getElem? (i := 34) (by decide +kernel), rfl⟩⟩
theorem imX2_becomeDihedral : xIn (.instanceMethod yX2_becomeDihedral) := ⟨List.mem_of_getElem? (i := 949) (by decide +kernel), rfl⟩
theorem seX2_becomeDihedral : xIn (.selects RX2 yX2_becomeDihedral yX2_becomeDihedral) := ⟨List.mem_of_getElem? (i := 950) (by decide +kernel), rfl⟩
theorem okX2_becomeQuaternion : xIn (.code yX2_becomeQuaternion cX2_becomeQuaternion 3 none) ∧ xIn (.initialized RX2) := ⟨⟨List.mem_of_getElem? (i := 960) (by decide +kernel), rfl⟩, ⟨List.mem_of_getElem? (i := 34) (by decide +kernel), rfl⟩⟩
theorem imX2_becomeQuaternion : xIn (.instanceMethod yX2_becomeQuaternion) := ⟨List.mem_of_getElem? (i := 958) (by decide +kernel), rfl⟩
theorem seX2_becomeQuaternion : xIn (.selects RX2 yX2_becomeQuaternion yX2_becomeQuaternion) := ⟨List.mem_of_getElem? (i := 959) (by decide +kernel), rfl⟩
theorem okX2_productOfUnits : xIn (.code yX2_productOfUnits cX2_productOfUnits 4 (some .int)) ∧ xIn (.initialized RX2) := ⟨⟨List.mem_of_getElem? (i := 963) (by decide +kernel), rfl⟩, ⟨List.mem_of_getElem? (i := 34) (by decide +kernel), rfl⟩⟩
theorem stX2_productOfUnits : xIn (.static yX2_productOfUnits) := ⟨List.mem_of_getElem? (i := 962) (by decide +kernel), rfl⟩
theorem okX2_becomeProduct : xIn (.code yX2_becomeProduct cX2_becomeProduct 8 none) ∧ xIn (.initialized RX2) := ⟨⟨List.mem_of_getElem? (i := 980) (by decide +kernel), rfl⟩, ⟨List.mem_of_getElem? (i := 34) (by decide +kernel), rfl⟩⟩
theorem imX2_becomeProduct : xIn (.instanceMethod yX2_becomeProduct) := ⟨List.mem_of_getElem? (i := 978) (by decide +kernel), rfl⟩
theorem seX2_becomeProduct : xIn (.selects RX2 yX2_becomeProduct yX2_becomeProduct) := ⟨List.mem_of_getElem? (i := 979) (by decide +kernel), rfl⟩
theorem okX2_findOpposites : xIn (.code yX2_findOpposites cX2_findOpposites 3 none) ∧ xIn (.initialized RX2) := ⟨⟨List.mem_of_getElem? (i := 1046) (by decide +kernel), rfl⟩, ⟨List.mem_of_getElem? (i := 34) (by decide +kernel), rfl⟩⟩
theorem imX2_findOpposites : xIn (.instanceMethod yX2_findOpposites) := ⟨List.mem_of_getElem? (i := 1044) (by decide +kernel), rfl⟩
theorem seX2_findOpposites : xIn (.selects RX2 yX2_findOpposites yX2_findOpposites) := ⟨List.mem_of_getElem? (i := 1045) (by decide +kernel), rfl⟩
theorem okX2_period : xIn (.code yX2_period cX2_period 4 (some .int)) ∧ xIn (.initialized RX2) := ⟨⟨List.mem_of_getElem? (i := 1235) (by decide +kernel), rfl⟩, ⟨List.mem_of_getElem? (i := 34) (by decide +kernel), rfl⟩⟩
theorem imX2_period : xIn (.instanceMethod yX2_period) := ⟨List.mem_of_getElem? (i := 1233) (by decide +kernel), rfl⟩
theorem seX2_period : xIn (.selects RX2 yX2_period yX2_period) := ⟨List.mem_of_getElem? (i := 1234) (by decide +kernel), rfl⟩
theorem okX2_middle : xIn (.code yX2_middle cX2_middle 5 (some .int)) ∧ xIn (.initialized RX2) := ⟨⟨List.mem_of_getElem? (i := 1592) (by decide +kernel), rfl⟩, ⟨List.mem_of_getElem? (i := 34) (by decide +kernel), rfl⟩⟩
theorem imX2_middle : xIn (.instanceMethod yX2_middle) := ⟨List.mem_of_getElem? (i := 1590) (by decide +kernel), rfl⟩
theorem seX2_middle : xIn (.selects RX2 yX2_middle yX2_middle) := ⟨List.mem_of_getElem? (i := 1591) (by decide +kernel), rfl⟩
theorem okX2_closure : xIn (.code yX2_closure cX2_closure 5 (some .int)) ∧ xIn (.initialized RX2) := ⟨⟨List.mem_of_getElem? (i := 1179) (by decide +kernel), rfl⟩, ⟨List.mem_of_getElem? (i := 34) (by decide +kernel), rfl⟩⟩
theorem imX2_closure : xIn (.instanceMethod yX2_closure) := ⟨List.mem_of_getElem? (i := 1177) (by decide +kernel), rfl⟩
theorem seX2_closure : xIn (.selects RX2 yX2_closure yX2_closure) := ⟨List.mem_of_getElem? (i := 1178) (by decide +kernel), rfl⟩
theorem okX2_productsWithin : xIn (.code yX2_productsWithin cX2_productsWithin 5 (some .int)) ∧ xIn (.initialized RX2) := ⟨⟨List.mem_of_getElem? (i := 1183) (by decide +kernel), rfl⟩, ⟨List.mem_of_getElem? (i := 34) (by decide +kernel), rfl⟩⟩
theorem imX2_productsWithin : xIn (.instanceMethod yX2_productsWithin) := ⟨List.mem_of_getElem? (i := 1181) (by decide +kernel), rfl⟩
theorem seX2_productsWithin : xIn (.selects RX2 yX2_productsWithin yX2_productsWithin) := ⟨List.mem_of_getElem? (i := 1182) (by decide +kernel), rfl⟩
theorem okX3_init : xIn (.code yX3_init cX3_init 2 none) ∧ xIn (.initialized RX3) := ⟨⟨List.mem_of_getElem? (i := 64) (by decide +kernel), rfl⟩, ⟨List.mem_of_getElem? (i := 33) (by decide +kernel), rfl⟩⟩
theorem imX3_init : xIn (.instanceMethod yX3_init) := ⟨List.mem_of_getElem? (i := 63) (by decide +kernel), rfl⟩
theorem okX3_isFull : xIn (.code yX3_isFull cX3_isFull 1 (some .boolean)) ∧ xIn (.initialized RX3) := ⟨⟨List.mem_of_getElem? (i := 910) (by decide +kernel), rfl⟩, ⟨List.mem_of_getElem? (i := 33) (by decide +kernel), rfl⟩⟩
theorem imX3_isFull : xIn (.instanceMethod yX3_isFull) := ⟨List.mem_of_getElem? (i := 908) (by decide +kernel), rfl⟩
theorem seX3_isFull : xIn (.selects RX3 yX3_isFull yX3_isFull) := ⟨List.mem_of_getElem? (i := 909) (by decide +kernel), rfl⟩
theorem okX3_has : xIn (.code yX3_has cX3_has 2 (some .boolean)) ∧ xIn (.initialized RX3) := ⟨⟨List.mem_of_getElem? (i := 1142) (by decide +kernel), rfl⟩, ⟨List.mem_of_getElem? (i := 33) (by decide +kernel), rfl⟩⟩
theorem imX3_has : xIn (.instanceMethod yX3_has) := ⟨List.mem_of_getElem? (i := 1140) (by decide +kernel), rfl⟩
theorem seX3_has : xIn (.selects RX3 yX3_has yX3_has) := ⟨List.mem_of_getElem? (i := 1141) (by decide +kernel), rfl⟩
theorem okX3_lengthOf : xIn (.code yX3_lengthOf cX3_lengthOf 2 (some .int)) ∧ xIn (.initialized RX3) := ⟨⟨List.mem_of_getElem? (i := 1146) (by decide +kernel), rfl⟩, ⟨List.mem_of_getElem? (i := 33) (by decide +kernel), rfl⟩⟩
theorem imX3_lengthOf : xIn (.instanceMethod yX3_lengthOf) := ⟨List.mem_of_getElem? (i := 1144) (by decide +kernel), rfl⟩
theorem seX3_lengthOf : xIn (.selects RX3 yX3_lengthOf yX3_lengthOf) := ⟨List.mem_of_getElem? (i := 1145) (by decide +kernel), rfl⟩
theorem okX3_letterOf : xIn (.code yX3_letterOf cX3_letterOf 4 (some .int)) ∧ xIn (.initialized RX3) := ⟨⟨List.mem_of_getElem? (i := 1151) (by decide +kernel), rfl⟩, ⟨List.mem_of_getElem? (i := 33) (by decide +kernel), rfl⟩⟩
theorem imX3_letterOf : xIn (.instanceMethod yX3_letterOf) := ⟨List.mem_of_getElem? (i := 1149) (by decide +kernel), rfl⟩
theorem seX3_letterOf : xIn (.selects RX3 yX3_letterOf yX3_letterOf) := ⟨List.mem_of_getElem? (i := 1150) (by decide +kernel), rfl⟩
theorem okX3_numberOf : xIn (.code yX3_numberOf cX3_numberOf 4 (some .int)) ∧ xIn (.initialized RX3) := ⟨⟨List.mem_of_getElem? (i := 914) (by decide +kernel), rfl⟩, ⟨List.mem_of_getElem? (i := 33) (by decide +kernel), rfl⟩⟩
theorem imX3_numberOf : xIn (.instanceMethod yX3_numberOf) := ⟨List.mem_of_getElem? (i := 912) (by decide +kernel), rfl⟩
theorem seX3_numberOf : xIn (.selects RX3 yX3_numberOf yX3_numberOf) := ⟨List.mem_of_getElem? (i := 913) (by decide +kernel), rfl⟩
theorem okX3_noteNext : xIn (.code yX3_noteNext cX3_noteNext 4 none) ∧ xIn (.initialized RX3) := ⟨⟨List.mem_of_getElem? (i := 918) (by decide +kernel), rfl⟩, ⟨List.mem_of_getElem? (i := 33) (by decide +kernel), rfl⟩⟩
theorem imX3_noteNext : xIn (.instanceMethod yX3_noteNext) := ⟨List.mem_of_getElem? (i := 916) (by decide +kernel), rfl⟩
theorem seX3_noteNext : xIn (.selects RX3 yX3_noteNext yX3_noteNext) := ⟨List.mem_of_getElem? (i := 917) (by decide +kernel), rfl⟩
theorem okX4_init : xIn (.code yX4_init cX4_init 1 none) ∧ xIn (.initialized RX4) := ⟨⟨List.mem_of_getElem? (i := 121) (by decide +kernel), rfl⟩, ⟨List.mem_of_getElem? (i := 36) (by decide +kernel), rfl⟩⟩
theorem imX4_init : xIn (.instanceMethod yX4_init) := ⟨List.mem_of_getElem? (i := 120) (by decide +kernel), rfl⟩
theorem okX4_has : xIn (.code yX4_has cX4_has 2 (some .boolean)) ∧ xIn (.initialized RX4) := ⟨⟨List.mem_of_getElem? (i := 1259) (by decide +kernel), rfl⟩, ⟨List.mem_of_getElem? (i := 36) (by decide +kernel), rfl⟩⟩
theorem imX4_has : xIn (.instanceMethod yX4_has) := ⟨List.mem_of_getElem? (i := 1257) (by decide +kernel), rfl⟩
theorem seX4_has : xIn (.selects RX4 yX4_has yX4_has) := ⟨List.mem_of_getElem? (i := 1258) (by decide +kernel), rfl⟩
theorem okX4_classHolding : xIn (.code yX4_classHolding cX4_classHolding 2 (some .int)) ∧ xIn (.initialized RX4) := ⟨⟨List.mem_of_getElem? (i := 1223) (by decide +kernel), rfl⟩, ⟨List.mem_of_getElem? (i := 36) (by decide +kernel), rfl⟩⟩
theorem imX4_classHolding : xIn (.instanceMethod yX4_classHolding) := ⟨List.mem_of_getElem? (i := 1221) (by decide +kernel), rfl⟩
theorem seX4_classHolding : xIn (.selects RX4 yX4_classHolding yX4_classHolding) := ⟨List.mem_of_getElem? (i := 1222) (by decide +kernel), rfl⟩
theorem okX4_leastOf : xIn (.code yX4_leastOf cX4_leastOf 2 (some .int)) ∧ xIn (.initialized RX4) := ⟨⟨List.mem_of_getElem? (i := 1268) (by decide +kernel), rfl⟩, ⟨List.mem_of_getElem? (i := 36) (by decide +kernel), rfl⟩⟩
theorem imX4_leastOf : xIn (.instanceMethod yX4_leastOf) := ⟨List.mem_of_getElem? (i := 1266) (by decide +kernel), rfl⟩
theorem seX4_leastOf : xIn (.selects RX4 yX4_leastOf yX4_leastOf) := ⟨List.mem_of_getElem? (i := 1267) (by decide +kernel), rfl⟩
theorem okX4_product : xIn (.code yX4_product cX4_product 4 (some .int)) ∧ xIn (.initialized RX4) := ⟨⟨List.mem_of_getElem? (i := 1246) (by decide +kernel), rfl⟩, ⟨List.mem_of_getElem? (i := 36) (by decide +kernel), rfl⟩⟩
theorem imX4_product : xIn (.instanceMethod yX4_product) := ⟨List.mem_of_getElem? (i := 1244) (by decide +kernel), rfl⟩
theorem seX4_product : xIn (.selects RX4 yX4_product yX4_product) := ⟨List.mem_of_getElem? (i := 1245) (by decide +kernel), rfl⟩
theorem okX4_period : xIn (.code yX4_period cX4_period 5 (some .int)) ∧ xIn (.initialized RX4) := ⟨⟨List.mem_of_getElem? (i := 1242) (by decide +kernel), rfl⟩, ⟨List.mem_of_getElem? (i := 36) (by decide +kernel), rfl⟩⟩
theorem imX4_period : xIn (.instanceMethod yX4_period) := ⟨List.mem_of_getElem? (i := 1240) (by decide +kernel), rfl⟩
theorem seX4_period : xIn (.selects RX4 yX4_period yX4_period) := ⟨List.mem_of_getElem? (i := 1241) (by decide +kernel), rfl⟩
theorem okX4_sortClasses : xIn (.code yX4_sortClasses cX4_sortClasses 4 none) ∧ xIn (.initialized RX4) := ⟨⟨List.mem_of_getElem? (i := 1218) (by decide +kernel), rfl⟩, ⟨List.mem_of_getElem? (i := 36) (by decide +kernel), rfl⟩⟩
theorem imX4_sortClasses : xIn (.instanceMethod yX4_sortClasses) := ⟨List.mem_of_getElem? (i := 1216) (by decide +kernel), rfl⟩
theorem seX4_sortClasses : xIn (.selects RX4 yX4_sortClasses yX4_sortClasses) := ⟨List.mem_of_getElem? (i := 1217) (by decide +kernel), rfl⟩
theorem okX4_countOrders : xIn (.code yX4_countOrders cX4_countOrders 3 none) ∧ xIn (.initialized RX4) := ⟨⟨List.mem_of_getElem? (i := 1231) (by decide +kernel), rfl⟩, ⟨List.mem_of_getElem? (i := 36) (by decide +kernel), rfl⟩⟩
theorem imX4_countOrders : xIn (.instanceMethod yX4_countOrders) := ⟨List.mem_of_getElem? (i := 1229) (by decide +kernel), rfl⟩
theorem seX4_countOrders : xIn (.selects RX4 yX4_countOrders yX4_countOrders) := ⟨List.mem_of_getElem? (i := 1230) (by decide +kernel), rfl⟩
theorem okX4_addOne : xIn (.code yX4_addOne cX4_addOne 2 none) ∧ xIn (.initialized RX4) := ⟨⟨List.mem_of_getElem? (i := 1238) (by decide +kernel), rfl⟩, ⟨List.mem_of_getElem? (i := 36) (by decide +kernel), rfl⟩⟩
theorem stX4_addOne : xIn (.static yX4_addOne) := ⟨List.mem_of_getElem? (i := 1237) (by decide +kernel), rfl⟩
theorem okX4_matches : xIn (.code yX4_matches cX4_matches 4 (some .boolean)) ∧ xIn (.initialized RX4) := ⟨⟨List.mem_of_getElem? (i := 1281) (by decide +kernel), rfl⟩, ⟨List.mem_of_getElem? (i := 36) (by decide +kernel), rfl⟩⟩
theorem imX4_matches : xIn (.instanceMethod yX4_matches) := ⟨List.mem_of_getElem? (i := 1279) (by decide +kernel), rfl⟩
theorem seX4_matches : xIn (.selects RX4 yX4_matches yX4_matches) := ⟨List.mem_of_getElem? (i := 1280) (by decide +kernel), rfl⟩
theorem okX5_init : xIn (.code yX5_init cX5_init 3 none) ∧ xIn (.initialized RX5) := ⟨⟨List.mem_of_getElem? (i := 839) (by decide +kernel), rfl⟩, ⟨List.mem_of_getElem? (i := 44) (by decide +kernel), rfl⟩⟩
theorem imX5_init : xIn (.instanceMethod yX5_init) := ⟨List.mem_of_getElem? (i := 838) (by decide +kernel), rfl⟩
theorem okX5_refuse : xIn (.code yX5_refuse cX5_refuse 2 (some .boolean)) ∧ xIn (.initialized RX5) := ⟨⟨List.mem_of_getElem? (i := 893) (by decide +kernel), rfl⟩, ⟨List.mem_of_getElem? (i := 44) (by decide +kernel), rfl⟩⟩
theorem imX5_refuse : xIn (.instanceMethod yX5_refuse) := ⟨List.mem_of_getElem? (i := 891) (by decide +kernel), rfl⟩
theorem seX5_refuse : xIn (.selects RX5 yX5_refuse yX5_refuse) := ⟨List.mem_of_getElem? (i := 892) (by decide +kernel), rfl⟩
theorem okX5_readText : xIn (.code yX5_readText cX5_readText 2 (some .boolean)) ∧ xIn (.initialized RX5) := ⟨⟨List.mem_of_getElem? (i := 859) (by decide +kernel), rfl⟩, ⟨List.mem_of_getElem? (i := 44) (by decide +kernel), rfl⟩⟩
theorem imX5_readText : xIn (.instanceMethod yX5_readText) := ⟨List.mem_of_getElem? (i := 857) (by decide +kernel), rfl⟩
theorem seX5_readText : xIn (.selects RX5 yX5_readText yX5_readText) := ⟨List.mem_of_getElem? (i := 858) (by decide +kernel), rfl⟩
theorem okX5_readLine : xIn (.code yX5_readLine cX5_readLine 1 (some .boolean)) ∧ xIn (.initialized RX5) := ⟨⟨List.mem_of_getElem? (i := 897) (by decide +kernel), rfl⟩, ⟨List.mem_of_getElem? (i := 44) (by decide +kernel), rfl⟩⟩
theorem imX5_readLine : xIn (.instanceMethod yX5_readLine) := ⟨List.mem_of_getElem? (i := 895) (by decide +kernel), rfl⟩
theorem seX5_readLine : xIn (.selects RX5 yX5_readLine yX5_readLine) := ⟨List.mem_of_getElem? (i := 896) (by decide +kernel), rfl⟩
theorem okX5_readGroup : xIn (.code yX5_readGroup cX5_readGroup 4 (some .boolean)) ∧ xIn (.initialized RX5) := ⟨⟨List.mem_of_getElem? (i := 902) (by decide +kernel), rfl⟩, ⟨List.mem_of_getElem? (i := 44) (by decide +kernel), rfl⟩⟩
theorem imX5_readGroup : xIn (.instanceMethod yX5_readGroup) := ⟨List.mem_of_getElem? (i := 900) (by decide +kernel), rfl⟩
theorem seX5_readGroup : xIn (.selects RX5 yX5_readGroup yX5_readGroup) := ⟨List.mem_of_getElem? (i := 901) (by decide +kernel), rfl⟩
theorem okX5_readCyclic : xIn (.code yX5_readCyclic cX5_readCyclic 2 (some .boolean)) ∧ xIn (.initialized RX5) := ⟨⟨List.mem_of_getElem? (i := 926) (by decide +kernel), rfl⟩, ⟨List.mem_of_getElem? (i := 44) (by decide +kernel), rfl⟩⟩
theorem imX5_readCyclic : xIn (.instanceMethod yX5_readCyclic) := ⟨List.mem_of_getElem? (i := 924) (by decide +kernel), rfl⟩
theorem seX5_readCyclic : xIn (.selects RX5 yX5_readCyclic yX5_readCyclic) := ⟨List.mem_of_getElem? (i := 925) (by decide +kernel), rfl⟩
theorem okX5_readDihedral : xIn (.code yX5_readDihedral cX5_readDihedral 2 (some .boolean)) ∧ xIn (.initialized RX5) := ⟨⟨List.mem_of_getElem? (i := 947) (by decide +kernel), rfl⟩, ⟨List.mem_of_getElem? (i := 44) (by decide +kernel), rfl⟩⟩
theorem imX5_readDihedral : xIn (.instanceMethod yX5_readDihedral) := ⟨List.mem_of_getElem? (i := 945) (by decide +kernel), rfl⟩
theorem seX5_readDihedral : xIn (.selects RX5 yX5_readDihedral yX5_readDihedral) := ⟨List.mem_of_getElem? (i := 946) (by decide +kernel), rfl⟩
theorem okX5_readQuaternion : xIn (.code yX5_readQuaternion cX5_readQuaternion 2 (some .boolean)) ∧ xIn (.initialized RX5) := ⟨⟨List.mem_of_getElem? (i := 956) (by decide +kernel), rfl⟩, ⟨List.mem_of_getElem? (i := 44) (by decide +kernel), rfl⟩⟩
theorem imX5_readQuaternion : xIn (.instanceMethod yX5_readQuaternion) := ⟨List.mem_of_getElem? (i := 954) (by decide +kernel), rfl⟩
theorem seX5_readQuaternion : xIn (.selects RX5 yX5_readQuaternion yX5_readQuaternion) := ⟨List.mem_of_getElem? (i := 955) (by decide +kernel), rfl⟩
theorem okX5_readProduct : xIn (.code yX5_readProduct cX5_readProduct 4 (some .boolean)) ∧ xIn (.initialized RX5) := ⟨⟨List.mem_of_getElem? (i := 968) (by decide +kernel), rfl⟩, ⟨List.mem_of_getElem? (i := 44) (by decide +kernel), rfl⟩⟩
theorem imX5_readProduct : xIn (.instanceMethod yX5_readProduct) := ⟨List.mem_of_getElem? (i := 966) (by decide +kernel), rfl⟩
theorem seX5_readProduct : xIn (.selects RX5 yX5_readProduct yX5_readProduct) := ⟨List.mem_of_getElem? (i := 967) (by decide +kernel), rfl⟩
theorem okX5_readModule : xIn (.code yX5_readModule cX5_readModule 5 (some .boolean)) ∧ xIn (.initialized RX5) := ⟨⟨List.mem_of_getElem? (i := 992) (by decide +kernel), rfl⟩, ⟨List.mem_of_getElem? (i := 44) (by decide +kernel), rfl⟩⟩
theorem imX5_readModule : xIn (.instanceMethod yX5_readModule) := ⟨List.mem_of_getElem? (i := 990) (by decide +kernel), rfl⟩
theorem seX5_readModule : xIn (.selects RX5 yX5_readModule yX5_readModule) := ⟨List.mem_of_getElem? (i := 991) (by decide +kernel), rfl⟩
theorem okX5_readAct : xIn (.code yX5_readAct cX5_readAct 3 (some .boolean)) ∧ xIn (.initialized RX5) := ⟨⟨List.mem_of_getElem? (i := 1007) (by decide +kernel), rfl⟩, ⟨List.mem_of_getElem? (i := 44) (by decide +kernel), rfl⟩⟩
theorem imX5_readAct : xIn (.instanceMethod yX5_readAct) := ⟨List.mem_of_getElem? (i := 1005) (by decide +kernel), rfl⟩
theorem seX5_readAct : xIn (.selects RX5 yX5_readAct yX5_readAct) := ⟨List.mem_of_getElem? (i := 1006) (by decide +kernel), rfl⟩
theorem okX5_readArrow : xIn (.code yX5_readArrow cX5_readArrow 5 (some .boolean)) ∧ xIn (.initialized RX5) := ⟨⟨List.mem_of_getElem? (i := 1019) (by decide +kernel), rfl⟩, ⟨List.mem_of_getElem? (i := 44) (by decide +kernel), rfl⟩⟩
theorem imX5_readArrow : xIn (.instanceMethod yX5_readArrow) := ⟨List.mem_of_getElem? (i := 1017) (by decide +kernel), rfl⟩
theorem seX5_readArrow : xIn (.selects RX5 yX5_readArrow yX5_readArrow) := ⟨List.mem_of_getElem? (i := 1018) (by decide +kernel), rfl⟩
theorem okX5_readNewName : xIn (.code yX5_readNewName cX5_readNewName 2 (some .boolean)) ∧ xIn (.initialized RX5) := ⟨⟨List.mem_of_getElem? (i := 906) (by decide +kernel), rfl⟩, ⟨List.mem_of_getElem? (i := 44) (by decide +kernel), rfl⟩⟩
theorem imX5_readNewName : xIn (.instanceMethod yX5_readNewName) := ⟨List.mem_of_getElem? (i := 904) (by decide +kernel), rfl⟩
theorem seX5_readNewName : xIn (.selects RX5 yX5_readNewName yX5_readNewName) := ⟨List.mem_of_getElem? (i := 905) (by decide +kernel), rfl⟩
theorem okX5_readElements : xIn (.code yX5_readElements cX5_readElements 6 (some .boolean)) ∧ xIn (.initialized RX5) := ⟨⟨List.mem_of_getElem? (i := 1001) (by decide +kernel), rfl⟩, ⟨List.mem_of_getElem? (i := 44) (by decide +kernel), rfl⟩⟩
theorem imX5_readElements : xIn (.instanceMethod yX5_readElements) := ⟨List.mem_of_getElem? (i := 999) (by decide +kernel), rfl⟩
theorem seX5_readElements : xIn (.selects RX5 yX5_readElements yX5_readElements) := ⟨List.mem_of_getElem? (i := 1000) (by decide +kernel), rfl⟩
theorem okX5_isNumber : xIn (.code yX5_isNumber cX5_isNumber 3 (some .boolean)) ∧ xIn (.initialized RX5) := ⟨⟨List.mem_of_getElem? (i := 930) (by decide +kernel), rfl⟩, ⟨List.mem_of_getElem? (i := 44) (by decide +kernel), rfl⟩⟩
theorem imX5_isNumber : xIn (.instanceMethod yX5_isNumber) := ⟨List.mem_of_getElem? (i := 928) (by decide +kernel), rfl⟩
theorem seX5_isNumber : xIn (.selects RX5 yX5_isNumber yX5_isNumber) := ⟨List.mem_of_getElem? (i := 929) (by decide +kernel), rfl⟩
theorem okX5_isKnown : xIn (.code yX5_isKnown cX5_isKnown 2 (some .boolean)) ∧ xIn (.initialized RX5) := ⟨⟨List.mem_of_getElem? (i := 972) (by decide +kernel), rfl⟩, ⟨List.mem_of_getElem? (i := 44) (by decide +kernel), rfl⟩⟩
theorem imX5_isKnown : xIn (.instanceMethod yX5_isKnown) := ⟨List.mem_of_getElem? (i := 970) (by decide +kernel), rfl⟩
theorem seX5_isKnown : xIn (.selects RX5 yX5_isKnown yX5_isKnown) := ⟨List.mem_of_getElem? (i := 971) (by decide +kernel), rfl⟩
theorem okX5_groupTold : xIn (.code yX5_groupTold cX5_groupTold 2 (some (.object "CrossedModules$Group"))) ∧ xIn (.initialized RX5) := ⟨⟨List.mem_of_getElem? (i := 976) (by decide +kernel), rfl⟩, ⟨List.mem_of_getElem? (i := 44) (by decide +kernel), rfl⟩⟩
theorem imX5_groupTold : xIn (.instanceMethod yX5_groupTold) := ⟨List.mem_of_getElem? (i := 974) (by decide +kernel), rfl⟩
theorem seX5_groupTold : xIn (.selects RX5 yX5_groupTold yX5_groupTold) := ⟨List.mem_of_getElem? (i := 975) (by decide +kernel), rfl⟩
theorem okX5_moduleTold : xIn (.code yX5_moduleTold cX5_moduleTold 2 (some (.object "CrossedModules$Crossed"))) ∧ xIn (.initialized RX5) := ⟨⟨List.mem_of_getElem? (i := 1011) (by decide +kernel), rfl⟩, ⟨List.mem_of_getElem? (i := 44) (by decide +kernel), rfl⟩⟩
theorem imX5_moduleTold : xIn (.instanceMethod yX5_moduleTold) := ⟨List.mem_of_getElem? (i := 1009) (by decide +kernel), rfl⟩
theorem seX5_moduleTold : xIn (.selects RX5 yX5_moduleTold yX5_moduleTold) := ⟨List.mem_of_getElem? (i := 1010) (by decide +kernel), rfl⟩
theorem okX6_init : xIn (.code yX6_init cX6_init 3 none) ∧ xIn (.initialized RX6) := ⟨⟨List.mem_of_getElem? (i := 808) (by decide +kernel), rfl⟩, ⟨List.mem_of_getElem? (i := 45) (by decide +kernel), rfl⟩⟩
theorem imX6_init : xIn (.instanceMethod yX6_init) := ⟨List.mem_of_getElem? (i := 807) (by decide +kernel), rfl⟩
theorem okX6_byteAt : xIn (.code yX6_byteAt cX6_byteAt 2 (some .int)) ∧ xIn (.initialized RX6) := ⟨⟨List.mem_of_getElem? (i := 871) (by decide +kernel), rfl⟩, ⟨List.mem_of_getElem? (i := 45) (by decide +kernel), rfl⟩⟩
theorem imX6_byteAt : xIn (.instanceMethod yX6_byteAt) := ⟨List.mem_of_getElem? (i := 869) (by decide +kernel), rfl⟩
theorem seX6_byteAt : xIn (.selects RX6 yX6_byteAt yX6_byteAt) := ⟨List.mem_of_getElem? (i := 870) (by decide +kernel), rfl⟩
theorem okX6_advance : xIn (.code yX6_advance cX6_advance 2 none) ∧ xIn (.initialized RX6) := ⟨⟨List.mem_of_getElem? (i := 863) (by decide +kernel), rfl⟩, ⟨List.mem_of_getElem? (i := 45) (by decide +kernel), rfl⟩⟩
theorem imX6_advance : xIn (.instanceMethod yX6_advance) := ⟨List.mem_of_getElem? (i := 861) (by decide +kernel), rfl⟩
theorem seX6_advance : xIn (.selects RX6 yX6_advance yX6_advance) := ⟨List.mem_of_getElem? (i := 862) (by decide +kernel), rfl⟩
theorem okX6_endOfRun : xIn (.code yX6_endOfRun cX6_endOfRun 5 (some .int)) ∧ xIn (.initialized RX6) := ⟨⟨List.mem_of_getElem? (i := 867) (by decide +kernel), rfl⟩, ⟨List.mem_of_getElem? (i := 45) (by decide +kernel), rfl⟩⟩
theorem imX6_endOfRun : xIn (.instanceMethod yX6_endOfRun) := ⟨List.mem_of_getElem? (i := 865) (by decide +kernel), rfl⟩
theorem seX6_endOfRun : xIn (.selects RX6 yX6_endOfRun yX6_endOfRun) := ⟨List.mem_of_getElem? (i := 866) (by decide +kernel), rfl⟩
theorem okX6_packed : xIn (.code yX6_packed cX6_packed 4 (some .long)) ∧ xIn (.initialized RX6) := ⟨⟨List.mem_of_getElem? (i := 878) (by decide +kernel), rfl⟩, ⟨List.mem_of_getElem? (i := 45) (by decide +kernel), rfl⟩⟩
theorem imX6_packed : xIn (.instanceMethod yX6_packed) := ⟨List.mem_of_getElem? (i := 876) (by decide +kernel), rfl⟩
theorem seX6_packed : xIn (.selects RX6 yX6_packed yX6_packed) := ⟨List.mem_of_getElem? (i := 877) (by decide +kernel), rfl⟩
theorem okX6_spells : xIn (.code yX6_spells cX6_spells 4 (some .boolean)) ∧ xIn (.initialized RX6) := ⟨⟨List.mem_of_getElem? (i := 887) (by decide +kernel), rfl⟩, ⟨List.mem_of_getElem? (i := 45) (by decide +kernel), rfl⟩⟩
theorem imX6_spells : xIn (.instanceMethod yX6_spells) := ⟨List.mem_of_getElem? (i := 885) (by decide +kernel), rfl⟩
theorem seX6_spells : xIn (.selects RX6 yX6_spells yX6_spells) := ⟨List.mem_of_getElem? (i := 886) (by decide +kernel), rfl⟩
theorem okX6_reckoned : xIn (.code yX6_reckoned cX6_reckoned 3 (some .int)) ∧ xIn (.initialized RX6) := ⟨⟨List.mem_of_getElem? (i := 882) (by decide +kernel), rfl⟩, ⟨List.mem_of_getElem? (i := 45) (by decide +kernel), rfl⟩⟩
theorem imX6_reckoned : xIn (.instanceMethod yX6_reckoned) := ⟨List.mem_of_getElem? (i := 880) (by decide +kernel), rfl⟩
theorem seX6_reckoned : xIn (.selects RX6 yX6_reckoned yX6_reckoned) := ⟨List.mem_of_getElem? (i := 881) (by decide +kernel), rfl⟩
theorem okX7_init : xIn (.code yX7_init cX7_init 2 none) ∧ xIn (.initialized RX7) := ⟨⟨List.mem_of_getElem? (i := 58) (by decide +kernel), rfl⟩, ⟨List.mem_of_getElem? (i := 32) (by decide +kernel), rfl⟩⟩
theorem imX7_init : xIn (.instanceMethod yX7_init) := ⟨List.mem_of_getElem? (i := 57) (by decide +kernel), rfl⟩
theorem okX7_clear : xIn (.code yX7_clear cX7_clear 1 none) ∧ xIn (.initialized RX7) := ⟨⟨List.mem_of_getElem? (i := 798) (by decide +kernel), rfl⟩, ⟨List.mem_of_getElem? (i := 32) (by decide +kernel), rfl⟩⟩
theorem imX7_clear : xIn (.instanceMethod yX7_clear) := ⟨List.mem_of_getElem? (i := 796) (by decide +kernel), rfl⟩
theorem seX7_clear : xIn (.selects RX7 yX7_clear yX7_clear) := ⟨List.mem_of_getElem? (i := 797) (by decide +kernel), rfl⟩
theorem okX7_namesOf : xIn (.code yX7_namesOf cX7_namesOf 2 (some (.object "CrossedModules$Names"))) ∧ xIn (.initialized RX7) := ⟨⟨List.mem_of_getElem? (i := 1134) (by decide +kernel), rfl⟩, ⟨List.mem_of_getElem? (i := 32) (by decide +kernel), rfl⟩⟩
theorem imX7_namesOf : xIn (.instanceMethod yX7_namesOf) := ⟨List.mem_of_getElem? (i := 1132) (by decide +kernel), rfl⟩
theorem seX7_namesOf : xIn (.selects RX7 yX7_namesOf yX7_namesOf) := ⟨List.mem_of_getElem? (i := 1133) (by decide +kernel), rfl⟩
theorem okX7_settle : xIn (.code yX7_settle cX7_settle 2 none) ∧ xIn (.initialized RX7) := ⟨⟨List.mem_of_getElem? (i := 1042) (by decide +kernel), rfl⟩, ⟨List.mem_of_getElem? (i := 32) (by decide +kernel), rfl⟩⟩
theorem imX7_settle : xIn (.instanceMethod yX7_settle) := ⟨List.mem_of_getElem? (i := 1040) (by decide +kernel), rfl⟩
theorem seX7_settle : xIn (.selects RX7 yX7_settle yX7_settle) := ⟨List.mem_of_getElem? (i := 1041) (by decide +kernel), rfl⟩
theorem okX7_addToAccount : xIn (.code yX7_addToAccount cX7_addToAccount 2 none) ∧ xIn (.initialized RX7) := ⟨⟨List.mem_of_getElem? (i := 1456) (by decide +kernel), rfl⟩, ⟨List.mem_of_getElem? (i := 32) (by decide +kernel), rfl⟩⟩
theorem imX7_addToAccount : xIn (.instanceMethod yX7_addToAccount) := ⟨List.mem_of_getElem? (i := 1454) (by decide +kernel), rfl⟩
theorem seX7_addToAccount : xIn (.selects RX7 yX7_addToAccount yX7_addToAccount) := ⟨List.mem_of_getElem? (i := 1455) (by decide +kernel), rfl⟩
theorem okX7_judgeAgain : xIn (.code yX7_judgeAgain cX7_judgeAgain 3 none) ∧ xIn (.initialized RX7) := ⟨⟨List.mem_of_getElem? (i := 1463) (by decide +kernel), rfl⟩, ⟨List.mem_of_getElem? (i := 32) (by decide +kernel), rfl⟩⟩
theorem imX7_judgeAgain : xIn (.instanceMethod yX7_judgeAgain) := ⟨List.mem_of_getElem? (i := 1461) (by decide +kernel), rfl⟩
theorem seX7_judgeAgain : xIn (.selects RX7 yX7_judgeAgain yX7_judgeAgain) := ⟨List.mem_of_getElem? (i := 1462) (by decide +kernel), rfl⟩
theorem okX7_lawfulModules : xIn (.code yX7_lawfulModules cX7_lawfulModules 3 (some .int)) ∧ xIn (.initialized RX7) := ⟨⟨List.mem_of_getElem? (i := 1514) (by decide +kernel), rfl⟩, ⟨List.mem_of_getElem? (i := 32) (by decide +kernel), rfl⟩⟩
theorem imX7_lawfulModules : xIn (.instanceMethod yX7_lawfulModules) := ⟨List.mem_of_getElem? (i := 1512) (by decide +kernel), rfl⟩
theorem seX7_lawfulModules : xIn (.selects RX7 yX7_lawfulModules yX7_lawfulModules) := ⟨List.mem_of_getElem? (i := 1513) (by decide +kernel), rfl⟩
theorem okX7_firstLike : xIn (.code yX7_firstLike cX7_firstLike 4 (some .int)) ∧ xIn (.initialized RX7) := ⟨⟨List.mem_of_getElem? (i := 1289) (by decide +kernel), rfl⟩, ⟨List.mem_of_getElem? (i := 32) (by decide +kernel), rfl⟩⟩
theorem imX7_firstLike : xIn (.instanceMethod yX7_firstLike) := ⟨List.mem_of_getElem? (i := 1287) (by decide +kernel), rfl⟩
theorem seX7_firstLike : xIn (.selects RX7 yX7_firstLike yX7_firstLike) := ⟨List.mem_of_getElem? (i := 1288) (by decide +kernel), rfl⟩
theorem okX7_equivalenceSet : xIn (.code yX7_equivalenceSet cX7_equivalenceSet 3 (some .int)) ∧ xIn (.initialized RX7) := ⟨⟨List.mem_of_getElem? (i := 1368) (by decide +kernel), rfl⟩, ⟨List.mem_of_getElem? (i := 32) (by decide +kernel), rfl⟩⟩
theorem imX7_equivalenceSet : xIn (.instanceMethod yX7_equivalenceSet) := ⟨List.mem_of_getElem? (i := 1366) (by decide +kernel), rfl⟩
theorem seX7_equivalenceSet : xIn (.selects RX7 yX7_equivalenceSet yX7_equivalenceSet) := ⟨List.mem_of_getElem? (i := 1367) (by decide +kernel), rfl⟩
theorem okX7_oneStepFrom : xIn (.code yX7_oneStepFrom cX7_oneStepFrom 7 (some .int)) ∧ xIn (.initialized RX7) := ⟨⟨List.mem_of_getElem? (i := 1422) (by decide +kernel), rfl⟩, ⟨List.mem_of_getElem? (i := 32) (by decide +kernel), rfl⟩⟩
theorem imX7_oneStepFrom : xIn (.instanceMethod yX7_oneStepFrom) := ⟨List.mem_of_getElem? (i := 1420) (by decide +kernel), rfl⟩
theorem seX7_oneStepFrom : xIn (.selects RX7 yX7_oneStepFrom yX7_oneStepFrom) := ⟨List.mem_of_getElem? (i := 1421) (by decide +kernel), rfl⟩
theorem okX7_stepsBetween : xIn (.code yX7_stepsBetween cX7_stepsBetween 6 (some .int)) ∧ xIn (.initialized RX7) := ⟨⟨List.mem_of_getElem? (i := 1417) (by decide +kernel), rfl⟩, ⟨List.mem_of_getElem? (i := 32) (by decide +kernel), rfl⟩⟩
theorem imX7_stepsBetween : xIn (.instanceMethod yX7_stepsBetween) := ⟨List.mem_of_getElem? (i := 1415) (by decide +kernel), rfl⟩
theorem seX7_stepsBetween : xIn (.selects RX7 yX7_stepsBetween yX7_stepsBetween) := ⟨List.mem_of_getElem? (i := 1416) (by decide +kernel), rfl⟩
theorem okX7_giveState : xIn (.code yX7_giveState cX7_giveState 4 none) ∧ xIn (.initialized RX7) := ⟨⟨List.mem_of_getElem? (i := 1451) (by decide +kernel), rfl⟩, ⟨List.mem_of_getElem? (i := 32) (by decide +kernel), rfl⟩⟩
theorem imX7_giveState : xIn (.instanceMethod yX7_giveState) := ⟨List.mem_of_getElem? (i := 1449) (by decide +kernel), rfl⟩
theorem seX7_giveState : xIn (.selects RX7 yX7_giveState yX7_giveState) := ⟨List.mem_of_getElem? (i := 1450) (by decide +kernel), rfl⟩
theorem okX7_takeState : xIn (.code yX7_takeState cX7_takeState 4 none) ∧ xIn (.initialized RX7) := ⟨⟨List.mem_of_getElem? (i := 1506) (by decide +kernel), rfl⟩, ⟨List.mem_of_getElem? (i := 32) (by decide +kernel), rfl⟩⟩
theorem imX7_takeState : xIn (.instanceMethod yX7_takeState) := ⟨List.mem_of_getElem? (i := 1504) (by decide +kernel), rfl⟩
theorem seX7_takeState : xIn (.selects RX7 yX7_takeState yX7_takeState) := ⟨List.mem_of_getElem? (i := 1505) (by decide +kernel), rfl⟩
theorem okX8_init : xIn (.code yX8_init cX8_init 1 none) ∧ xIn (.initialized RX8) := ⟨⟨List.mem_of_getElem? (i := 50) (by decide +kernel), rfl⟩, ⟨List.mem_of_getElem? (i := 31) (by decide +kernel), rfl⟩⟩
theorem imX8_init : xIn (.instanceMethod yX8_init) := ⟨List.mem_of_getElem? (i := 49) (by decide +kernel), rfl⟩
theorem okX8_append : xIn (.code yX8_append cX8_append 6 (some .int)) ∧ xIn (.initialized RX8) := ⟨⟨List.mem_of_getElem? (i := 716) (by decide +kernel), rfl⟩, ⟨List.mem_of_getElem? (i := 31) (by decide +kernel), rfl⟩⟩
theorem imX8_append : xIn (.instanceMethod yX8_append) := ⟨List.mem_of_getElem? (i := 714) (by decide +kernel), rfl⟩
theorem seX8_append : xIn (.selects RX8 yX8_append yX8_append) := ⟨List.mem_of_getElem? (i := 715) (by decide +kernel), rfl⟩
theorem okX8_load : xIn (.code yX8_load cX8_load 5 (some .int)) ∧ xIn (.initialized RX8) := ⟨⟨List.mem_of_getElem? (i := 724) (by decide +kernel), rfl⟩, ⟨List.mem_of_getElem? (i := 31) (by decide +kernel), rfl⟩⟩
theorem imX8_load : xIn (.instanceMethod yX8_load) := ⟨List.mem_of_getElem? (i := 722) (by decide +kernel), rfl⟩
theorem seX8_load : xIn (.selects RX8 yX8_load yX8_load) := ⟨List.mem_of_getElem? (i := 723) (by decide +kernel), rfl⟩
theorem okX8_parseError : xIn (.code yX8_parseError cX8_parseError 1 (some .int)) ∧ xIn (.initialized RX8) := ⟨⟨List.mem_of_getElem? (i := 301) (by decide +kernel), rfl⟩, ⟨List.mem_of_getElem? (i := 31) (by decide +kernel), rfl⟩⟩
theorem imX8_parseError : xIn (.instanceMethod yX8_parseError) := ⟨List.mem_of_getElem? (i := 299) (by decide +kernel), rfl⟩
theorem seX8_parseError : xIn (.selects RX8 yX8_parseError yX8_parseError) := ⟨List.mem_of_getElem? (i := 300) (by decide +kernel), rfl⟩
theorem okX8_errorPosition : xIn (.code yX8_errorPosition cX8_errorPosition 1 (some .int)) ∧ xIn (.initialized RX8) := ⟨⟨List.mem_of_getElem? (i := 305) (by decide +kernel), rfl⟩, ⟨List.mem_of_getElem? (i := 31) (by decide +kernel), rfl⟩⟩
theorem imX8_errorPosition : xIn (.instanceMethod yX8_errorPosition) := ⟨List.mem_of_getElem? (i := 303) (by decide +kernel), rfl⟩
theorem seX8_errorPosition : xIn (.selects RX8 yX8_errorPosition yX8_errorPosition) := ⟨List.mem_of_getElem? (i := 304) (by decide +kernel), rfl⟩
theorem okX8_count : xIn (.code yX8_count cX8_count 2 (some .int)) ∧ xIn (.initialized RX8) := ⟨⟨List.mem_of_getElem? (i := 1110) (by decide +kernel), rfl⟩, ⟨List.mem_of_getElem? (i := 31) (by decide +kernel), rfl⟩⟩
theorem imX8_count : xIn (.instanceMethod yX8_count) := ⟨List.mem_of_getElem? (i := 1108) (by decide +kernel), rfl⟩
theorem seX8_count : xIn (.selects RX8 yX8_count yX8_count) := ⟨List.mem_of_getElem? (i := 1109) (by decide +kernel), rfl⟩
theorem okX8_letter : xIn (.code yX8_letter cX8_letter 5 (some .int)) ∧ xIn (.initialized RX8) := ⟨⟨List.mem_of_getElem? (i := 1138) (by decide +kernel), rfl⟩, ⟨List.mem_of_getElem? (i := 31) (by decide +kernel), rfl⟩⟩
theorem imX8_letter : xIn (.instanceMethod yX8_letter) := ⟨List.mem_of_getElem? (i := 1136) (by decide +kernel), rfl⟩
theorem seX8_letter : xIn (.selects RX8 yX8_letter yX8_letter) := ⟨List.mem_of_getElem? (i := 1137) (by decide +kernel), rfl⟩
theorem okX8_size : xIn (.code yX8_size cX8_size 2 (some .int)) ∧ xIn (.initialized RX8) := ⟨⟨List.mem_of_getElem? (i := 1584) (by decide +kernel), rfl⟩, ⟨List.mem_of_getElem? (i := 31) (by decide +kernel), rfl⟩⟩
theorem imX8_size : xIn (.instanceMethod yX8_size) := ⟨List.mem_of_getElem? (i := 1582) (by decide +kernel), rfl⟩
theorem seX8_size : xIn (.selects RX8 yX8_size yX8_size) := ⟨List.mem_of_getElem? (i := 1583) (by decide +kernel), rfl⟩
theorem okX8_times : xIn (.code yX8_times cX8_times 5 (some .int)) ∧ xIn (.initialized RX8) := ⟨⟨List.mem_of_getElem? (i := 1158) (by decide +kernel), rfl⟩, ⟨List.mem_of_getElem? (i := 31) (by decide +kernel), rfl⟩⟩
theorem imX8_times : xIn (.instanceMethod yX8_times) := ⟨List.mem_of_getElem? (i := 1156) (by decide +kernel), rfl⟩
theorem seX8_times : xIn (.selects RX8 yX8_times yX8_times) := ⟨List.mem_of_getElem? (i := 1157) (by decide +kernel), rfl⟩
theorem okX8_inverse : xIn (.code yX8_inverse cX8_inverse 4 (some .int)) ∧ xIn (.initialized RX8) := ⟨⟨List.mem_of_getElem? (i := 1570) (by decide +kernel), rfl⟩, ⟨List.mem_of_getElem? (i := 31) (by decide +kernel), rfl⟩⟩
theorem imX8_inverse : xIn (.instanceMethod yX8_inverse) := ⟨List.mem_of_getElem? (i := 1568) (by decide +kernel), rfl⟩
theorem seX8_inverse : xIn (.selects RX8 yX8_inverse yX8_inverse) := ⟨List.mem_of_getElem? (i := 1569) (by decide +kernel), rfl⟩
theorem okX8_orderOf : xIn (.code yX8_orderOf cX8_orderOf 4 (some .int)) ∧ xIn (.initialized RX8) := ⟨⟨List.mem_of_getElem? (i := 1576) (by decide +kernel), rfl⟩, ⟨List.mem_of_getElem? (i := 31) (by decide +kernel), rfl⟩⟩
theorem imX8_orderOf : xIn (.instanceMethod yX8_orderOf) := ⟨List.mem_of_getElem? (i := 1574) (by decide +kernel), rfl⟩
theorem seX8_orderOf : xIn (.selects RX8 yX8_orderOf yX8_orderOf) := ⟨List.mem_of_getElem? (i := 1575) (by decide +kernel), rfl⟩
theorem okX8_centre : xIn (.code yX8_centre cX8_centre 2 (some .int)) ∧ xIn (.initialized RX8) := ⟨⟨List.mem_of_getElem? (i := 1588) (by decide +kernel), rfl⟩, ⟨List.mem_of_getElem? (i := 31) (by decide +kernel), rfl⟩⟩
theorem imX8_centre : xIn (.instanceMethod yX8_centre) := ⟨List.mem_of_getElem? (i := 1586) (by decide +kernel), rfl⟩
theorem seX8_centre : xIn (.selects RX8 yX8_centre yX8_centre) := ⟨List.mem_of_getElem? (i := 1587) (by decide +kernel), rfl⟩
theorem okX8_generated : xIn (.code yX8_generated cX8_generated 4 (some .int)) ∧ xIn (.initialized RX8) := ⟨⟨List.mem_of_getElem? (i := 1171) (by decide +kernel), rfl⟩, ⟨List.mem_of_getElem? (i := 31) (by decide +kernel), rfl⟩⟩
theorem imX8_generated : xIn (.instanceMethod yX8_generated) := ⟨List.mem_of_getElem? (i := 1169) (by decide +kernel), rfl⟩
theorem seX8_generated : xIn (.selects RX8 yX8_generated yX8_generated) := ⟨List.mem_of_getElem? (i := 1170) (by decide +kernel), rfl⟩
theorem okX8_groupOf : xIn (.code yX8_groupOf cX8_groupOf 4 (some .int)) ∧ xIn (.initialized RX8) := ⟨⟨List.mem_of_getElem? (i := 1660) (by decide +kernel), rfl⟩, ⟨List.mem_of_getElem? (i := 31) (by decide +kernel), rfl⟩⟩
theorem imX8_groupOf : xIn (.instanceMethod yX8_groupOf) := ⟨List.mem_of_getElem? (i := 1658) (by decide +kernel), rfl⟩
theorem seX8_groupOf : xIn (.selects RX8 yX8_groupOf yX8_groupOf) := ⟨List.mem_of_getElem? (i := 1659) (by decide +kernel), rfl⟩
theorem okX8_boundary : xIn (.code yX8_boundary cX8_boundary 4 (some .int)) ∧ xIn (.initialized RX8) := ⟨⟨List.mem_of_getElem? (i := 1188) (by decide +kernel), rfl⟩, ⟨List.mem_of_getElem? (i := 31) (by decide +kernel), rfl⟩⟩
theorem imX8_boundary : xIn (.instanceMethod yX8_boundary) := ⟨List.mem_of_getElem? (i := 1186) (by decide +kernel), rfl⟩
theorem seX8_boundary : xIn (.selects RX8 yX8_boundary yX8_boundary) := ⟨List.mem_of_getElem? (i := 1187) (by decide +kernel), rfl⟩
theorem okX8_act : xIn (.code yX8_act cX8_act 5 (some .int)) ∧ xIn (.initialized RX8) := ⟨⟨List.mem_of_getElem? (i := 1197) (by decide +kernel), rfl⟩, ⟨List.mem_of_getElem? (i := 31) (by decide +kernel), rfl⟩⟩
theorem imX8_act : xIn (.instanceMethod yX8_act) := ⟨List.mem_of_getElem? (i := 1195) (by decide +kernel), rfl⟩
theorem seX8_act : xIn (.selects RX8 yX8_act yX8_act) := ⟨List.mem_of_getElem? (i := 1196) (by decide +kernel), rfl⟩
theorem okX8_why : xIn (.code yX8_why cX8_why 2 (some .int)) ∧ xIn (.initialized RX8) := ⟨⟨List.mem_of_getElem? (i := 1202) (by decide +kernel), rfl⟩, ⟨List.mem_of_getElem? (i := 31) (by decide +kernel), rfl⟩⟩
theorem imX8_why : xIn (.instanceMethod yX8_why) := ⟨List.mem_of_getElem? (i := 1200) (by decide +kernel), rfl⟩
theorem seX8_why : xIn (.selects RX8 yX8_why yX8_why) := ⟨List.mem_of_getElem? (i := 1201) (by decide +kernel), rfl⟩
theorem okX8_lawful : xIn (.code yX8_lawful cX8_lawful 1 (some .int)) ∧ xIn (.initialized RX8) := ⟨⟨List.mem_of_getElem? (i := 1534) (by decide +kernel), rfl⟩, ⟨List.mem_of_getElem? (i := 31) (by decide +kernel), rfl⟩⟩
theorem imX8_lawful : xIn (.instanceMethod yX8_lawful) := ⟨List.mem_of_getElem? (i := 1532) (by decide +kernel), rfl⟩
theorem seX8_lawful : xIn (.selects RX8 yX8_lawful yX8_lawful) := ⟨List.mem_of_getElem? (i := 1533) (by decide +kernel), rfl⟩
theorem okX8_kernel : xIn (.code yX8_kernel cX8_kernel 2 (some .int)) ∧ xIn (.initialized RX8) := ⟨⟨List.mem_of_getElem? (i := 1639) (by decide +kernel), rfl⟩, ⟨List.mem_of_getElem? (i := 31) (by decide +kernel), rfl⟩⟩
theorem imX8_kernel : xIn (.instanceMethod yX8_kernel) := ⟨List.mem_of_getElem? (i := 1637) (by decide +kernel), rfl⟩
theorem seX8_kernel : xIn (.selects RX8 yX8_kernel yX8_kernel) := ⟨List.mem_of_getElem? (i := 1638) (by decide +kernel), rfl⟩
theorem okX8_image : xIn (.code yX8_image cX8_image 2 (some .int)) ∧ xIn (.initialized RX8) := ⟨⟨List.mem_of_getElem? (i := 1648) (by decide +kernel), rfl⟩, ⟨List.mem_of_getElem? (i := 31) (by decide +kernel), rfl⟩⟩
theorem imX8_image : xIn (.instanceMethod yX8_image) := ⟨List.mem_of_getElem? (i := 1646) (by decide +kernel), rfl⟩
theorem seX8_image : xIn (.selects RX8 yX8_image yX8_image) := ⟨List.mem_of_getElem? (i := 1647) (by decide +kernel), rfl⟩
theorem okX8_isCentral : xIn (.code yX8_isCentral cX8_isCentral 3 (some .boolean)) ∧ xIn (.initialized RX8) := ⟨⟨List.mem_of_getElem? (i := 1668) (by decide +kernel), rfl⟩, ⟨List.mem_of_getElem? (i := 31) (by decide +kernel), rfl⟩⟩
theorem imX8_isCentral : xIn (.instanceMethod yX8_isCentral) := ⟨List.mem_of_getElem? (i := 1666) (by decide +kernel), rfl⟩
theorem seX8_isCentral : xIn (.selects RX8 yX8_isCentral yX8_isCentral) := ⟨List.mem_of_getElem? (i := 1667) (by decide +kernel), rfl⟩
theorem okX8_fixed : xIn (.code yX8_fixed cX8_fixed 4 (some .int)) ∧ xIn (.initialized RX8) := ⟨⟨List.mem_of_getElem? (i := 1623) (by decide +kernel), rfl⟩, ⟨List.mem_of_getElem? (i := 31) (by decide +kernel), rfl⟩⟩
theorem imX8_fixed : xIn (.instanceMethod yX8_fixed) := ⟨List.mem_of_getElem? (i := 1621) (by decide +kernel), rfl⟩
theorem seX8_fixed : xIn (.selects RX8 yX8_fixed yX8_fixed) := ⟨List.mem_of_getElem? (i := 1622) (by decide +kernel), rfl⟩
theorem okX8_orbit : xIn (.code yX8_orbit cX8_orbit 4 (some .int)) ∧ xIn (.initialized RX8) := ⟨⟨List.mem_of_getElem? (i := 1631) (by decide +kernel), rfl⟩, ⟨List.mem_of_getElem? (i := 31) (by decide +kernel), rfl⟩⟩
theorem imX8_orbit : xIn (.instanceMethod yX8_orbit) := ⟨List.mem_of_getElem? (i := 1629) (by decide +kernel), rfl⟩
theorem seX8_orbit : xIn (.selects RX8 yX8_orbit yX8_orbit) := ⟨List.mem_of_getElem? (i := 1630) (by decide +kernel), rfl⟩
theorem okX8_classes : xIn (.code yX8_classes cX8_classes 2 (some .int)) ∧ xIn (.initialized RX8) := ⟨⟨List.mem_of_getElem? (i := 1206) (by decide +kernel), rfl⟩, ⟨List.mem_of_getElem? (i := 31) (by decide +kernel), rfl⟩⟩
theorem imX8_classes : xIn (.instanceMethod yX8_classes) := ⟨List.mem_of_getElem? (i := 1204) (by decide +kernel), rfl⟩
theorem seX8_classes : xIn (.selects RX8 yX8_classes yX8_classes) := ⟨List.mem_of_getElem? (i := 1205) (by decide +kernel), rfl⟩
theorem okX8_classOf : xIn (.code yX8_classOf cX8_classOf 4 (some .int)) ∧ xIn (.initialized RX8) := ⟨⟨List.mem_of_getElem? (i := 1250) (by decide +kernel), rfl⟩, ⟨List.mem_of_getElem? (i := 31) (by decide +kernel), rfl⟩⟩
theorem imX8_classOf : xIn (.instanceMethod yX8_classOf) := ⟨List.mem_of_getElem? (i := 1248) (by decide +kernel), rfl⟩
theorem seX8_classOf : xIn (.selects RX8 yX8_classOf yX8_classOf) := ⟨List.mem_of_getElem? (i := 1249) (by decide +kernel), rfl⟩
theorem okX8_classTimes : xIn (.code yX8_classTimes cX8_classTimes 6 (some .int)) ∧ xIn (.initialized RX8) := ⟨⟨List.mem_of_getElem? (i := 1255) (by decide +kernel), rfl⟩, ⟨List.mem_of_getElem? (i := 31) (by decide +kernel), rfl⟩⟩
theorem imX8_classTimes : xIn (.instanceMethod yX8_classTimes) := ⟨List.mem_of_getElem? (i := 1253) (by decide +kernel), rfl⟩
theorem seX8_classTimes : xIn (.selects RX8 yX8_classTimes yX8_classTimes) := ⟨List.mem_of_getElem? (i := 1254) (by decide +kernel), rfl⟩
theorem okX8_classAct : xIn (.code yX8_classAct cX8_classAct 6 (some .int)) ∧ xIn (.initialized RX8) := ⟨⟨List.mem_of_getElem? (i := 1264) (by decide +kernel), rfl⟩, ⟨List.mem_of_getElem? (i := 31) (by decide +kernel), rfl⟩⟩
theorem imX8_classAct : xIn (.instanceMethod yX8_classAct) := ⟨List.mem_of_getElem? (i := 1262) (by decide +kernel), rfl⟩
theorem seX8_classAct : xIn (.selects RX8 yX8_classAct yX8_classAct) := ⟨List.mem_of_getElem? (i := 1263) (by decide +kernel), rfl⟩
theorem okX8_profile : xIn (.code yX8_profile cX8_profile 6 (some .int)) ∧ xIn (.initialized RX8) := ⟨⟨List.mem_of_getElem? (i := 1272) (by decide +kernel), rfl⟩, ⟨List.mem_of_getElem? (i := 31) (by decide +kernel), rfl⟩⟩
theorem imX8_profile : xIn (.instanceMethod yX8_profile) := ⟨List.mem_of_getElem? (i := 1270) (by decide +kernel), rfl⟩
theorem seX8_profile : xIn (.selects RX8 yX8_profile yX8_profile) := ⟨List.mem_of_getElem? (i := 1271) (by decide +kernel), rfl⟩
theorem okX8_areAlike : xIn (.code yX8_areAlike cX8_areAlike 5 (some .boolean)) ∧ xIn (.initialized RX8) := ⟨⟨List.mem_of_getElem? (i := 1277) (by decide +kernel), rfl⟩, ⟨List.mem_of_getElem? (i := 31) (by decide +kernel), rfl⟩⟩
theorem imX8_areAlike : xIn (.instanceMethod yX8_areAlike) := ⟨List.mem_of_getElem? (i := 1275) (by decide +kernel), rfl⟩
theorem seX8_areAlike : xIn (.selects RX8 yX8_areAlike yX8_areAlike) := ⟨List.mem_of_getElem? (i := 1276) (by decide +kernel), rfl⟩
theorem okX8_kinds : xIn (.code yX8_kinds cX8_kinds 4 (some .int)) ∧ xIn (.initialized RX8) := ⟨⟨List.mem_of_getElem? (i := 1703) (by decide +kernel), rfl⟩, ⟨List.mem_of_getElem? (i := 31) (by decide +kernel), rfl⟩⟩
theorem imX8_kinds : xIn (.instanceMethod yX8_kinds) := ⟨List.mem_of_getElem? (i := 1701) (by decide +kernel), rfl⟩
theorem seX8_kinds : xIn (.selects RX8 yX8_kinds yX8_kinds) := ⟨List.mem_of_getElem? (i := 1702) (by decide +kernel), rfl⟩
theorem okX8_firstAlike : xIn (.code yX8_firstAlike cX8_firstAlike 2 (some .int)) ∧ xIn (.initialized RX8) := ⟨⟨List.mem_of_getElem? (i := 1285) (by decide +kernel), rfl⟩, ⟨List.mem_of_getElem? (i := 31) (by decide +kernel), rfl⟩⟩
theorem imX8_firstAlike : xIn (.instanceMethod yX8_firstAlike) := ⟨List.mem_of_getElem? (i := 1283) (by decide +kernel), rfl⟩
theorem seX8_firstAlike : xIn (.selects RX8 yX8_firstAlike yX8_firstAlike) := ⟨List.mem_of_getElem? (i := 1284) (by decide +kernel), rfl⟩
theorem okX8_largeTimes : xIn (.code yX8_largeTimes cX8_largeTimes 5 (some .int)) ∧ xIn (.initialized RX8) := ⟨⟨List.mem_of_getElem? (i := 1295) (by decide +kernel), rfl⟩, ⟨List.mem_of_getElem? (i := 31) (by decide +kernel), rfl⟩⟩
theorem imX8_largeTimes : xIn (.instanceMethod yX8_largeTimes) := ⟨List.mem_of_getElem? (i := 1293) (by decide +kernel), rfl⟩
theorem seX8_largeTimes : xIn (.selects RX8 yX8_largeTimes yX8_largeTimes) := ⟨List.mem_of_getElem? (i := 1294) (by decide +kernel), rfl⟩
theorem okX8_target : xIn (.code yX8_target cX8_target 4 (some .int)) ∧ xIn (.initialized RX8) := ⟨⟨List.mem_of_getElem? (i := 1315) (by decide +kernel), rfl⟩, ⟨List.mem_of_getElem? (i := 31) (by decide +kernel), rfl⟩⟩
theorem imX8_target : xIn (.instanceMethod yX8_target) := ⟨List.mem_of_getElem? (i := 1313) (by decide +kernel), rfl⟩
theorem seX8_target : xIn (.selects RX8 yX8_target yX8_target) := ⟨List.mem_of_getElem? (i := 1314) (by decide +kernel), rfl⟩
theorem okX8_largeOrder : xIn (.code yX8_largeOrder cX8_largeOrder 4 (some .int)) ∧ xIn (.initialized RX8) := ⟨⟨List.mem_of_getElem? (i := 1325) (by decide +kernel), rfl⟩, ⟨List.mem_of_getElem? (i := 31) (by decide +kernel), rfl⟩⟩
theorem imX8_largeOrder : xIn (.instanceMethod yX8_largeOrder) := ⟨List.mem_of_getElem? (i := 1323) (by decide +kernel), rfl⟩
theorem seX8_largeOrder : xIn (.selects RX8 yX8_largeOrder yX8_largeOrder) := ⟨List.mem_of_getElem? (i := 1324) (by decide +kernel), rfl⟩
theorem okX8_between : xIn (.code yX8_between cX8_between 5 (some .int)) ∧ xIn (.initialized RX8) := ⟨⟨List.mem_of_getElem? (i := 1334) (by decide +kernel), rfl⟩, ⟨List.mem_of_getElem? (i := 31) (by decide +kernel), rfl⟩⟩
theorem imX8_between : xIn (.instanceMethod yX8_between) := ⟨List.mem_of_getElem? (i := 1332) (by decide +kernel), rfl⟩
theorem seX8_between : xIn (.selects RX8 yX8_between yX8_between) := ⟨List.mem_of_getElem? (i := 1333) (by decide +kernel), rfl⟩
theorem okX8_top : xIn (.code yX8_top cX8_top 4 (some .int)) ∧ xIn (.initialized RX8) := ⟨⟨List.mem_of_getElem? (i := 1343) (by decide +kernel), rfl⟩, ⟨List.mem_of_getElem? (i := 31) (by decide +kernel), rfl⟩⟩
theorem imX8_top : xIn (.instanceMethod yX8_top) := ⟨List.mem_of_getElem? (i := 1341) (by decide +kernel), rfl⟩
theorem seX8_top : xIn (.selects RX8 yX8_top yX8_top) := ⟨List.mem_of_getElem? (i := 1342) (by decide +kernel), rfl⟩
theorem okX8_bottom : xIn (.code yX8_bottom cX8_bottom 4 (some .int)) ∧ xIn (.initialized RX8) := ⟨⟨List.mem_of_getElem? (i := 1356) (by decide +kernel), rfl⟩, ⟨List.mem_of_getElem? (i := 31) (by decide +kernel), rfl⟩⟩
theorem imX8_bottom : xIn (.instanceMethod yX8_bottom) := ⟨List.mem_of_getElem? (i := 1354) (by decide +kernel), rfl⟩
theorem seX8_bottom : xIn (.selects RX8 yX8_bottom yX8_bottom) := ⟨List.mem_of_getElem? (i := 1355) (by decide +kernel), rfl⟩
theorem okX8_arrowWhy : xIn (.code yX8_arrowWhy cX8_arrowWhy 2 (some .int)) ∧ xIn (.initialized RX8) := ⟨⟨List.mem_of_getElem? (i := 1525) (by decide +kernel), rfl⟩, ⟨List.mem_of_getElem? (i := 31) (by decide +kernel), rfl⟩⟩
theorem imX8_arrowWhy : xIn (.instanceMethod yX8_arrowWhy) := ⟨List.mem_of_getElem? (i := 1523) (by decide +kernel), rfl⟩
theorem seX8_arrowWhy : xIn (.selects RX8 yX8_arrowWhy yX8_arrowWhy) := ⟨List.mem_of_getElem? (i := 1524) (by decide +kernel), rfl⟩
theorem okX8_ladder : xIn (.code yX8_ladder cX8_ladder 5 (some .int)) ∧ xIn (.initialized RX8) := ⟨⟨List.mem_of_getElem? (i := 1364) (by decide +kernel), rfl⟩, ⟨List.mem_of_getElem? (i := 31) (by decide +kernel), rfl⟩⟩
theorem imX8_ladder : xIn (.instanceMethod yX8_ladder) := ⟨List.mem_of_getElem? (i := 1362) (by decide +kernel), rfl⟩
theorem seX8_ladder : xIn (.selects RX8 yX8_ladder yX8_ladder) := ⟨List.mem_of_getElem? (i := 1363) (by decide +kernel), rfl⟩
theorem okX8_through : xIn (.code yX8_through cX8_through 6 (some .int)) ∧ xIn (.initialized RX8) := ⟨⟨List.mem_of_getElem? (i := 1426) (by decide +kernel), rfl⟩, ⟨List.mem_of_getElem? (i := 31) (by decide +kernel), rfl⟩⟩
theorem imX8_through : xIn (.instanceMethod yX8_through) := ⟨List.mem_of_getElem? (i := 1424) (by decide +kernel), rfl⟩
theorem seX8_through : xIn (.selects RX8 yX8_through yX8_through) := ⟨List.mem_of_getElem? (i := 1425) (by decide +kernel), rfl⟩
theorem okX8_account : xIn (.code yX8_account cX8_account 2 (some .int)) ∧ xIn (.initialized RX8) := ⟨⟨List.mem_of_getElem? (i := 1430) (by decide +kernel), rfl⟩, ⟨List.mem_of_getElem? (i := 31) (by decide +kernel), rfl⟩⟩
theorem imX8_account : xIn (.instanceMethod yX8_account) := ⟨List.mem_of_getElem? (i := 1428) (by decide +kernel), rfl⟩
theorem seX8_account : xIn (.selects RX8 yX8_account yX8_account) := ⟨List.mem_of_getElem? (i := 1429) (by decide +kernel), rfl⟩
theorem okX8_writeModule : xIn (.code yX8_writeModule cX8_writeModule 5 (some .int)) ∧ xIn (.initialized RX8) := ⟨⟨List.mem_of_getElem? (i := 1664) (by decide +kernel), rfl⟩, ⟨List.mem_of_getElem? (i := 31) (by decide +kernel), rfl⟩⟩
theorem imX8_writeModule : xIn (.instanceMethod yX8_writeModule) := ⟨List.mem_of_getElem? (i := 1662) (by decide +kernel), rfl⟩
theorem seX8_writeModule : xIn (.selects RX8 yX8_writeModule yX8_writeModule) := ⟨List.mem_of_getElem? (i := 1663) (by decide +kernel), rfl⟩
theorem okX8_writeTable : xIn (.code yX8_writeTable cX8_writeTable 5 (some .int)) ∧ xIn (.initialized RX8) := ⟨⟨List.mem_of_getElem? (i := 1596) (by decide +kernel), rfl⟩, ⟨List.mem_of_getElem? (i := 31) (by decide +kernel), rfl⟩⟩
theorem imX8_writeTable : xIn (.instanceMethod yX8_writeTable) := ⟨List.mem_of_getElem? (i := 1594) (by decide +kernel), rfl⟩
theorem seX8_writeTable : xIn (.selects RX8 yX8_writeTable yX8_writeTable) := ⟨List.mem_of_getElem? (i := 1595) (by decide +kernel), rfl⟩
theorem okX8_textByte : xIn (.code yX8_textByte cX8_textByte 2 (some .int)) ∧ xIn (.initialized RX8) := ⟨⟨List.mem_of_getElem? (i := 1434) (by decide +kernel), rfl⟩, ⟨List.mem_of_getElem? (i := 31) (by decide +kernel), rfl⟩⟩
theorem imX8_textByte : xIn (.instanceMethod yX8_textByte) := ⟨List.mem_of_getElem? (i := 1432) (by decide +kernel), rfl⟩
theorem seX8_textByte : xIn (.selects RX8 yX8_textByte yX8_textByte) := ⟨List.mem_of_getElem? (i := 1433) (by decide +kernel), rfl⟩
theorem okX8_setBoundary : xIn (.code yX8_setBoundary cX8_setBoundary 6 (some .int)) ∧ xIn (.initialized RX8) := ⟨⟨List.mem_of_getElem? (i := 1438) (by decide +kernel), rfl⟩, ⟨List.mem_of_getElem? (i := 31) (by decide +kernel), rfl⟩⟩
theorem imX8_setBoundary : xIn (.instanceMethod yX8_setBoundary) := ⟨List.mem_of_getElem? (i := 1436) (by decide +kernel), rfl⟩
theorem seX8_setBoundary : xIn (.selects RX8 yX8_setBoundary yX8_setBoundary) := ⟨List.mem_of_getElem? (i := 1437) (by decide +kernel), rfl⟩
theorem okX8_setAct : xIn (.code yX8_setAct cX8_setAct 7 (some .int)) ∧ xIn (.initialized RX8) := ⟨⟨List.mem_of_getElem? (i := 1468) (by decide +kernel), rfl⟩, ⟨List.mem_of_getElem? (i := 31) (by decide +kernel), rfl⟩⟩
theorem imX8_setAct : xIn (.instanceMethod yX8_setAct) := ⟨List.mem_of_getElem? (i := 1466) (by decide +kernel), rfl⟩
theorem seX8_setAct : xIn (.selects RX8 yX8_setAct yX8_setAct) := ⟨List.mem_of_getElem? (i := 1467) (by decide +kernel), rfl⟩
theorem okX8_rest : xIn (.code yX8_rest cX8_rest 4 (some .int)) ∧ xIn (.initialized RX8) := ⟨⟨List.mem_of_getElem? (i := 1472) (by decide +kernel), rfl⟩, ⟨List.mem_of_getElem? (i := 31) (by decide +kernel), rfl⟩⟩
theorem imX8_rest : xIn (.instanceMethod yX8_rest) := ⟨List.mem_of_getElem? (i := 1470) (by decide +kernel), rfl⟩
theorem seX8_rest : xIn (.selects RX8 yX8_rest yX8_rest) := ⟨List.mem_of_getElem? (i := 1471) (by decide +kernel), rfl⟩
theorem okX8_conjugate : xIn (.code yX8_conjugate cX8_conjugate 4 (some .int)) ∧ xIn (.initialized RX8) := ⟨⟨List.mem_of_getElem? (i := 1485) (by decide +kernel), rfl⟩, ⟨List.mem_of_getElem? (i := 31) (by decide +kernel), rfl⟩⟩
theorem imX8_conjugate : xIn (.instanceMethod yX8_conjugate) := ⟨List.mem_of_getElem? (i := 1483) (by decide +kernel), rfl⟩
theorem seX8_conjugate : xIn (.selects RX8 yX8_conjugate yX8_conjugate) := ⟨List.mem_of_getElem? (i := 1484) (by decide +kernel), rfl⟩
theorem okX8_setTop : xIn (.code yX8_setTop cX8_setTop 6 (some .int)) ∧ xIn (.initialized RX8) := ⟨⟨List.mem_of_getElem? (i := 1493) (by decide +kernel), rfl⟩, ⟨List.mem_of_getElem? (i := 31) (by decide +kernel), rfl⟩⟩
theorem imX8_setTop : xIn (.instanceMethod yX8_setTop) := ⟨List.mem_of_getElem? (i := 1491) (by decide +kernel), rfl⟩
theorem seX8_setTop : xIn (.selects RX8 yX8_setTop yX8_setTop) := ⟨List.mem_of_getElem? (i := 1492) (by decide +kernel), rfl⟩
theorem okX8_setBottom : xIn (.code yX8_setBottom cX8_setBottom 6 (some .int)) ∧ xIn (.initialized RX8) := ⟨⟨List.mem_of_getElem? (i := 1497) (by decide +kernel), rfl⟩, ⟨List.mem_of_getElem? (i := 31) (by decide +kernel), rfl⟩⟩
theorem imX8_setBottom : xIn (.instanceMethod yX8_setBottom) := ⟨List.mem_of_getElem? (i := 1495) (by decide +kernel), rfl⟩
theorem seX8_setBottom : xIn (.selects RX8 yX8_setBottom yX8_setBottom) := ⟨List.mem_of_getElem? (i := 1496) (by decide +kernel), rfl⟩
theorem okX8_undo : xIn (.code yX8_undo cX8_undo 1 (some .int)) ∧ xIn (.initialized RX8) := ⟨⟨List.mem_of_getElem? (i := 1501) (by decide +kernel), rfl⟩, ⟨List.mem_of_getElem? (i := 31) (by decide +kernel), rfl⟩⟩
theorem imX8_undo : xIn (.instanceMethod yX8_undo) := ⟨List.mem_of_getElem? (i := 1499) (by decide +kernel), rfl⟩
theorem seX8_undo : xIn (.selects RX8 yX8_undo yX8_undo) := ⟨List.mem_of_getElem? (i := 1500) (by decide +kernel), rfl⟩
theorem okX8_undoable : xIn (.code yX8_undoable cX8_undoable 1 (some .int)) ∧ xIn (.initialized RX8) := ⟨⟨List.mem_of_getElem? (i := 309) (by decide +kernel), rfl⟩, ⟨List.mem_of_getElem? (i := 31) (by decide +kernel), rfl⟩⟩
theorem imX8_undoable : xIn (.instanceMethod yX8_undoable) := ⟨List.mem_of_getElem? (i := 307) (by decide +kernel), rfl⟩
theorem seX8_undoable : xIn (.selects RX8 yX8_undoable yX8_undoable) := ⟨List.mem_of_getElem? (i := 308) (by decide +kernel), rfl⟩
theorem okX8_save : xIn (.code yX8_save cX8_save 2 (some .int)) ∧ xIn (.initialized RX8) := ⟨⟨List.mem_of_getElem? (i := 1510) (by decide +kernel), rfl⟩, ⟨List.mem_of_getElem? (i := 31) (by decide +kernel), rfl⟩⟩
theorem imX8_save : xIn (.instanceMethod yX8_save) := ⟨List.mem_of_getElem? (i := 1508) (by decide +kernel), rfl⟩
theorem seX8_save : xIn (.selects RX8 yX8_save yX8_save) := ⟨List.mem_of_getElem? (i := 1509) (by decide +kernel), rfl⟩
theorem okX8_restore : xIn (.code yX8_restore cX8_restore 2 (some .int)) ∧ xIn (.initialized RX8) := ⟨⟨List.mem_of_getElem? (i := 1519) (by decide +kernel), rfl⟩, ⟨List.mem_of_getElem? (i := 31) (by decide +kernel), rfl⟩⟩
theorem imX8_restore : xIn (.instanceMethod yX8_restore) := ⟨List.mem_of_getElem? (i := 1517) (by decide +kernel), rfl⟩
theorem seX8_restore : xIn (.selects RX8 yX8_restore yX8_restore) := ⟨List.mem_of_getElem? (i := 1518) (by decide +kernel), rfl⟩
theorem okX8_demandText : xIn (.code yX8_demandText cX8_demandText 1 none) ∧ xIn (.initialized RX8) := ⟨⟨List.mem_of_getElem? (i := 1114) (by decide +kernel), rfl⟩, ⟨List.mem_of_getElem? (i := 31) (by decide +kernel), rfl⟩⟩
theorem imX8_demandText : xIn (.instanceMethod yX8_demandText) := ⟨List.mem_of_getElem? (i := 1113) (by decide +kernel), rfl⟩
theorem seX8_demandText : xIn (.selects RX8 yX8_demandText yX8_demandText) := ⟨List.mem_of_getElem? (i := 6) (by decide +kernel), rfl⟩
theorem okX8_demandThere : xIn (.code yX8_demandThere cX8_demandThere 1 none) ∧ xIn (.initialized RX8) := ⟨⟨List.mem_of_getElem? (i := 727) (by decide +kernel), rfl⟩, ⟨List.mem_of_getElem? (i := 31) (by decide +kernel), rfl⟩⟩
theorem stX8_demandThere : xIn (.static yX8_demandThere) := ⟨List.mem_of_getElem? (i := 726) (by decide +kernel), rfl⟩
theorem okX8_demandFit : xIn (.code yX8_demandFit cX8_demandFit 1 none) ∧ xIn (.initialized RX8) := ⟨⟨List.mem_of_getElem? (i := 1022) (by decide +kernel), rfl⟩, ⟨List.mem_of_getElem? (i := 31) (by decide +kernel), rfl⟩⟩
theorem stX8_demandFit : xIn (.static yX8_demandFit) := ⟨List.mem_of_getElem? (i := 1021) (by decide +kernel), rfl⟩
theorem okX8_groupAt : xIn (.code yX8_groupAt cX8_groupAt 2 (some (.object "CrossedModules$Group"))) ∧ xIn (.initialized RX8) := ⟨⟨List.mem_of_getElem? (i := 1162) (by decide +kernel), rfl⟩, ⟨List.mem_of_getElem? (i := 31) (by decide +kernel), rfl⟩⟩
theorem imX8_groupAt : xIn (.instanceMethod yX8_groupAt) := ⟨List.mem_of_getElem? (i := 1161) (by decide +kernel), rfl⟩
theorem seX8_groupAt : xIn (.selects RX8 yX8_groupAt yX8_groupAt) := ⟨List.mem_of_getElem? (i := 7) (by decide +kernel), rfl⟩
theorem okX8_moduleAt : xIn (.code yX8_moduleAt cX8_moduleAt 2 (some (.object "CrossedModules$Crossed"))) ∧ xIn (.initialized RX8) := ⟨⟨List.mem_of_getElem? (i := 1192) (by decide +kernel), rfl⟩, ⟨List.mem_of_getElem? (i := 31) (by decide +kernel), rfl⟩⟩
theorem imX8_moduleAt : xIn (.instanceMethod yX8_moduleAt) := ⟨List.mem_of_getElem? (i := 1191) (by decide +kernel), rfl⟩
theorem seX8_moduleAt : xIn (.selects RX8 yX8_moduleAt yX8_moduleAt) := ⟨List.mem_of_getElem? (i := 8) (by decide +kernel), rfl⟩
theorem okX8_lawfulModuleAt : xIn (.code yX8_lawfulModuleAt cX8_lawfulModuleAt 3 (some (.object "CrossedModules$Crossed"))) ∧ xIn (.initialized RX8) := ⟨⟨List.mem_of_getElem? (i := 1210) (by decide +kernel), rfl⟩, ⟨List.mem_of_getElem? (i := 31) (by decide +kernel), rfl⟩⟩
theorem imX8_lawfulModuleAt : xIn (.instanceMethod yX8_lawfulModuleAt) := ⟨List.mem_of_getElem? (i := 1209) (by decide +kernel), rfl⟩
theorem seX8_lawfulModuleAt : xIn (.selects RX8 yX8_lawfulModuleAt yX8_lawfulModuleAt) := ⟨List.mem_of_getElem? (i := 9) (by decide +kernel), rfl⟩
theorem okX8_arrowAt : xIn (.code yX8_arrowAt cX8_arrowAt 2 (some (.object "CrossedModules$Arrow"))) ∧ xIn (.initialized RX8) := ⟨⟨List.mem_of_getElem? (i := 1347) (by decide +kernel), rfl⟩, ⟨List.mem_of_getElem? (i := 31) (by decide +kernel), rfl⟩⟩
theorem imX8_arrowAt : xIn (.instanceMethod yX8_arrowAt) := ⟨List.mem_of_getElem? (i := 1346) (by decide +kernel), rfl⟩
theorem seX8_arrowAt : xIn (.selects RX8 yX8_arrowAt yX8_arrowAt) := ⟨List.mem_of_getElem? (i := 10) (by decide +kernel), rfl⟩
theorem okX8_appendWord : xIn (.code yX8_appendWord cX8_appendWord 3 none) ∧ xIn (.initialized RX8) := ⟨⟨List.mem_of_getElem? (i := 720) (by decide +kernel), rfl⟩, ⟨List.mem_of_getElem? (i := 31) (by decide +kernel), rfl⟩⟩
theorem imX8_appendWord : xIn (.instanceMethod yX8_appendWord) := ⟨List.mem_of_getElem? (i := 719) (by decide +kernel), rfl⟩
theorem seX8_appendWord : xIn (.selects RX8 yX8_appendWord yX8_appendWord) := ⟨List.mem_of_getElem? (i := 3) (by decide +kernel), rfl⟩
theorem okX8_write : xIn (.code yX8_write cX8_write 2 none) ∧ xIn (.initialized RX8) := ⟨⟨List.mem_of_getElem? (i := 1600) (by decide +kernel), rfl⟩, ⟨List.mem_of_getElem? (i := 31) (by decide +kernel), rfl⟩⟩
theorem imX8_write : xIn (.instanceMethod yX8_write) := ⟨List.mem_of_getElem? (i := 1599) (by decide +kernel), rfl⟩
theorem seX8_write : xIn (.selects RX8 yX8_write yX8_write) := ⟨List.mem_of_getElem? (i := 13) (by decide +kernel), rfl⟩
theorem okX8_beginChange : xIn (.code yX8_beginChange cX8_beginChange 1 none) ∧ xIn (.initialized RX8) := ⟨⟨List.mem_of_getElem? (i := 1442) (by decide +kernel), rfl⟩, ⟨List.mem_of_getElem? (i := 31) (by decide +kernel), rfl⟩⟩
theorem imX8_beginChange : xIn (.instanceMethod yX8_beginChange) := ⟨List.mem_of_getElem? (i := 1441) (by decide +kernel), rfl⟩
theorem seX8_beginChange : xIn (.selects RX8 yX8_beginChange yX8_beginChange) := ⟨List.mem_of_getElem? (i := 11) (by decide +kernel), rfl⟩
theorem okX8_undoPlace : xIn (.code yX8_undoPlace cX8_undoPlace 2 (some .int)) ∧ xIn (.initialized RX8) := ⟨⟨List.mem_of_getElem? (i := 1446) (by decide +kernel), rfl⟩, ⟨List.mem_of_getElem? (i := 31) (by decide +kernel), rfl⟩⟩
theorem imX8_undoPlace : xIn (.instanceMethod yX8_undoPlace) := ⟨List.mem_of_getElem? (i := 1445) (by decide +kernel), rfl⟩
theorem seX8_undoPlace : xIn (.selects RX8 yX8_undoPlace yX8_undoPlace) := ⟨List.mem_of_getElem? (i := 12) (by decide +kernel), rfl⟩
theorem okX8_forgetChanges : xIn (.code yX8_forgetChanges cX8_forgetChanges 1 none) ∧ xIn (.initialized RX8) := ⟨⟨List.mem_of_getElem? (i := 1097) (by decide +kernel), rfl⟩, ⟨List.mem_of_getElem? (i := 31) (by decide +kernel), rfl⟩⟩
theorem imX8_forgetChanges : xIn (.instanceMethod yX8_forgetChanges) := ⟨List.mem_of_getElem? (i := 1096) (by decide +kernel), rfl⟩
theorem seX8_forgetChanges : xIn (.selects RX8 yX8_forgetChanges yX8_forgetChanges) := ⟨List.mem_of_getElem? (i := 5) (by decide +kernel), rfl⟩
theorem okX8_at : xIn (.code yX8_at cX8_at 2 (some .int)) ∧ xIn (.initialized RX8) := ⟨⟨List.mem_of_getElem? (i := 1063) (by decide +kernel), rfl⟩, ⟨List.mem_of_getElem? (i := 31) (by decide +kernel), rfl⟩⟩
theorem stX8_at : xIn (.static yX8_at) := ⟨List.mem_of_getElem? (i := 1062) (by decide +kernel), rfl⟩
theorem okX8_put : xIn (.code yX8_put cX8_put 3 none) ∧ xIn (.initialized RX8) := ⟨⟨List.mem_of_getElem? (i := 921) (by decide +kernel), rfl⟩, ⟨List.mem_of_getElem? (i := 31) (by decide +kernel), rfl⟩⟩
theorem stX8_put : xIn (.static yX8_put) := ⟨List.mem_of_getElem? (i := 920) (by decide +kernel), rfl⟩
theorem okX8_isIn : xIn (.code yX8_isIn cX8_isIn 2 (some .boolean)) ∧ xIn (.initialized RX8) := ⟨⟨List.mem_of_getElem? (i := 1014) (by decide +kernel), rfl⟩, ⟨List.mem_of_getElem? (i := 31) (by decide +kernel), rfl⟩⟩
theorem stX8_isIn : xIn (.static yX8_isIn) := ⟨List.mem_of_getElem? (i := 1013) (by decide +kernel), rfl⟩
theorem okX8_isBetween : xIn (.code yX8_isBetween cX8_isBetween 3 (some .boolean)) ∧ xIn (.initialized RX8) := ⟨⟨List.mem_of_getElem? (i := 874) (by decide +kernel), rfl⟩, ⟨List.mem_of_getElem? (i := 31) (by decide +kernel), rfl⟩⟩
theorem stX8_isBetween : xIn (.static yX8_isBetween) := ⟨List.mem_of_getElem? (i := 873) (by decide +kernel), rfl⟩
theorem okX9_init : xIn (.code yX9_init cX9_init 5 none) ∧ xIn (.initialized RX9) := ⟨⟨List.mem_of_getElem? (i := 633) (by decide +kernel), rfl⟩, ⟨List.mem_of_getElem? (i := 30) (by decide +kernel), rfl⟩⟩
theorem imX9_init : xIn (.instanceMethod yX9_init) := ⟨List.mem_of_getElem? (i := 632) (by decide +kernel), rfl⟩
theorem okX10_init : xIn (.code yX10_init cX10_init 2 none) ∧ xIn (.initialized RX10) := ⟨⟨List.mem_of_getElem? (i := 314) (by decide +kernel), rfl⟩, ⟨List.mem_of_getElem? (i := 15) (by decide +kernel), rfl⟩⟩
theorem imX10_init : xIn (.instanceMethod yX10_init) := ⟨List.mem_of_getElem? (i := 313) (by decide +kernel), rfl⟩
theorem okX10_next : xIn (.code yX10_next cX10_next 4 (some .int)) ∧ xIn (.initialized RX10) := ⟨⟨List.mem_of_getElem? (i := 326) (by decide +kernel), rfl⟩, ⟨List.mem_of_getElem? (i := 15) (by decide +kernel), rfl⟩⟩
theorem imX10_next : xIn (.instanceMethod yX10_next) := ⟨List.mem_of_getElem? (i := 324) (by decide +kernel), rfl⟩
theorem seX10_next : xIn (.selects RX10 yX10_next yX10_next) := ⟨List.mem_of_getElem? (i := 325) (by decide +kernel), rfl⟩
theorem okX11_init : xIn (.code yX11_init cX11_init 7 none) ∧ xIn (.initialized RX11) := ⟨⟨List.mem_of_getElem? (i := 577) (by decide +kernel), rfl⟩, ⟨List.mem_of_getElem? (i := 29) (by decide +kernel), rfl⟩⟩
theorem imX11_init : xIn (.instanceMethod yX11_init) := ⟨List.mem_of_getElem? (i := 576) (by decide +kernel), rfl⟩
theorem okX11_conjugate : xIn (.code yX11_conjugate cX11_conjugate 3 (some .int)) ∧ xIn (.initialized RX11) := ⟨⟨List.mem_of_getElem? (i := 622) (by decide +kernel), rfl⟩, ⟨List.mem_of_getElem? (i := 29) (by decide +kernel), rfl⟩⟩
theorem imX11_conjugate : xIn (.instanceMethod yX11_conjugate) := ⟨List.mem_of_getElem? (i := 620) (by decide +kernel), rfl⟩
theorem seX11_conjugate : xIn (.selects RX11 yX11_conjugate yX11_conjugate) := ⟨List.mem_of_getElem? (i := 621) (by decide +kernel), rfl⟩
theorem okX11_why : xIn (.code yX11_why cX11_why 7 (some .int)) ∧ xIn (.initialized RX11) := ⟨⟨List.mem_of_getElem? (i := 1542) (by decide +kernel), rfl⟩, ⟨List.mem_of_getElem? (i := 29) (by decide +kernel), rfl⟩⟩
theorem imX11_why : xIn (.instanceMethod yX11_why) := ⟨List.mem_of_getElem? (i := 1540) (by decide +kernel), rfl⟩
theorem seX11_why : xIn (.selects RX11 yX11_why yX11_why) := ⟨List.mem_of_getElem? (i := 1541) (by decide +kernel), rfl⟩
theorem okX11_kernel : xIn (.code yX11_kernel cX11_kernel 3 (some .int)) ∧ xIn (.initialized RX11) := ⟨⟨List.mem_of_getElem? (i := 1644) (by decide +kernel), rfl⟩, ⟨List.mem_of_getElem? (i := 29) (by decide +kernel), rfl⟩⟩
theorem imX11_kernel : xIn (.instanceMethod yX11_kernel) := ⟨List.mem_of_getElem? (i := 1642) (by decide +kernel), rfl⟩
theorem seX11_kernel : xIn (.selects RX11 yX11_kernel yX11_kernel) := ⟨List.mem_of_getElem? (i := 1643) (by decide +kernel), rfl⟩
theorem okX11_image : xIn (.code yX11_image cX11_image 6 (some .int)) ∧ xIn (.initialized RX11) := ⟨⟨List.mem_of_getElem? (i := 1656) (by decide +kernel), rfl⟩, ⟨List.mem_of_getElem? (i := 29) (by decide +kernel), rfl⟩⟩
theorem imX11_image : xIn (.instanceMethod yX11_image) := ⟨List.mem_of_getElem? (i := 1654) (by decide +kernel), rfl⟩
theorem seX11_image : xIn (.selects RX11 yX11_image yX11_image) := ⟨List.mem_of_getElem? (i := 1655) (by decide +kernel), rfl⟩
theorem okX11_classes : xIn (.code yX11_classes cX11_classes 5 (some (.array .int))) ∧ xIn (.initialized RX11) := ⟨⟨List.mem_of_getElem? (i := 1675) (by decide +kernel), rfl⟩, ⟨List.mem_of_getElem? (i := 29) (by decide +kernel), rfl⟩⟩
theorem imX11_classes : xIn (.instanceMethod yX11_classes) := ⟨List.mem_of_getElem? (i := 1673) (by decide +kernel), rfl⟩
theorem seX11_classes : xIn (.selects RX11 yX11_classes yX11_classes) := ⟨List.mem_of_getElem? (i := 1674) (by decide +kernel), rfl⟩
theorem okX11_leastOf : xIn (.code yX11_leastOf cX11_leastOf 4 (some .int)) ∧ xIn (.initialized RX11) := ⟨⟨List.mem_of_getElem? (i := 1691) (by decide +kernel), rfl⟩, ⟨List.mem_of_getElem? (i := 29) (by decide +kernel), rfl⟩⟩
theorem imX11_leastOf : xIn (.instanceMethod yX11_leastOf) := ⟨List.mem_of_getElem? (i := 1689) (by decide +kernel), rfl⟩
theorem seX11_leastOf : xIn (.selects RX11 yX11_leastOf yX11_leastOf) := ⟨List.mem_of_getElem? (i := 1690) (by decide +kernel), rfl⟩
theorem okX11_many : xIn (.code yX11_many cX11_many 6 (some .int)) ∧ xIn (.initialized RX11) := ⟨⟨List.mem_of_getElem? (i := 1686) (by decide +kernel), rfl⟩, ⟨List.mem_of_getElem? (i := 29) (by decide +kernel), rfl⟩⟩
theorem imX11_many : xIn (.instanceMethod yX11_many) := ⟨List.mem_of_getElem? (i := 1684) (by decide +kernel), rfl⟩
theorem seX11_many : xIn (.selects RX11 yX11_many yX11_many) := ⟨List.mem_of_getElem? (i := 1685) (by decide +kernel), rfl⟩
theorem okX11_pair : xIn (.code yX11_pair cX11_pair 6 (some (.array .int))) ∧ xIn (.initialized RX11) := ⟨⟨List.mem_of_getElem? (i := 1680) (by decide +kernel), rfl⟩, ⟨List.mem_of_getElem? (i := 29) (by decide +kernel), rfl⟩⟩
theorem imX11_pair : xIn (.instanceMethod yX11_pair) := ⟨List.mem_of_getElem? (i := 1678) (by decide +kernel), rfl⟩
theorem seX11_pair : xIn (.selects RX11 yX11_pair yX11_pair) := ⟨List.mem_of_getElem? (i := 1679) (by decide +kernel), rfl⟩
theorem okX12_init : xIn (.code yX12_init cX12_init 3 none) ∧ xIn (.initialized RX12) := ⟨⟨List.mem_of_getElem? (i := 332) (by decide +kernel), rfl⟩, ⟨List.mem_of_getElem? (i := 16) (by decide +kernel), rfl⟩⟩
theorem imX12_init : xIn (.instanceMethod yX12_init) := ⟨List.mem_of_getElem? (i := 331) (by decide +kernel), rfl⟩
theorem okX12_group : xIn (.code yX12_group cX12_group 4 none) ∧ xIn (.initialized RX12) := ⟨⟨List.mem_of_getElem? (i := 502) (by decide +kernel), rfl⟩, ⟨List.mem_of_getElem? (i := 16) (by decide +kernel), rfl⟩⟩
theorem imX12_group : xIn (.instanceMethod yX12_group) := ⟨List.mem_of_getElem? (i := 501) (by decide +kernel), rfl⟩
theorem seX12_group : xIn (.selects RX12 yX12_group yX12_group) := ⟨List.mem_of_getElem? (i := 0) (by decide +kernel), rfl⟩
theorem okX12_module : xIn (.code yX12_module cX12_module 9 none) ∧ xIn (.initialized RX12) := ⟨⟨List.mem_of_getElem? (i := 573) (by decide +kernel), rfl⟩, ⟨List.mem_of_getElem? (i := 16) (by decide +kernel), rfl⟩⟩
theorem imX12_module : xIn (.instanceMethod yX12_module) := ⟨List.mem_of_getElem? (i := 572) (by decide +kernel), rfl⟩
theorem seX12_module : xIn (.selects RX12 yX12_module yX12_module) := ⟨List.mem_of_getElem? (i := 1) (by decide +kernel), rfl⟩
theorem okX12_arrow : xIn (.code yX12_arrow cX12_arrow 9 none) ∧ xIn (.initialized RX12) := ⟨⟨List.mem_of_getElem? (i := 629) (by decide +kernel), rfl⟩, ⟨List.mem_of_getElem? (i := 16) (by decide +kernel), rfl⟩⟩
theorem imX12_arrow : xIn (.instanceMethod yX12_arrow) := ⟨List.mem_of_getElem? (i := 628) (by decide +kernel), rfl⟩
theorem seX12_arrow : xIn (.selects RX12 yX12_arrow yX12_arrow) := ⟨List.mem_of_getElem? (i := 2) (by decide +kernel), rfl⟩
theorem okX12_lawful : xIn (.code yX12_lawful cX12_lawful 3 (some .int)) ∧ xIn (.initialized RX12) := ⟨⟨List.mem_of_getElem? (i := 1538) (by decide +kernel), rfl⟩, ⟨List.mem_of_getElem? (i := 16) (by decide +kernel), rfl⟩⟩
theorem imX12_lawful : xIn (.instanceMethod yX12_lawful) := ⟨List.mem_of_getElem? (i := 1536) (by decide +kernel), rfl⟩
theorem seX12_lawful : xIn (.selects RX12 yX12_lawful yX12_lawful) := ⟨List.mem_of_getElem? (i := 1537) (by decide +kernel), rfl⟩
theorem okJ5_init_d00df : xIn (.code yJ5_init_d00df cJ5_init_d00df 2 none) ∧ xIn (.initialized RJ5) := ⟨⟨List.mem_of_getElem? (i := 1564) (by decide +kernel), rfl⟩, ⟨List.mem_of_getElem? (i := 17) (by decide +kernel), rfl⟩⟩
theorem imJ5_init_d00df : xIn (.instanceMethod yJ5_init_d00df) := ⟨List.mem_of_getElem? (i := 1563) (by decide +kernel), rfl⟩
theorem okJ5_init_a7421 : xIn (.code yJ5_init_a7421 cJ5_init_a7421 5 none) ∧ xIn (.initialized RJ5) := ⟨⟨List.mem_of_getElem? (i := 342) (by decide +kernel), rfl⟩, ⟨List.mem_of_getElem? (i := 17) (by decide +kernel), rfl⟩⟩
theorem imJ5_init_a7421 : xIn (.instanceMethod yJ5_init_a7421) := ⟨List.mem_of_getElem? (i := 341) (by decide +kernel), rfl⟩
theorem okJ5_length_8abf5 : xIn (.code yJ5_length_8abf5 cJ5_length_8abf5 1 (some .int)) ∧ xIn (.initialized RJ5) := ⟨⟨List.mem_of_getElem? (i := 614) (by decide +kernel), rfl⟩, ⟨List.mem_of_getElem? (i := 17) (by decide +kernel), rfl⟩⟩
theorem imJ5_length_8abf5 : xIn (.instanceMethod yJ5_length_8abf5) := ⟨List.mem_of_getElem? (i := 613) (by decide +kernel), rfl⟩
theorem smJ5_length_8abf5 : xIn (.sameMethod RJ5 RJ5 "length" "()I") := ⟨List.mem_of_getElem? (i := 1770) (by decide +kernel), rfl⟩
theorem ssJ5_length_8abf5 : xIn (.selects RJ4 yJ5_length_8abf5 yJ4_length_8abf5) := ⟨List.mem_of_getElem? (i := 1773) (by decide +kernel), rfl⟩
theorem okJ5_ensureCapacityInternal_d00df : xIn (.code yJ5_ensureCapacityInternal_d00df cJ5_ensureCapacityInternal_d00df 3 none) ∧ xIn (.initialized RJ5) := ⟨⟨List.mem_of_getElem? (i := 384) (by decide +kernel), rfl⟩, ⟨List.mem_of_getElem? (i := 17) (by decide +kernel), rfl⟩⟩
theorem imJ5_ensureCapacityInternal_d00df : xIn (.instanceMethod yJ5_ensureCapacityInternal_d00df) := ⟨List.mem_of_getElem? (i := 383) (by decide +kernel), rfl⟩
theorem smJ5_ensureCapacityInternal_d00df : xIn (.sameMethod RJ5 RJ5 "ensureCapacityInternal" "(I)V") := ⟨List.mem_of_getElem? (i := 1763) (by decide +kernel), rfl⟩
theorem okJ5_newCapacity_0f7a4 : xIn (.code yJ5_newCapacity_0f7a4 cJ5_newCapacity_0f7a4 6 (some .int)) ∧ xIn (.initialized RJ5) := ⟨⟨List.mem_of_getElem? (i := 388) (by decide +kernel), rfl⟩, ⟨List.mem_of_getElem? (i := 17) (by decide +kernel), rfl⟩⟩
theorem imJ5_newCapacity_0f7a4 : xIn (.instanceMethod yJ5_newCapacity_0f7a4) := ⟨List.mem_of_getElem? (i := 387) (by decide +kernel), rfl⟩
theorem smJ5_newCapacity_0f7a4 : xIn (.sameMethod RJ5 RJ5 "newCapacity" "(I)I") := ⟨List.mem_of_getElem? (i := 1764) (by decide +kernel), rfl⟩
theorem okJ5_charAt_5068e : xIn (.code yJ5_charAt_5068e cJ5_charAt_5068e 5 (some .char)) ∧ xIn (.initialized RJ5) := ⟨⟨List.mem_of_getElem? (i := 1611) (by decide +kernel), rfl⟩, ⟨List.mem_of_getElem? (i := 17) (by decide +kernel), rfl⟩⟩
theorem imJ5_charAt_5068e : xIn (.instanceMethod yJ5_charAt_5068e) := ⟨List.mem_of_getElem? (i := 1610) (by decide +kernel), rfl⟩
theorem smJ5_charAt_5068e : xIn (.sameMethod RJ5 RJ5 "charAt" "(I)C") := ⟨List.mem_of_getElem? (i := 1772) (by decide +kernel), rfl⟩
theorem okJ5_append_cf1ce : xIn (.code yJ5_append_cf1ce cJ5_append_cf1ce 3 (some (.object "java/lang/AbstractStringBuilder"))) ∧ xIn (.initialized RJ5) := ⟨⟨List.mem_of_getElem? (i := 376) (by decide +kernel), rfl⟩, ⟨List.mem_of_getElem? (i := 17) (by decide +kernel), rfl⟩⟩
theorem imJ5_append_cf1ce : xIn (.instanceMethod yJ5_append_cf1ce) := ⟨List.mem_of_getElem? (i := 365) (by decide +kernel), rfl⟩
theorem smJ5_append_cf1ce : xIn (.sameMethod RJ5 RJ5 "append" "(Ljava/lang/String;)Ljava/lang/AbstractStringBuilder;") := ⟨List.mem_of_getElem? (i := 366) (by decide +kernel), rfl⟩
theorem ssJ5_append_cf1ce : xIn (.selects RJ4 yJ5_append_cf1ce yJ4_append_cf1ce) := ⟨List.mem_of_getElem? (i := 367) (by decide +kernel), rfl⟩
theorem okJ5_append_3fe6f : xIn (.code yJ5_append_3fe6f cJ5_append_3fe6f 2 (some (.object "java/lang/AbstractStringBuilder"))) ∧ xIn (.initialized RJ5) := ⟨⟨List.mem_of_getElem? (i := 511) (by decide +kernel), rfl⟩, ⟨List.mem_of_getElem? (i := 17) (by decide +kernel), rfl⟩⟩
theorem imJ5_append_3fe6f : xIn (.instanceMethod yJ5_append_3fe6f) := ⟨List.mem_of_getElem? (i := 510) (by decide +kernel), rfl⟩
theorem smJ5_append_3fe6f : xIn (.sameMethod RJ5 RJ5 "append" "(C)Ljava/lang/AbstractStringBuilder;") := ⟨List.mem_of_getElem? (i := 1768) (by decide +kernel), rfl⟩
theorem okJ5_append_c97b9 : xIn (.code yJ5_append_c97b9 cJ5_append_c97b9 4 (some (.object "java/lang/AbstractStringBuilder"))) ∧ xIn (.initialized RJ5) := ⟨⟨List.mem_of_getElem? (i := 548) (by decide +kernel), rfl⟩, ⟨List.mem_of_getElem? (i := 17) (by decide +kernel), rfl⟩⟩
theorem imJ5_append_c97b9 : xIn (.instanceMethod yJ5_append_c97b9) := ⟨List.mem_of_getElem? (i := 547) (by decide +kernel), rfl⟩
theorem smJ5_append_c97b9 : xIn (.sameMethod RJ5 RJ5 "append" "(I)Ljava/lang/AbstractStringBuilder;") := ⟨List.mem_of_getElem? (i := 1769) (by decide +kernel), rfl⟩
theorem okJ5_getValue_6d5f1 : xIn (.code yJ5_getValue_6d5f1 cJ5_getValue_6d5f1 1 (some (.array .byte))) ∧ xIn (.initialized RJ5) := ⟨⟨List.mem_of_getElem? (i := 1721) (by decide +kernel), rfl⟩, ⟨List.mem_of_getElem? (i := 17) (by decide +kernel), rfl⟩⟩
theorem imJ5_getValue_6d5f1 : xIn (.instanceMethod yJ5_getValue_6d5f1) := ⟨List.mem_of_getElem? (i := 1718) (by decide +kernel), rfl⟩
theorem smJ5_getValue_6d5f1 : xIn (.sameMethod RJ5 RJ5 "getValue" "()[B") := ⟨List.mem_of_getElem? (i := 1719) (by decide +kernel), rfl⟩
theorem ssJ5_getValue_6d5f1 : xIn (.selects RJ4 yJ5_getValue_6d5f1 yJ5_getValue_6d5f1) := ⟨List.mem_of_getElem? (i := 1720) (by decide +kernel), rfl⟩
theorem okJ5_isLatin1_aae02 : xIn (.code yJ5_isLatin1_aae02 cJ5_isLatin1_aae02 1 (some .boolean)) ∧ xIn (.initialized RJ5) := ⟨⟨List.mem_of_getElem? (i := 419) (by decide +kernel), rfl⟩, ⟨List.mem_of_getElem? (i := 17) (by decide +kernel), rfl⟩⟩
theorem imJ5_isLatin1_aae02 : xIn (.instanceMethod yJ5_isLatin1_aae02) := ⟨List.mem_of_getElem? (i := 416) (by decide +kernel), rfl⟩
theorem smJ5_isLatin1_aae02 : xIn (.sameMethod RJ5 RJ5 "isLatin1" "()Z") := ⟨List.mem_of_getElem? (i := 417) (by decide +kernel), rfl⟩
theorem ssJ5_isLatin1_aae02 : xIn (.selects RJ4 yJ5_isLatin1_aae02 yJ5_isLatin1_aae02) := ⟨List.mem_of_getElem? (i := 418) (by decide +kernel), rfl⟩
theorem okJ5_inflateIfNeededFor_a7421 : xIn (.code yJ5_inflateIfNeededFor_a7421 cJ5_inflateIfNeededFor_a7421 2 none) ∧ xIn (.initialized RJ5) := ⟨⟨List.mem_of_getElem? (i := 454) (by decide +kernel), rfl⟩, ⟨List.mem_of_getElem? (i := 17) (by decide +kernel), rfl⟩⟩
theorem imJ5_inflateIfNeededFor_a7421 : xIn (.instanceMethod yJ5_inflateIfNeededFor_a7421) := ⟨List.mem_of_getElem? (i := 453) (by decide +kernel), rfl⟩
theorem smJ5_inflateIfNeededFor_a7421 : xIn (.sameMethod RJ5 RJ5 "inflateIfNeededFor" "(Ljava/lang/String;)V") := ⟨List.mem_of_getElem? (i := 1766) (by decide +kernel), rfl⟩
theorem okJ5_putStringAt_47b60 : xIn (.code yJ5_putStringAt_47b60 cJ5_putStringAt_47b60 3 none) ∧ xIn (.initialized RJ5) := ⟨⟨List.mem_of_getElem? (i := 450) (by decide +kernel), rfl⟩, ⟨List.mem_of_getElem? (i := 17) (by decide +kernel), rfl⟩⟩
theorem imJ5_putStringAt_47b60 : xIn (.instanceMethod yJ5_putStringAt_47b60) := ⟨List.mem_of_getElem? (i := 449) (by decide +kernel), rfl⟩
theorem smJ5_putStringAt_47b60 : xIn (.sameMethod RJ5 RJ5 "putStringAt" "(ILjava/lang/String;)V") := ⟨List.mem_of_getElem? (i := 1765) (by decide +kernel), rfl⟩
theorem okJ6_getChars_ba4f3 : xIn (.code yJ6_getChars_ba4f3 cJ6_getChars_ba4f3 7 (some .int)) ∧ xIn (.initialized RJ6) := ⟨⟨List.mem_of_getElem? (i := 554) (by decide +kernel), rfl⟩, ⟨List.mem_of_getElem? (i := 28) (by decide +kernel), rfl⟩⟩
theorem stJ6_getChars_ba4f3 : xIn (.static yJ6_getChars_ba4f3) := ⟨List.mem_of_getElem? (i := 553) (by decide +kernel), rfl⟩
theorem okJ6_stringSize_0f7a4 : xIn (.code yJ6_stringSize_0f7a4 cJ6_stringSize_0f7a4 4 (some .int)) ∧ xIn (.initialized RJ6) := ⟨⟨List.mem_of_getElem? (i := 551) (by decide +kernel), rfl⟩, ⟨List.mem_of_getElem? (i := 28) (by decide +kernel), rfl⟩⟩
theorem stJ6_stringSize_0f7a4 : xIn (.static yJ6_stringSize_0f7a4) := ⟨List.mem_of_getElem? (i := 550) (by decide +kernel), rfl⟩
theorem okJ6_bitCount_0f7a4 : xIn (.code yJ6_bitCount_0f7a4 cJ6_bitCount_0f7a4 1 (some .int)) ∧ xIn (.initialized RJ6) := ⟨⟨List.mem_of_getElem? (i := 1399) (by decide +kernel), rfl⟩, ⟨List.mem_of_getElem? (i := 28) (by decide +kernel), rfl⟩⟩
theorem stJ6_bitCount_0f7a4 : xIn (.static yJ6_bitCount_0f7a4) := ⟨List.mem_of_getElem? (i := 1398) (by decide +kernel), rfl⟩
theorem okJ9_floorDiv_7cf53 : xIn (.code yJ9_floorDiv_7cf53 cJ9_floorDiv_7cf53 3 (some .int)) ∧ xIn (.initialized RJ9) := ⟨⟨List.mem_of_getElem? (i := 983) (by decide +kernel), rfl⟩, ⟨List.mem_of_getElem? (i := 22) (by decide +kernel), rfl⟩⟩
theorem stJ9_floorDiv_7cf53 : xIn (.static yJ9_floorDiv_7cf53) := ⟨List.mem_of_getElem? (i := 982) (by decide +kernel), rfl⟩
theorem okJ9_floorMod_7cf53 : xIn (.code yJ9_floorMod_7cf53 cJ9_floorMod_7cf53 3 (some .int)) ∧ xIn (.initialized RJ9) := ⟨⟨List.mem_of_getElem? (i := 938) (by decide +kernel), rfl⟩, ⟨List.mem_of_getElem? (i := 22) (by decide +kernel), rfl⟩⟩
theorem stJ9_floorMod_7cf53 : xIn (.static yJ9_floorMod_7cf53) := ⟨List.mem_of_getElem? (i := 937) (by decide +kernel), rfl⟩
theorem okJ9_max_7cf53 : xIn (.code yJ9_max_7cf53 cJ9_max_7cf53 2 (some .int)) ∧ xIn (.initialized RJ9) := ⟨⟨List.mem_of_getElem? (i := 394) (by decide +kernel), rfl⟩, ⟨List.mem_of_getElem? (i := 22) (by decide +kernel), rfl⟩⟩
theorem stJ9_max_7cf53 : xIn (.static yJ9_max_7cf53) := ⟨List.mem_of_getElem? (i := 393) (by decide +kernel), rfl⟩
theorem okJ9_min_7cf53 : xIn (.code yJ9_min_7cf53 cJ9_min_7cf53 2 (some .int)) ∧ xIn (.initialized RJ9) := ⟨⟨List.mem_of_getElem? (i := 411) (by decide +kernel), rfl⟩, ⟨List.mem_of_getElem? (i := 22) (by decide +kernel), rfl⟩⟩
theorem stJ9_min_7cf53 : xIn (.static yJ9_min_7cf53) := ⟨List.mem_of_getElem? (i := 410) (by decide +kernel), rfl⟩
theorem okJ0_init_81219 : xIn (.code yJ0_init_81219 cJ0_init_81219 2 none) ∧ xIn (.initialized RJ0) := ⟨⟨List.mem_of_getElem? (i := 1712) (by decide +kernel), rfl⟩, ⟨List.mem_of_getElem? (i := 19) (by decide +kernel), rfl⟩⟩
theorem imJ0_init_81219 : xIn (.instanceMethod yJ0_init_81219) := ⟨List.mem_of_getElem? (i := 1711) (by decide +kernel), rfl⟩
theorem okJ0_length_8abf5 : xIn (.code yJ0_length_8abf5 cJ0_length_8abf5 1 (some .int)) ∧ xIn (.initialized RJ0) := ⟨⟨List.mem_of_getElem? (i := 347) (by decide +kernel), rfl⟩, ⟨List.mem_of_getElem? (i := 19) (by decide +kernel), rfl⟩⟩
theorem imJ0_length_8abf5 : xIn (.instanceMethod yJ0_length_8abf5) := ⟨List.mem_of_getElem? (i := 345) (by decide +kernel), rfl⟩
theorem seJ0_length_8abf5 : xIn (.selects RJ0 yJ0_length_8abf5 yJ0_length_8abf5) := ⟨List.mem_of_getElem? (i := 346) (by decide +kernel), rfl⟩
theorem okJ0_charAt_5068e : xIn (.code yJ0_charAt_5068e cJ0_charAt_5068e 2 (some .char)) ∧ xIn (.initialized RJ0) := ⟨⟨List.mem_of_getElem? (i := 698) (by decide +kernel), rfl⟩, ⟨List.mem_of_getElem? (i := 19) (by decide +kernel), rfl⟩⟩
theorem imJ0_charAt_5068e : xIn (.instanceMethod yJ0_charAt_5068e) := ⟨List.mem_of_getElem? (i := 696) (by decide +kernel), rfl⟩
theorem seJ0_charAt_5068e : xIn (.selects RJ0 yJ0_charAt_5068e yJ0_charAt_5068e) := ⟨List.mem_of_getElem? (i := 697) (by decide +kernel), rfl⟩
theorem okJ0_getBytes_840e7 : xIn (.code yJ0_getBytes_840e7 cJ0_getBytes_840e7 4 none) ∧ xIn (.initialized RJ0) := ⟨⟨List.mem_of_getElem? (i := 477) (by decide +kernel), rfl⟩, ⟨List.mem_of_getElem? (i := 19) (by decide +kernel), rfl⟩⟩
theorem imJ0_getBytes_840e7 : xIn (.instanceMethod yJ0_getBytes_840e7) := ⟨List.mem_of_getElem? (i := 475) (by decide +kernel), rfl⟩
theorem seJ0_getBytes_840e7 : xIn (.selects RJ0 yJ0_getBytes_840e7 yJ0_getBytes_840e7) := ⟨List.mem_of_getElem? (i := 476) (by decide +kernel), rfl⟩
theorem okJ0_init_db425 : xIn (.code yJ0_init_db425 cJ0_init_db425 5 none) ∧ xIn (.initialized RJ0) := ⟨⟨List.mem_of_getElem? (i := 1715) (by decide +kernel), rfl⟩, ⟨List.mem_of_getElem? (i := 19) (by decide +kernel), rfl⟩⟩
theorem imJ0_init_db425 : xIn (.instanceMethod yJ0_init_db425) := ⟨List.mem_of_getElem? (i := 1714) (by decide +kernel), rfl⟩
theorem okJ0_coder_7d493 : xIn (.code yJ0_coder_7d493 cJ0_coder_7d493 1 (some .byte)) ∧ xIn (.initialized RJ0) := ⟨⟨List.mem_of_getElem? (i := 351) (by decide +kernel), rfl⟩, ⟨List.mem_of_getElem? (i := 19) (by decide +kernel), rfl⟩⟩
theorem imJ0_coder_7d493 : xIn (.instanceMethod yJ0_coder_7d493) := ⟨List.mem_of_getElem? (i := 349) (by decide +kernel), rfl⟩
theorem seJ0_coder_7d493 : xIn (.selects RJ0 yJ0_coder_7d493 yJ0_coder_7d493) := ⟨List.mem_of_getElem? (i := 350) (by decide +kernel), rfl⟩
theorem okJ0_isLatin1_aae02 : xIn (.code yJ0_isLatin1_aae02 cJ0_isLatin1_aae02 1 (some .boolean)) ∧ xIn (.initialized RJ0) := ⟨⟨List.mem_of_getElem? (i := 702) (by decide +kernel), rfl⟩, ⟨List.mem_of_getElem? (i := 19) (by decide +kernel), rfl⟩⟩
theorem imJ0_isLatin1_aae02 : xIn (.instanceMethod yJ0_isLatin1_aae02) := ⟨List.mem_of_getElem? (i := 700) (by decide +kernel), rfl⟩
theorem seJ0_isLatin1_aae02 : xIn (.selects RJ0 yJ0_isLatin1_aae02 yJ0_isLatin1_aae02) := ⟨List.mem_of_getElem? (i := 701) (by decide +kernel), rfl⟩
theorem okJ0_checkIndex_df160 : xIn (.code yJ0_checkIndex_df160 cJ0_checkIndex_df160 2 none) ∧ xIn (.initialized RJ0) := ⟨⟨List.mem_of_getElem? (i := 523) (by decide +kernel), rfl⟩, ⟨List.mem_of_getElem? (i := 19) (by decide +kernel), rfl⟩⟩
theorem stJ0_checkIndex_df160 : xIn (.static yJ0_checkIndex_df160) := ⟨List.mem_of_getElem? (i := 522) (by decide +kernel), rfl⟩
theorem okJ0_checkBoundsOffCount_cabcc : xIn (.code yJ0_checkBoundsOffCount_cabcc cJ0_checkBoundsOffCount_cabcc 3 (some .int)) ∧ xIn (.initialized RJ0) := ⟨⟨List.mem_of_getElem? (i := 470) (by decide +kernel), rfl⟩, ⟨List.mem_of_getElem? (i := 19) (by decide +kernel), rfl⟩⟩
theorem stJ0_checkBoundsOffCount_cabcc : xIn (.static yJ0_checkBoundsOffCount_cabcc) := ⟨List.mem_of_getElem? (i := 469) (by decide +kernel), rfl⟩
theorem okJ0_checkBoundsBeginEnd_23922 : xIn (.code yJ0_checkBoundsBeginEnd_23922 cJ0_checkBoundsBeginEnd_23922 3 none) ∧ xIn (.initialized RJ0) := ⟨⟨List.mem_of_getElem? (i := 432) (by decide +kernel), rfl⟩, ⟨List.mem_of_getElem? (i := 19) (by decide +kernel), rfl⟩⟩
theorem stJ0_checkBoundsBeginEnd_23922 : xIn (.static yJ0_checkBoundsBeginEnd_23922) := ⟨List.mem_of_getElem? (i := 431) (by decide +kernel), rfl⟩
theorem okJ4_init_da8c8 : xIn (.code yJ4_init_da8c8 cJ4_init_da8c8 1 none) ∧ xIn (.initialized RJ4) := ⟨⟨List.mem_of_getElem? (i := 1561) (by decide +kernel), rfl⟩, ⟨List.mem_of_getElem? (i := 18) (by decide +kernel), rfl⟩⟩
theorem imJ4_init_da8c8 : xIn (.instanceMethod yJ4_init_da8c8) := ⟨List.mem_of_getElem? (i := 1560) (by decide +kernel), rfl⟩
theorem okJ4_init_a7421 : xIn (.code yJ4_init_a7421 cJ4_init_a7421 2 none) ∧ xIn (.initialized RJ4) := ⟨⟨List.mem_of_getElem? (i := 339) (by decide +kernel), rfl⟩, ⟨List.mem_of_getElem? (i := 18) (by decide +kernel), rfl⟩⟩
theorem imJ4_init_a7421 : xIn (.instanceMethod yJ4_init_a7421) := ⟨List.mem_of_getElem? (i := 338) (by decide +kernel), rfl⟩
theorem okJ4_append_15ec4 : xIn (.code yJ4_append_15ec4 cJ4_append_15ec4 2 (some (.object "java/lang/StringBuilder"))) ∧ xIn (.initialized RJ4) := ⟨⟨List.mem_of_getElem? (i := 373) (by decide +kernel), rfl⟩, ⟨List.mem_of_getElem? (i := 18) (by decide +kernel), rfl⟩⟩
theorem imJ4_append_15ec4 : xIn (.instanceMethod yJ4_append_15ec4) := ⟨List.mem_of_getElem? (i := 371) (by decide +kernel), rfl⟩
theorem seJ4_append_15ec4 : xIn (.selects RJ4 yJ4_append_15ec4 yJ4_append_15ec4) := ⟨List.mem_of_getElem? (i := 372) (by decide +kernel), rfl⟩
theorem okJ4_append_cf468 : xIn (.code yJ4_append_cf468 cJ4_append_cf468 2 (some (.object "java/lang/StringBuilder"))) ∧ xIn (.initialized RJ4) := ⟨⟨List.mem_of_getElem? (i := 508) (by decide +kernel), rfl⟩, ⟨List.mem_of_getElem? (i := 18) (by decide +kernel), rfl⟩⟩
theorem imJ4_append_cf468 : xIn (.instanceMethod yJ4_append_cf468) := ⟨List.mem_of_getElem? (i := 506) (by decide +kernel), rfl⟩
theorem seJ4_append_cf468 : xIn (.selects RJ4 yJ4_append_cf468 yJ4_append_cf468) := ⟨List.mem_of_getElem? (i := 507) (by decide +kernel), rfl⟩
theorem okJ4_append_bf812 : xIn (.code yJ4_append_bf812 cJ4_append_bf812 2 (some (.object "java/lang/StringBuilder"))) ∧ xIn (.initialized RJ4) := ⟨⟨List.mem_of_getElem? (i := 545) (by decide +kernel), rfl⟩, ⟨List.mem_of_getElem? (i := 18) (by decide +kernel), rfl⟩⟩
theorem imJ4_append_bf812 : xIn (.instanceMethod yJ4_append_bf812) := ⟨List.mem_of_getElem? (i := 543) (by decide +kernel), rfl⟩
theorem seJ4_append_bf812 : xIn (.selects RJ4 yJ4_append_bf812 yJ4_append_bf812) := ⟨List.mem_of_getElem? (i := 544) (by decide +kernel), rfl⟩
theorem okJ4_toString_0e30d : xIn (.code yJ4_toString_0e30d cJ4_toString_0e30d 1 (some (.object "java/lang/String"))) ∧ xIn (.initialized RJ4) := ⟨⟨List.mem_of_getElem? (i := 1707) (by decide +kernel), rfl⟩, ⟨List.mem_of_getElem? (i := 18) (by decide +kernel), rfl⟩⟩
theorem imJ4_toString_0e30d : xIn (.instanceMethod yJ4_toString_0e30d) := ⟨List.mem_of_getElem? (i := 1705) (by decide +kernel), rfl⟩
theorem seJ4_toString_0e30d : xIn (.selects RJ4 yJ4_toString_0e30d yJ4_toString_0e30d) := ⟨List.mem_of_getElem? (i := 1706) (by decide +kernel), rfl⟩
theorem okJ4_append_cf1ce : xIn (.code yJ4_append_cf1ce cJ4_append_cf1ce 2 (some (.object "java/lang/AbstractStringBuilder"))) ∧ xIn (.initialized RJ4) := ⟨⟨List.mem_of_getElem? (i := 369) (by decide +kernel), rfl⟩, ⟨List.mem_of_getElem? (i := 18) (by decide +kernel), rfl⟩⟩
theorem imJ4_append_cf1ce : xIn (.instanceMethod yJ4_append_cf1ce) := ⟨List.mem_of_getElem? (i := 368) (by decide +kernel), rfl⟩
theorem okJ4_charAt_5068e : xIn (.code yJ4_charAt_5068e cJ4_charAt_5068e 2 (some .char)) ∧ xIn (.initialized RJ4) := ⟨⟨List.mem_of_getElem? (i := 1608) (by decide +kernel), rfl⟩, ⟨List.mem_of_getElem? (i := 18) (by decide +kernel), rfl⟩⟩
theorem imJ4_charAt_5068e : xIn (.instanceMethod yJ4_charAt_5068e) := ⟨List.mem_of_getElem? (i := 1606) (by decide +kernel), rfl⟩
theorem seJ4_charAt_5068e : xIn (.selects RJ4 yJ4_charAt_5068e yJ4_charAt_5068e) := ⟨List.mem_of_getElem? (i := 1607) (by decide +kernel), rfl⟩
theorem okJ4_length_8abf5 : xIn (.code yJ4_length_8abf5 cJ4_length_8abf5 1 (some .int)) ∧ xIn (.initialized RJ4) := ⟨⟨List.mem_of_getElem? (i := 611) (by decide +kernel), rfl⟩, ⟨List.mem_of_getElem? (i := 18) (by decide +kernel), rfl⟩⟩
theorem imJ4_length_8abf5 : xIn (.instanceMethod yJ4_length_8abf5) := ⟨List.mem_of_getElem? (i := 609) (by decide +kernel), rfl⟩
theorem seJ4_length_8abf5 : xIn (.selects RJ4 yJ4_length_8abf5 yJ4_length_8abf5) := ⟨List.mem_of_getElem? (i := 610) (by decide +kernel), rfl⟩
theorem okJ1_charAt_3b067 : xIn (.code yJ1_charAt_3b067 cJ1_charAt_3b067 2 (some .char)) ∧ xIn (.initialized RJ1) := ⟨⟨List.mem_of_getElem? (i := 705) (by decide +kernel), rfl⟩, ⟨List.mem_of_getElem? (i := 26) (by decide +kernel), rfl⟩⟩
theorem stJ1_charAt_3b067 : xIn (.static yJ1_charAt_3b067) := ⟨List.mem_of_getElem? (i := 704) (by decide +kernel), rfl⟩
theorem okJ1_canEncode_fc78d : xIn (.code yJ1_canEncode_fc78d cJ1_canEncode_fc78d 1 (some .boolean)) ∧ xIn (.initialized RJ1) := ⟨⟨List.mem_of_getElem? (i := 514) (by decide +kernel), rfl⟩, ⟨List.mem_of_getElem? (i := 26) (by decide +kernel), rfl⟩⟩
theorem stJ1_canEncode_fc78d : xIn (.static yJ1_canEncode_fc78d) := ⟨List.mem_of_getElem? (i := 513) (by decide +kernel), rfl⟩
theorem okJ7_fill_53178 : xIn (.code yJ7_fill_53178 cJ7_fill_53178 4 none) ∧ xIn (.initialized RJ7) := ⟨⟨List.mem_of_getElem? (i := 801) (by decide +kernel), rfl⟩, ⟨List.mem_of_getElem? (i := 23) (by decide +kernel), rfl⟩⟩
theorem stJ7_fill_53178 : xIn (.static yJ7_fill_53178) := ⟨List.mem_of_getElem? (i := 800) (by decide +kernel), rfl⟩
theorem okJ7_copyOf_9075b : xIn (.code yJ7_copyOf_9075b cJ7_copyOf_9075b 3 (some (.array .byte))) ∧ xIn (.initialized RJ7) := ⟨⟨List.mem_of_getElem? (i := 401) (by decide +kernel), rfl⟩, ⟨List.mem_of_getElem? (i := 23) (by decide +kernel), rfl⟩⟩
theorem stJ7_copyOf_9075b : xIn (.static yJ7_copyOf_9075b) := ⟨List.mem_of_getElem? (i := 400) (by decide +kernel), rfl⟩
theorem okJ7_checkLength_df160 : xIn (.code yJ7_checkLength_df160 cJ7_checkLength_df160 2 none) ∧ xIn (.initialized RJ7) := ⟨⟨List.mem_of_getElem? (i := 1732) (by decide +kernel), rfl⟩, ⟨List.mem_of_getElem? (i := 23) (by decide +kernel), rfl⟩⟩
theorem stJ7_checkLength_df160 : xIn (.static yJ7_checkLength_df160) := ⟨List.mem_of_getElem? (i := 1731) (by decide +kernel), rfl⟩
theorem okJ7_copyOfRange_39247 : xIn (.code yJ7_copyOfRange_39247 cJ7_copyOfRange_39247 3 (some (.array .byte))) ∧ xIn (.initialized RJ7) := ⟨⟨List.mem_of_getElem? (i := 1726) (by decide +kernel), rfl⟩, ⟨List.mem_of_getElem? (i := 23) (by decide +kernel), rfl⟩⟩
theorem stJ7_copyOfRange_39247 : xIn (.static yJ7_copyOfRange_39247) := ⟨List.mem_of_getElem? (i := 1725) (by decide +kernel), rfl⟩
theorem okJ7_copyOfRangeByte_39247 : xIn (.code yJ7_copyOfRangeByte_39247 cJ7_copyOfRangeByte_39247 5 (some (.array .byte))) ∧ xIn (.initialized RJ7) := ⟨⟨List.mem_of_getElem? (i := 1729) (by decide +kernel), rfl⟩, ⟨List.mem_of_getElem? (i := 23) (by decide +kernel), rfl⟩⟩
theorem stJ7_copyOfRangeByte_39247 : xIn (.static yJ7_copyOfRangeByte_39247) := ⟨List.mem_of_getElem? (i := 1728) (by decide +kernel), rfl⟩
theorem okJ8_newLength_cabcc : xIn (.code yJ8_newLength_cabcc cJ8_newLength_cabcc 4 (some .int)) ∧ xIn (.initialized RJ8) := ⟨⟨List.mem_of_getElem? (i := 391) (by decide +kernel), rfl⟩, ⟨List.mem_of_getElem? (i := 21) (by decide +kernel), rfl⟩⟩
theorem stJ8_newLength_cabcc : xIn (.static yJ8_newLength_cabcc) := ⟨List.mem_of_getElem? (i := 390) (by decide +kernel), rfl⟩
theorem okJ3_checkIndex_8e157 : xIn (.code yJ3_checkIndex_8e157 cJ3_checkIndex_8e157 3 (some .int)) ∧ xIn (.initialized RJ3) := ⟨⟨List.mem_of_getElem? (i := 526) (by decide +kernel), rfl⟩, ⟨List.mem_of_getElem? (i := 25) (by decide +kernel), rfl⟩⟩
theorem stJ3_checkIndex_8e157 : xIn (.static yJ3_checkIndex_8e157) := ⟨List.mem_of_getElem? (i := 525) (by decide +kernel), rfl⟩
theorem okJ3_checkFromToIndex_8c36e : xIn (.code yJ3_checkFromToIndex_8c36e cJ3_checkFromToIndex_8c36e 4 (some .int)) ∧ xIn (.initialized RJ3) := ⟨⟨List.mem_of_getElem? (i := 437) (by decide +kernel), rfl⟩, ⟨List.mem_of_getElem? (i := 25) (by decide +kernel), rfl⟩⟩
theorem stJ3_checkFromToIndex_8c36e : xIn (.static yJ3_checkFromToIndex_8c36e) := ⟨List.mem_of_getElem? (i := 436) (by decide +kernel), rfl⟩
theorem okJ3_checkFromIndexSize_8c36e : xIn (.code yJ3_checkFromIndexSize_8c36e cJ3_checkFromIndexSize_8c36e 4 (some .int)) ∧ xIn (.initialized RJ3) := ⟨⟨List.mem_of_getElem? (i := 473) (by decide +kernel), rfl⟩, ⟨List.mem_of_getElem? (i := 25) (by decide +kernel), rfl⟩⟩
theorem stJ3_checkFromIndexSize_8c36e : xIn (.static yJ3_checkFromIndexSize_8c36e) := ⟨List.mem_of_getElem? (i := 472) (by decide +kernel), rfl⟩
theorem okL_feeds : xIn (.code yL_feeds cL_feeds 5 (some .boolean)) ∧ xIn (.initialized RL) := ⟨⟨List.mem_of_getElem? (i := 693) (by decide +kernel), rfl⟩, ⟨List.mem_of_getElem? (i := 14) (by decide +kernel), rfl⟩⟩
theorem stL_feeds : xIn (.static yL_feeds) := ⟨List.mem_of_getElem? (i := 692) (by decide +kernel), rfl⟩
theorem okL_tell : xIn (.code yL_tell cL_tell 2 (some .int)) ∧ xIn (.initialized RL) := ⟨⟨List.mem_of_getElem? (i := 690) (by decide +kernel), rfl⟩, ⟨List.mem_of_getElem? (i := 14) (by decide +kernel), rfl⟩⟩
theorem stL_tell : xIn (.static yL_tell) := ⟨List.mem_of_getElem? (i := 689) (by decide +kernel), rfl⟩
theorem okL_calls : xIn (.code yL_calls cL_calls 6 (some .long)) ∧ xIn (.initialized RL) := ⟨⟨List.mem_of_getElem? (i := 1106) (by decide +kernel), rfl⟩, ⟨List.mem_of_getElem? (i := 14) (by decide +kernel), rfl⟩⟩
theorem stL_calls : xIn (.static yL_calls) := ⟨List.mem_of_getElem? (i := 1105) (by decide +kernel), rfl⟩
theorem okL_thrown : xIn (.codeWith yL_thrown cL_thrown 7 (some .int) [(0, 23, 24, 146), (0, 23, 28, 148), (0, 23, 32, 150)]) ∧ xIn (.initialized RL) := ⟨⟨List.mem_of_getElem? (i := 1100) (by decide +kernel), rfl⟩, ⟨List.mem_of_getElem? (i := 14) (by decide +kernel), rfl⟩⟩
theorem stL_thrown : xIn (.static yL_thrown) := ⟨List.mem_of_getElem? (i := 1099) (by decide +kernel), rfl⟩
theorem okL_cyclic : xIn (.code yL_cyclic cL_cyclic 4 (some (.array (.array .int)))) ∧ xIn (.initialized RL) := ⟨⟨List.mem_of_getElem? (i := 569) (by decide +kernel), rfl⟩, ⟨List.mem_of_getElem? (i := 14) (by decide +kernel), rfl⟩⟩
theorem stL_cyclic : xIn (.static yL_cyclic) := ⟨List.mem_of_getElem? (i := 568) (by decide +kernel), rfl⟩
theorem okL_dihedral : xIn (.code yL_dihedral cL_dihedral 5 (some (.array (.array .int)))) ∧ xIn (.initialized RL) := ⟨⟨List.mem_of_getElem? (i := 530) (by decide +kernel), rfl⟩, ⟨List.mem_of_getElem? (i := 14) (by decide +kernel), rfl⟩⟩
theorem stL_dihedral : xIn (.static yL_dihedral) := ⟨List.mem_of_getElem? (i := 529) (by decide +kernel), rfl⟩
theorem okL_quaternion : xIn (.code yL_quaternion cL_quaternion 4 (some (.array (.array .int)))) ∧ xIn (.initialized RL) := ⟨⟨List.mem_of_getElem? (i := 539) (by decide +kernel), rfl⟩, ⟨List.mem_of_getElem? (i := 14) (by decide +kernel), rfl⟩⟩
theorem stL_quaternion : xIn (.static yL_quaternion) := ⟨List.mem_of_getElem? (i := 538) (by decide +kernel), rfl⟩
theorem okL_product : xIn (.code yL_product cL_product 6 (some (.array (.array .int)))) ∧ xIn (.initialized RL) := ⟨⟨List.mem_of_getElem? (i := 535) (by decide +kernel), rfl⟩, ⟨List.mem_of_getElem? (i := 14) (by decide +kernel), rfl⟩⟩
theorem stL_product : xIn (.static yL_product) := ⟨List.mem_of_getElem? (i := 534) (by decide +kernel), rfl⟩
theorem okL_inverse : xIn (.code yL_inverse cL_inverse 3 (some .int)) ∧ xIn (.initialized RL) := ⟨⟨List.mem_of_getElem? (i := 625) (by decide +kernel), rfl⟩, ⟨List.mem_of_getElem? (i := 14) (by decide +kernel), rfl⟩⟩
theorem stL_inverse : xIn (.static yL_inverse) := ⟨List.mem_of_getElem? (i := 624) (by decide +kernel), rfl⟩
theorem okL_isAbelian : xIn (.code yL_isAbelian cL_isAbelian 4 (some .boolean)) ∧ xIn (.initialized RL) := ⟨⟨List.mem_of_getElem? (i := 617) (by decide +kernel), rfl⟩, ⟨List.mem_of_getElem? (i := 14) (by decide +kernel), rfl⟩⟩
theorem stL_isAbelian : xIn (.static yL_isAbelian) := ⟨List.mem_of_getElem? (i := 616) (by decide +kernel), rfl⟩
theorem okL_order : xIn (.code yL_order cL_order 4 (some .int)) ∧ xIn (.initialized RL) := ⟨⟨List.mem_of_getElem? (i := 1580) (by decide +kernel), rfl⟩, ⟨List.mem_of_getElem? (i := 14) (by decide +kernel), rfl⟩⟩
theorem stL_order : xIn (.static yL_order) := ⟨List.mem_of_getElem? (i := 1579) (by decide +kernel), rfl⟩
theorem okL_isLike : xIn (.code yL_isLike cL_isLike 6 (some .boolean)) ∧ xIn (.initialized RL) := ⟨⟨List.mem_of_getElem? (i := 1530) (by decide +kernel), rfl⟩, ⟨List.mem_of_getElem? (i := 14) (by decide +kernel), rfl⟩⟩
theorem stL_isLike : xIn (.static yL_isLike) := ⟨List.mem_of_getElem? (i := 1529) (by decide +kernel), rfl⟩
theorem okL_act : xIn (.code yL_act cL_act 9 (some .boolean)) ∧ xIn (.initialized RL) := ⟨⟨List.mem_of_getElem? (i := 1546) (by decide +kernel), rfl⟩, ⟨List.mem_of_getElem? (i := 14) (by decide +kernel), rfl⟩⟩
theorem stL_act : xIn (.static yL_act) := ⟨List.mem_of_getElem? (i := 1545) (by decide +kernel), rfl⟩
theorem okL_moves : xIn (.code yL_moves cL_moves 11 (some .boolean)) ∧ xIn (.initialized RL) := ⟨⟨List.mem_of_getElem? (i := 1553) (by decide +kernel), rfl⟩, ⟨List.mem_of_getElem? (i := 14) (by decide +kernel), rfl⟩⟩
theorem stL_moves : xIn (.static yL_moves) := ⟨List.mem_of_getElem? (i := 1552) (by decide +kernel), rfl⟩
theorem okL_turns : xIn (.code yL_turns cL_turns 8 (some .boolean)) ∧ xIn (.initialized RL) := ⟨⟨List.mem_of_getElem? (i := 1549) (by decide +kernel), rfl⟩, ⟨List.mem_of_getElem? (i := 14) (by decide +kernel), rfl⟩⟩
theorem stL_turns : xIn (.static yL_turns) := ⟨List.mem_of_getElem? (i := 1548) (by decide +kernel), rfl⟩
theorem okL_isText : xIn (.code yL_isText cL_isText 3 (some .boolean)) ∧ xIn (.initialized RL) := ⟨⟨List.mem_of_getElem? (i := 1604) (by decide +kernel), rfl⟩, ⟨List.mem_of_getElem? (i := 14) (by decide +kernel), rfl⟩⟩
theorem stL_isText : xIn (.static yL_isText) := ⟨List.mem_of_getElem? (i := 1603) (by decide +kernel), rfl⟩
theorem okL_groups : xIn (.code yL_groups cL_groups 9 (some .boolean)) ∧ xIn (.initialized RL) := ⟨⟨List.mem_of_getElem? (i := 1557) (by decide +kernel), rfl⟩, ⟨List.mem_of_getElem? (i := 14) (by decide +kernel), rfl⟩⟩
theorem stL_groups : xIn (.static yL_groups) := ⟨List.mem_of_getElem? (i := 1556) (by decide +kernel), rfl⟩
theorem okL_modules : xIn (.code yL_modules cL_modules 11 (some .boolean)) ∧ xIn (.initialized RL) := ⟨⟨List.mem_of_getElem? (i := 1617) (by decide +kernel), rfl⟩, ⟨List.mem_of_getElem? (i := 14) (by decide +kernel), rfl⟩⟩
theorem stL_modules : xIn (.static yL_modules) := ⟨List.mem_of_getElem? (i := 1616) (by decide +kernel), rfl⟩
theorem okL_areLike : xIn (.code yL_areLike cL_areLike 6 (some .boolean)) ∧ xIn (.initialized RL) := ⟨⟨List.mem_of_getElem? (i := 1698) (by decide +kernel), rfl⟩, ⟨List.mem_of_getElem? (i := 14) (by decide +kernel), rfl⟩⟩
theorem stL_areLike : xIn (.static yL_areLike) := ⟨List.mem_of_getElem? (i := 1697) (by decide +kernel), rfl⟩
theorem okL_like : xIn (.code yL_like cL_like 3 (some .int)) ∧ xIn (.initialized RL) := ⟨⟨List.mem_of_getElem? (i := 1695) (by decide +kernel), rfl⟩, ⟨List.mem_of_getElem? (i := 14) (by decide +kernel), rfl⟩⟩
theorem stL_like : xIn (.static yL_like) := ⟨List.mem_of_getElem? (i := 1694) (by decide +kernel), rfl⟩
theorem okL_pairs : xIn (.code yL_pairs cL_pairs 9 (some .boolean)) ∧ xIn (.initialized RL) := ⟨⟨List.mem_of_getElem? (i := 1671) (by decide +kernel), rfl⟩, ⟨List.mem_of_getElem? (i := 14) (by decide +kernel), rfl⟩⟩
theorem stL_pairs : xIn (.static yL_pairs) := ⟨List.mem_of_getElem? (i := 1670) (by decide +kernel), rfl⟩
theorem supSB : xIn (.superclass RJ4 RJ5) := ⟨List.mem_of_getElem? (i := 375) (by decide +kernel), rfl⟩
