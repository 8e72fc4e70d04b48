theorem inX0 : GoodIn lw_tbl (u_ws RX0 TX0 4) := goodIn_r _ [280, 282, 284, 286] (by decide +kernel) (by decide +kernel)
theorem inX1 : GoodIn lw_tbl (u_ws RX1 TX1 8) := goodIn_r _ [242, 244, 246, 248, 250, 252, 254, 256] (by decide +kernel) (by decide +kernel)
theorem inX2 : GoodIn lw_tbl (u_ws RX2 TX2 4) := goodIn_r _ [174, 176, 178, 180] (by decide +kernel) (by decide +kernel)
theorem inX3 : GoodIn lw_tbl (u_ws RX3 TX3 3) := goodIn_r _ [143, 145, 147] (by decide +kernel) (by decide +kernel)
theorem inX4 : GoodIn lw_tbl (u_ws RX4 TX4 5) := goodIn_r _ [203, 205, 207, 209, 211] (by decide +kernel) (by decide +kernel)
theorem inX5 : GoodIn lw_tbl (u_ws RX5 TX5 4) := goodIn_r _ [524, 526, 528, 530] (by decide +kernel) (by decide +kernel)
theorem inX6 : GoodIn lw_tbl (u_ws RX6 TX6 7) := goodIn_r _ [499, 501, 503, 505, 507, 509, 511] (by decide +kernel) (by decide +kernel)
theorem inX7 : GoodIn lw_tbl (u_ws RX7 TX7 7) := goodIn_r _ [309, 311, 313, 315, 317, 319, 321] (by decide +kernel) (by decide +kernel)
theorem inX8 : GoodIn lw_tbl (u_ws RX8 TX8 14) := goodIn_r _ [340, 342, 344, 346, 348, 350, 352, 354, 356, 358, 360, 362, 364, 366] (by decide +kernel) (by decide +kernel)
theorem inX9 : GoodIn lw_tbl (u_ws RX9 TX9 45) := goodIn_r _ [1579, 1581, 1583, 1585, 1587, 1589, 1591, 1593, 1595, 1597, 1599, 1601, 1603, 1605, 1607, 1609, 1611, 1613, 1615, 1617, 1619, 1621, 1623, 1625, 1627, 1629, 1631, 1633, 1635, 1637, 1639, 1641, 1643, 1645, 1647, 1649, 1651, 1653, 1655, 1657, 1659, 1661, 1663, 1665, 1667] (by decide +kernel) (by decide +kernel)
theorem fkX8_9 : xIn (.fieldLink RX8 9 "CrossedModules" "buffer" "[B") := ⟨List.mem_of_getElem? (i := 326) (by decide +kernel), rfl⟩
theorem fkX8_13 : xIn (.fieldLink RX8 13 "CrossedModules" "lastErrorAt" "I") := ⟨List.mem_of_getElem? (i := 329) (by decide +kernel), rfl⟩
theorem fkX8_20 : xIn (.fieldLink RX8 20 "CrossedModules" "world" "LCrossedModules$World;") := ⟨List.mem_of_getElem? (i := 331) (by decide +kernel), rfl⟩
theorem fkX8_24 : xIn (.fieldLink RX8 24 "CrossedModules" "spare" "LCrossedModules$World;") := ⟨List.mem_of_getElem? (i := 332) (by decide +kernel), rfl⟩
theorem fkX8_29 : xIn (.fieldLink RX8 29 "CrossedModules" "undoStates" "[[I") := ⟨List.mem_of_getElem? (i := 333) (by decide +kernel), rfl⟩
theorem fkX8_32 : xIn (.fieldLink RX8 32 "CrossedModules" "slotStates" "[[I") := ⟨List.mem_of_getElem? (i := 336) (by decide +kernel), rfl⟩
theorem fkX8_35 : xIn (.fieldLink RX8 35 "CrossedModules" "text" "[B") := ⟨List.mem_of_getElem? (i := 338) (by decide +kernel), rfl⟩
theorem fkX8_38 : xIn (.fieldLink RX8 38 "CrossedModules" "filled" "I") := ⟨List.mem_of_getElem? (i := 327) (by decide +kernel), rfl⟩
theorem fkX8_66 : xIn (.fieldLink RX8 66 "CrossedModules$Parser" "error" "I") := ⟨List.mem_of_getElem? (i := 521) (by decide +kernel), rfl⟩
theorem fkX8_69 : xIn (.fieldLink RX8 69 "CrossedModules" "lastError" "I") := ⟨List.mem_of_getElem? (i := 328) (by decide +kernel), rfl⟩
theorem fkX8_72 : xIn (.fieldLink RX8 72 "CrossedModules$Parser" "errorAt" "I") := ⟨List.mem_of_getElem? (i := 523) (by decide +kernel), rfl⟩
theorem fkX8_81 : xIn (.fieldLink RX8 81 "CrossedModules" "loaded" "Z") := ⟨List.mem_of_getElem? (i := 330) (by decide +kernel), rfl⟩
theorem fkX8_88 : xIn (.fieldLink RX8 88 "CrossedModules" "savedSlots" "I") := ⟨List.mem_of_getElem? (i := 337) (by decide +kernel), rfl⟩
theorem fkX8_91 : xIn (.fieldLink RX8 91 "CrossedModules$World" "moduleNames" "LCrossedModules$Names;") := ⟨List.mem_of_getElem? (i := 293) (by decide +kernel), rfl⟩
theorem fkX8_95 : xIn (.fieldLink RX8 95 "CrossedModules$Names" "total" "I") := ⟨List.mem_of_getElem? (i := 141) (by decide +kernel), rfl⟩
theorem fkX8_123 : xIn (.fieldLink RX8 123 "CrossedModules$Group" "elements" "I") := ⟨List.mem_of_getElem? (i := 172) (by decide +kernel), rfl⟩
theorem fkX8_158 : xIn (.fieldLink RX8 158 "CrossedModules$Crossed" "lower" "LCrossedModules$Group;") := ⟨List.mem_of_getElem? (i := 226) (by decide +kernel), rfl⟩
theorem fkX8_164 : xIn (.fieldLink RX8 164 "CrossedModules$Group" "number" "I") := ⟨List.mem_of_getElem? (i := 165) (by decide +kernel), rfl⟩
theorem fkX8_167 : xIn (.fieldLink RX8 167 "CrossedModules$Crossed" "upper" "LCrossedModules$Group;") := ⟨List.mem_of_getElem? (i := 221) (by decide +kernel), rfl⟩
theorem fkX8_176 : xIn (.fieldLink RX8 176 "CrossedModules$Crossed" "reason" "I") := ⟨List.mem_of_getElem? (i := 241) (by decide +kernel), rfl⟩
theorem fkX8_201 : xIn (.fieldLink RX8 201 "CrossedModules$Pair" "classCount" "I") := ⟨List.mem_of_getElem? (i := 202) (by decide +kernel), rfl⟩
theorem fkX8_216 : xIn (.fieldLink RX8 216 "CrossedModules$Pair" "classOrders" "[I") := ⟨List.mem_of_getElem? (i := 199) (by decide +kernel), rfl⟩
theorem fkX8_220 : xIn (.fieldLink RX8 220 "CrossedModules$Pair" "kernelOrders" "[I") := ⟨List.mem_of_getElem? (i := 197) (by decide +kernel), rfl⟩
theorem fkX8_231 : xIn (.fieldLink RX8 231 "CrossedModules$World" "modules" "[LCrossedModules$Crossed;") := ⟨List.mem_of_getElem? (i := 303) (by decide +kernel), rfl⟩
theorem fkX8_264 : xIn (.fieldLink RX8 264 "CrossedModules$Arrow" "to" "LCrossedModules$Crossed;") := ⟨List.mem_of_getElem? (i := 271) (by decide +kernel), rfl⟩
theorem fkX8_270 : xIn (.fieldLink RX8 270 "CrossedModules$Crossed" "number" "I") := ⟨List.mem_of_getElem? (i := 216) (by decide +kernel), rfl⟩
theorem fkX8_271 : xIn (.fieldLink RX8 271 "CrossedModules$Arrow" "from" "LCrossedModules$Crossed;") := ⟨List.mem_of_getElem? (i := 267) (by decide +kernel), rfl⟩
theorem fkX8_296 : xIn (.fieldLink RX8 296 "CrossedModules$World" "accounts" "[I") := ⟨List.mem_of_getElem? (i := 308) (by decide +kernel), rfl⟩
theorem fkX8_299 : xIn (.fieldLink RX8 299 "CrossedModules" "textLength" "I") := ⟨List.mem_of_getElem? (i := 339) (by decide +kernel), rfl⟩
theorem fkX8_308 : xIn (.fieldLink RX8 308 "CrossedModules$Crossed" "boundaries" "[I") := ⟨List.mem_of_getElem? (i := 230) (by decide +kernel), rfl⟩
theorem fkX8_319 : xIn (.fieldLink RX8 319 "CrossedModules$Crossed" "actions" "[I") := ⟨List.mem_of_getElem? (i := 234) (by decide +kernel), rfl⟩
theorem fkX8_328 : xIn (.fieldLink RX8 328 "CrossedModules$Arrow" "tops" "[I") := ⟨List.mem_of_getElem? (i := 275) (by decide +kernel), rfl⟩
theorem fkX8_331 : xIn (.fieldLink RX8 331 "CrossedModules$Arrow" "bottoms" "[I") := ⟨List.mem_of_getElem? (i := 279) (by decide +kernel), rfl⟩
theorem fkX8_334 : xIn (.fieldLink RX8 334 "CrossedModules" "undoCount" "I") := ⟨List.mem_of_getElem? (i := 335) (by decide +kernel), rfl⟩
theorem fkX8_377 : xIn (.fieldLink RX8 377 "CrossedModules$World" "groupNames" "LCrossedModules$Names;") := ⟨List.mem_of_getElem? (i := 291) (by decide +kernel), rfl⟩
theorem fkX8_380 : xIn (.fieldLink RX8 380 "CrossedModules$World" "groups" "[LCrossedModules$Group;") := ⟨List.mem_of_getElem? (i := 300) (by decide +kernel), rfl⟩
theorem fkX8_384 : xIn (.fieldLink RX8 384 "CrossedModules$World" "arrowNames" "LCrossedModules$Names;") := ⟨List.mem_of_getElem? (i := 297) (by decide +kernel), rfl⟩
theorem fkX8_387 : xIn (.fieldLink RX8 387 "CrossedModules$World" "arrows" "[LCrossedModules$Arrow;") := ⟨List.mem_of_getElem? (i := 306) (by decide +kernel), rfl⟩
theorem fkX8_391 : xIn (.fieldLink RX8 391 "CrossedModules" "firstUndo" "I") := ⟨List.mem_of_getElem? (i := 334) (by decide +kernel), rfl⟩
theorem fkX0_9 : xIn (.fieldLink RX0 9 "CrossedModules$Arrow" "tops" "[I") := ⟨List.mem_of_getElem? (i := 272) (by decide +kernel), rfl⟩
theorem fkX0_15 : xIn (.fieldLink RX0 15 "CrossedModules$Arrow" "bottoms" "[I") := ⟨List.mem_of_getElem? (i := 276) (by decide +kernel), rfl⟩
theorem fkX0_18 : xIn (.fieldLink RX0 18 "CrossedModules$Arrow" "from" "LCrossedModules$Crossed;") := ⟨List.mem_of_getElem? (i := 264) (by decide +kernel), rfl⟩
theorem fkX0_22 : xIn (.fieldLink RX0 22 "CrossedModules$Arrow" "to" "LCrossedModules$Crossed;") := ⟨List.mem_of_getElem? (i := 268) (by decide +kernel), rfl⟩
theorem fkX0_29 : xIn (.fieldLink RX0 29 "CrossedModules$Crossed" "reason" "I") := ⟨List.mem_of_getElem? (i := 239) (by decide +kernel), rfl⟩
theorem fkX0_35 : xIn (.fieldLink RX0 35 "CrossedModules$Crossed" "upper" "LCrossedModules$Group;") := ⟨List.mem_of_getElem? (i := 218) (by decide +kernel), rfl⟩
theorem fkX0_43 : xIn (.fieldLink RX0 43 "CrossedModules$Crossed" "lower" "LCrossedModules$Group;") := ⟨List.mem_of_getElem? (i := 223) (by decide +kernel), rfl⟩
theorem fkX0_53 : xIn (.fieldLink RX0 53 "CrossedModules$Group" "elements" "I") := ⟨List.mem_of_getElem? (i := 169) (by decide +kernel), rfl⟩
theorem fkX0_98 : xIn (.fieldLink RX0 98 "CrossedModules$Crossed" "pair" "LCrossedModules$Pair;") := ⟨List.mem_of_getElem? (i := 236) (by decide +kernel), rfl⟩
theorem fkX0_111 : xIn (.fieldLink RX0 111 "CrossedModules$Pair" "classCount" "I") := ⟨List.mem_of_getElem? (i := 201) (by decide +kernel), rfl⟩
theorem fkX1_9 : xIn (.fieldLink RX1 9 "CrossedModules$Crossed" "boundaries" "[I") := ⟨List.mem_of_getElem? (i := 227) (by decide +kernel), rfl⟩
theorem fkX1_15 : xIn (.fieldLink RX1 15 "CrossedModules$Crossed" "actions" "[I") := ⟨List.mem_of_getElem? (i := 231) (by decide +kernel), rfl⟩
theorem fkX1_21 : xIn (.fieldLink RX1 21 "CrossedModules$Crossed" "pair" "LCrossedModules$Pair;") := ⟨List.mem_of_getElem? (i := 235) (by decide +kernel), rfl⟩
theorem fkX1_25 : xIn (.fieldLink RX1 25 "CrossedModules$Crossed" "number" "I") := ⟨List.mem_of_getElem? (i := 214) (by decide +kernel), rfl⟩
theorem fkX1_29 : xIn (.fieldLink RX1 29 "CrossedModules$Crossed" "upper" "LCrossedModules$Group;") := ⟨List.mem_of_getElem? (i := 217) (by decide +kernel), rfl⟩
theorem fkX1_33 : xIn (.fieldLink RX1 33 "CrossedModules$Crossed" "lower" "LCrossedModules$Group;") := ⟨List.mem_of_getElem? (i := 222) (by decide +kernel), rfl⟩
theorem fkX1_36 : xIn (.fieldLink RX1 36 "CrossedModules$Crossed" "told" "I") := ⟨List.mem_of_getElem? (i := 237) (by decide +kernel), rfl⟩
theorem fkX1_56 : xIn (.fieldLink RX1 56 "CrossedModules$Group" "elements" "I") := ⟨List.mem_of_getElem? (i := 170) (by decide +kernel), rfl⟩
theorem fkX2_9 : xIn (.fieldLink RX2 9 "CrossedModules$Group" "table" "[I") := ⟨List.mem_of_getElem? (i := 166) (by decide +kernel), rfl⟩
theorem fkX2_15 : xIn (.fieldLink RX2 15 "CrossedModules$Group" "opposites" "[I") := ⟨List.mem_of_getElem? (i := 167) (by decide +kernel), rfl⟩
theorem fkX2_18 : xIn (.fieldLink RX2 18 "CrossedModules$Group" "elements" "I") := ⟨List.mem_of_getElem? (i := 168) (by decide +kernel), rfl⟩
theorem fkX2_22 : xIn (.fieldLink RX2 22 "CrossedModules$Group" "number" "I") := ⟨List.mem_of_getElem? (i := 164) (by decide +kernel), rfl⟩
theorem fkX3_9 : xIn (.fieldLink RX3 9 "CrossedModules$Names" "words" "[J") := ⟨List.mem_of_getElem? (i := 137) (by decide +kernel), rfl⟩
theorem fkX3_15 : xIn (.fieldLink RX3 15 "CrossedModules$Names" "lengths" "[I") := ⟨List.mem_of_getElem? (i := 138) (by decide +kernel), rfl⟩
theorem fkX3_19 : xIn (.fieldLink RX3 19 "CrossedModules$Names" "total" "I") := ⟨List.mem_of_getElem? (i := 139) (by decide +kernel), rfl⟩
theorem fkX4_9 : xIn (.fieldLink RX4 9 "CrossedModules$Pair" "numbers" "[I") := ⟨List.mem_of_getElem? (i := 194) (by decide +kernel), rfl⟩
theorem fkX4_15 : xIn (.fieldLink RX4 15 "CrossedModules$Pair" "leasts" "[I") := ⟨List.mem_of_getElem? (i := 195) (by decide +kernel), rfl⟩
theorem fkX4_18 : xIn (.fieldLink RX4 18 "CrossedModules$Pair" "kernelOrders" "[I") := ⟨List.mem_of_getElem? (i := 196) (by decide +kernel), rfl⟩
theorem fkX4_21 : xIn (.fieldLink RX4 21 "CrossedModules$Pair" "classOrders" "[I") := ⟨List.mem_of_getElem? (i := 198) (by decide +kernel), rfl⟩
theorem fkX4_24 : xIn (.fieldLink RX4 24 "CrossedModules$Pair" "classCount" "I") := ⟨List.mem_of_getElem? (i := 200) (by decide +kernel), rfl⟩
theorem fkX4_47 : xIn (.fieldLink RX4 47 "CrossedModules$Crossed" "lower" "LCrossedModules$Group;") := ⟨List.mem_of_getElem? (i := 224) (by decide +kernel), rfl⟩
theorem fkX4_53 : xIn (.fieldLink RX4 53 "CrossedModules$Group" "elements" "I") := ⟨List.mem_of_getElem? (i := 171) (by decide +kernel), rfl⟩
theorem fkX4_64 : xIn (.fieldLink RX4 64 "CrossedModules$Crossed" "upper" "LCrossedModules$Group;") := ⟨List.mem_of_getElem? (i := 219) (by decide +kernel), rfl⟩
theorem fkX5_9 : xIn (.fieldLink RX5 9 "CrossedModules$Parser" "errorAt" "I") := ⟨List.mem_of_getElem? (i := 522) (by decide +kernel), rfl⟩
theorem fkX5_15 : xIn (.fieldLink RX5 15 "CrossedModules$Parser" "tokens" "LCrossedModules$Tokens;") := ⟨List.mem_of_getElem? (i := 518) (by decide +kernel), rfl⟩
theorem fkX5_19 : xIn (.fieldLink RX5 19 "CrossedModules$Parser" "world" "LCrossedModules$World;") := ⟨List.mem_of_getElem? (i := 519) (by decide +kernel), rfl⟩
theorem fkX5_23 : xIn (.fieldLink RX5 23 "CrossedModules$Parser" "error" "I") := ⟨List.mem_of_getElem? (i := 520) (by decide +kernel), rfl⟩
theorem fkX5_26 : xIn (.fieldLink RX5 26 "CrossedModules$Tokens" "start" "I") := ⟨List.mem_of_getElem? (i := 489) (by decide +kernel), rfl⟩
theorem fkX5_44 : xIn (.fieldLink RX5 44 "CrossedModules$Tokens" "kind" "I") := ⟨List.mem_of_getElem? (i := 493) (by decide +kernel), rfl⟩
theorem fkX5_71 : xIn (.fieldLink RX5 71 "CrossedModules$World" "groupNames" "LCrossedModules$Names;") := ⟨List.mem_of_getElem? (i := 290) (by decide +kernel), rfl⟩
theorem fkX5_81 : xIn (.fieldLink RX5 81 "CrossedModules$World" "groups" "[LCrossedModules$Group;") := ⟨List.mem_of_getElem? (i := 299) (by decide +kernel), rfl⟩
theorem fkX5_85 : xIn (.fieldLink RX5 85 "CrossedModules$Names" "total" "I") := ⟨List.mem_of_getElem? (i := 142) (by decide +kernel), rfl⟩
theorem fkX5_115 : xIn (.fieldLink RX5 115 "CrossedModules$Tokens" "value" "I") := ⟨List.mem_of_getElem? (i := 498) (by decide +kernel), rfl⟩
theorem fkX5_137 : xIn (.fieldLink RX5 137 "CrossedModules$Group" "elements" "I") := ⟨List.mem_of_getElem? (i := 173) (by decide +kernel), rfl⟩
theorem fkX5_144 : xIn (.fieldLink RX5 144 "CrossedModules$World" "moduleNames" "LCrossedModules$Names;") := ⟨List.mem_of_getElem? (i := 294) (by decide +kernel), rfl⟩
theorem fkX5_147 : xIn (.fieldLink RX5 147 "CrossedModules$World" "modules" "[LCrossedModules$Crossed;") := ⟨List.mem_of_getElem? (i := 302) (by decide +kernel), rfl⟩
theorem fkX5_155 : xIn (.fieldLink RX5 155 "CrossedModules$Crossed" "boundaries" "[I") := ⟨List.mem_of_getElem? (i := 228) (by decide +kernel), rfl⟩
theorem fkX5_167 : xIn (.fieldLink RX5 167 "CrossedModules$Crossed" "lower" "LCrossedModules$Group;") := ⟨List.mem_of_getElem? (i := 225) (by decide +kernel), rfl⟩
theorem fkX5_171 : xIn (.fieldLink RX5 171 "CrossedModules$Crossed" "told" "I") := ⟨List.mem_of_getElem? (i := 238) (by decide +kernel), rfl⟩
theorem fkX5_177 : xIn (.fieldLink RX5 177 "CrossedModules$Crossed" "actions" "[I") := ⟨List.mem_of_getElem? (i := 232) (by decide +kernel), rfl⟩
theorem fkX5_180 : xIn (.fieldLink RX5 180 "CrossedModules$Crossed" "upper" "LCrossedModules$Group;") := ⟨List.mem_of_getElem? (i := 220) (by decide +kernel), rfl⟩
theorem fkX5_183 : xIn (.fieldLink RX5 183 "CrossedModules$World" "arrowNames" "LCrossedModules$Names;") := ⟨List.mem_of_getElem? (i := 296) (by decide +kernel), rfl⟩
theorem fkX5_186 : xIn (.fieldLink RX5 186 "CrossedModules$World" "arrows" "[LCrossedModules$Arrow;") := ⟨List.mem_of_getElem? (i := 305) (by decide +kernel), rfl⟩
theorem fkX5_190 : xIn (.fieldLink RX5 190 "CrossedModules$Arrow" "from" "LCrossedModules$Crossed;") := ⟨List.mem_of_getElem? (i := 266) (by decide +kernel), rfl⟩
theorem fkX5_196 : xIn (.fieldLink RX5 196 "CrossedModules$Arrow" "to" "LCrossedModules$Crossed;") := ⟨List.mem_of_getElem? (i := 270) (by decide +kernel), rfl⟩
theorem fkX5_199 : xIn (.fieldLink RX5 199 "CrossedModules$Arrow" "tops" "[I") := ⟨List.mem_of_getElem? (i := 273) (by decide +kernel), rfl⟩
theorem fkX5_202 : xIn (.fieldLink RX5 202 "CrossedModules$Arrow" "bottoms" "[I") := ⟨List.mem_of_getElem? (i := 277) (by decide +kernel), rfl⟩
theorem fkX5_208 : xIn (.fieldLink RX5 208 "CrossedModules$Tokens" "word" "J") := ⟨List.mem_of_getElem? (i := 496) (by decide +kernel), rfl⟩
theorem fkX5_216 : xIn (.fieldLink RX5 216 "CrossedModules$Tokens" "stop" "I") := ⟨List.mem_of_getElem? (i := 492) (by decide +kernel), rfl⟩
theorem fkX6_9 : xIn (.fieldLink RX6 9 "CrossedModules$Tokens" "bytes" "[B") := ⟨List.mem_of_getElem? (i := 487) (by decide +kernel), rfl⟩
theorem fkX6_15 : xIn (.fieldLink RX6 15 "CrossedModules$Tokens" "length" "I") := ⟨List.mem_of_getElem? (i := 488) (by decide +kernel), rfl⟩
theorem fkX6_19 : xIn (.fieldLink RX6 19 "CrossedModules$Tokens" "stop" "I") := ⟨List.mem_of_getElem? (i := 491) (by decide +kernel), rfl⟩
theorem fkX6_26 : xIn (.fieldLink RX6 26 "CrossedModules$Tokens" "start" "I") := ⟨List.mem_of_getElem? (i := 490) (by decide +kernel), rfl⟩
theorem fkX6_33 : xIn (.fieldLink RX6 33 "CrossedModules$Tokens" "kind" "I") := ⟨List.mem_of_getElem? (i := 494) (by decide +kernel), rfl⟩
theorem fkX6_44 : xIn (.fieldLink RX6 44 "CrossedModules$Tokens" "word" "J") := ⟨List.mem_of_getElem? (i := 495) (by decide +kernel), rfl⟩
theorem fkX6_52 : xIn (.fieldLink RX6 52 "CrossedModules$Tokens" "value" "I") := ⟨List.mem_of_getElem? (i := 497) (by decide +kernel), rfl⟩
theorem fkX7_14 : xIn (.fieldLink RX7 14 "CrossedModules$World" "groupNames" "LCrossedModules$Names;") := ⟨List.mem_of_getElem? (i := 289) (by decide +kernel), rfl⟩
theorem fkX7_20 : xIn (.fieldLink RX7 20 "CrossedModules$World" "moduleNames" "LCrossedModules$Names;") := ⟨List.mem_of_getElem? (i := 292) (by decide +kernel), rfl⟩
theorem fkX7_23 : xIn (.fieldLink RX7 23 "CrossedModules$World" "arrowNames" "LCrossedModules$Names;") := ⟨List.mem_of_getElem? (i := 295) (by decide +kernel), rfl⟩
theorem fkX7_28 : xIn (.fieldLink RX7 28 "CrossedModules$World" "groups" "[LCrossedModules$Group;") := ⟨List.mem_of_getElem? (i := 298) (by decide +kernel), rfl⟩
theorem fkX7_34 : xIn (.fieldLink RX7 34 "CrossedModules$World" "modules" "[LCrossedModules$Crossed;") := ⟨List.mem_of_getElem? (i := 301) (by decide +kernel), rfl⟩
theorem fkX7_40 : xIn (.fieldLink RX7 40 "CrossedModules$World" "arrows" "[LCrossedModules$Arrow;") := ⟨List.mem_of_getElem? (i := 304) (by decide +kernel), rfl⟩
theorem fkX7_44 : xIn (.fieldLink RX7 44 "CrossedModules$World" "accounts" "[I") := ⟨List.mem_of_getElem? (i := 307) (by decide +kernel), rfl⟩
theorem fkX7_55 : xIn (.fieldLink RX7 55 "CrossedModules$Names" "total" "I") := ⟨List.mem_of_getElem? (i := 140) (by decide +kernel), rfl⟩
theorem fkX7_72 : xIn (.fieldLink RX7 72 "CrossedModules$Crossed" "reason" "I") := ⟨List.mem_of_getElem? (i := 240) (by decide +kernel), rfl⟩
theorem fkX7_90 : xIn (.fieldLink RX7 90 "CrossedModules$Crossed" "number" "I") := ⟨List.mem_of_getElem? (i := 215) (by decide +kernel), rfl⟩
theorem fkX7_103 : xIn (.fieldLink RX7 103 "CrossedModules$Arrow" "from" "LCrossedModules$Crossed;") := ⟨List.mem_of_getElem? (i := 265) (by decide +kernel), rfl⟩
theorem fkX7_107 : xIn (.fieldLink RX7 107 "CrossedModules$Arrow" "to" "LCrossedModules$Crossed;") := ⟨List.mem_of_getElem? (i := 269) (by decide +kernel), rfl⟩
theorem fkX7_118 : xIn (.fieldLink RX7 118 "CrossedModules$Crossed" "boundaries" "[I") := ⟨List.mem_of_getElem? (i := 229) (by decide +kernel), rfl⟩
theorem fkX7_127 : xIn (.fieldLink RX7 127 "CrossedModules$Crossed" "actions" "[I") := ⟨List.mem_of_getElem? (i := 233) (by decide +kernel), rfl⟩
theorem fkX7_130 : xIn (.fieldLink RX7 130 "CrossedModules$Arrow" "tops" "[I") := ⟨List.mem_of_getElem? (i := 274) (by decide +kernel), rfl⟩
theorem fkX7_133 : xIn (.fieldLink RX7 133 "CrossedModules$Arrow" "bottoms" "[I") := ⟨List.mem_of_getElem? (i := 278) (by decide +kernel), rfl⟩
theorem fkX9_7 : xIn (.fieldLink RX9 7 "CrossedModulesModel" "size" "[I") := ⟨List.mem_of_getElem? (i := 1539) (by decide +kernel), rfl⟩
theorem fkX9_13 : xIn (.fieldLink RX9 13 "CrossedModulesModel" "table" "[I") := ⟨List.mem_of_getElem? (i := 1540) (by decide +kernel), rfl⟩
theorem fkX9_16 : xIn (.fieldLink RX9 16 "CrossedModulesModel" "upper" "[I") := ⟨List.mem_of_getElem? (i := 1541) (by decide +kernel), rfl⟩
theorem fkX9_19 : xIn (.fieldLink RX9 19 "CrossedModulesModel" "lower" "[I") := ⟨List.mem_of_getElem? (i := 1542) (by decide +kernel), rfl⟩
theorem fkX9_22 : xIn (.fieldLink RX9 22 "CrossedModulesModel" "first" "[I") := ⟨List.mem_of_getElem? (i := 1543) (by decide +kernel), rfl⟩
theorem fkX9_25 : xIn (.fieldLink RX9 25 "CrossedModulesModel" "second" "[I") := ⟨List.mem_of_getElem? (i := 1544) (by decide +kernel), rfl⟩
theorem fkX9_28 : xIn (.fieldLink RX9 28 "CrossedModulesModel" "names" "[I") := ⟨List.mem_of_getElem? (i := 1545) (by decide +kernel), rfl⟩
theorem fkX9_31 : xIn (.fieldLink RX9 31 "CrossedModulesModel" "s" "[I") := ⟨List.mem_of_getElem? (i := 1546) (by decide +kernel), rfl⟩
theorem fkX9_34 : xIn (.fieldLink RX9 34 "CrossedModulesModel" "stores" "[I") := ⟨List.mem_of_getElem? (i := 1547) (by decide +kernel), rfl⟩
theorem fkX9_37 : xIn (.fieldLink RX9 37 "CrossedModulesModel" "isKept" "[Z") := ⟨List.mem_of_getElem? (i := 1549) (by decide +kernel), rfl⟩
theorem fkX9_41 : xIn (.fieldLink RX9 41 "CrossedModulesModel" "buffer" "[I") := ⟨List.mem_of_getElem? (i := 1550) (by decide +kernel), rfl⟩
theorem fkX9_44 : xIn (.fieldLink RX9 44 "CrossedModulesModel" "errorPosition" "I") := ⟨List.mem_of_getElem? (i := 1553) (by decide +kernel), rfl⟩
theorem fkX9_48 : xIn (.fieldLink RX9 48 "CrossedModulesModel" "readS" "[I") := ⟨List.mem_of_getElem? (i := 1561) (by decide +kernel), rfl⟩
theorem fkX9_51 : xIn (.fieldLink RX9 51 "CrossedModulesModel" "readSize" "[I") := ⟨List.mem_of_getElem? (i := 1562) (by decide +kernel), rfl⟩
theorem fkX9_54 : xIn (.fieldLink RX9 54 "CrossedModulesModel" "readTable" "[I") := ⟨List.mem_of_getElem? (i := 1563) (by decide +kernel), rfl⟩
theorem fkX9_57 : xIn (.fieldLink RX9 57 "CrossedModulesModel" "readUpper" "[I") := ⟨List.mem_of_getElem? (i := 1564) (by decide +kernel), rfl⟩
theorem fkX9_60 : xIn (.fieldLink RX9 60 "CrossedModulesModel" "readLower" "[I") := ⟨List.mem_of_getElem? (i := 1565) (by decide +kernel), rfl⟩
theorem fkX9_63 : xIn (.fieldLink RX9 63 "CrossedModulesModel" "readFirst" "[I") := ⟨List.mem_of_getElem? (i := 1566) (by decide +kernel), rfl⟩
theorem fkX9_66 : xIn (.fieldLink RX9 66 "CrossedModulesModel" "readSecond" "[I") := ⟨List.mem_of_getElem? (i := 1567) (by decide +kernel), rfl⟩
theorem fkX9_69 : xIn (.fieldLink RX9 69 "CrossedModulesModel" "readNames" "[I") := ⟨List.mem_of_getElem? (i := 1568) (by decide +kernel), rfl⟩
theorem fkX9_72 : xIn (.fieldLink RX9 72 "CrossedModulesModel" "toldActs" "[I") := ⟨List.mem_of_getElem? (i := 1572) (by decide +kernel), rfl⟩
theorem fkX9_75 : xIn (.fieldLink RX9 75 "CrossedModulesModel" "least" "[I") := ⟨List.mem_of_getElem? (i := 1573) (by decide +kernel), rfl⟩
theorem fkX9_78 : xIn (.fieldLink RX9 78 "CrossedModulesModel" "classIn" "[I") := ⟨List.mem_of_getElem? (i := 1574) (by decide +kernel), rfl⟩
theorem fkX9_81 : xIn (.fieldLink RX9 81 "CrossedModulesModel" "classHere" "[I") := ⟨List.mem_of_getElem? (i := 1575) (by decide +kernel), rfl⟩
theorem fkX9_84 : xIn (.fieldLink RX9 84 "CrossedModulesModel" "text" "[I") := ⟨List.mem_of_getElem? (i := 1576) (by decide +kernel), rfl⟩
theorem fkX9_87 : xIn (.fieldLink RX9 87 "CrossedModulesModel" "thrown" "I") := ⟨List.mem_of_getElem? (i := 1534) (by decide +kernel), rfl⟩
theorem fkX9_90 : xIn (.fieldLink RX9 90 "CrossedModulesModel" "isLoaded" "Z") := ⟨List.mem_of_getElem? (i := 1535) (by decide +kernel), rfl⟩
theorem fkX9_98 : xIn (.fieldLink RX9 98 "CrossedModulesModel" "buffered" "I") := ⟨List.mem_of_getElem? (i := 1551) (by decide +kernel), rfl⟩
theorem fkX9_101 : xIn (.fieldLink RX9 101 "CrossedModulesModel" "parseError" "I") := ⟨List.mem_of_getElem? (i := 1552) (by decide +kernel), rfl⟩
theorem fkX9_104 : xIn (.fieldLink RX9 104 "CrossedModulesModel" "length" "I") := ⟨List.mem_of_getElem? (i := 1554) (by decide +kernel), rfl⟩
theorem fkX9_107 : xIn (.fieldLink RX9 107 "CrossedModulesModel" "next" "I") := ⟨List.mem_of_getElem? (i := 1555) (by decide +kernel), rfl⟩
theorem fkX9_114 : xIn (.fieldLink RX9 114 "CrossedModulesModel" "from" "I") := ⟨List.mem_of_getElem? (i := 1556) (by decide +kernel), rfl⟩
theorem fkX9_117 : xIn (.fieldLink RX9 117 "CrossedModulesModel" "sort" "I") := ⟨List.mem_of_getElem? (i := 1557) (by decide +kernel), rfl⟩
theorem fkX9_127 : xIn (.fieldLink RX9 127 "CrossedModulesModel" "number" "I") := ⟨List.mem_of_getElem? (i := 1558) (by decide +kernel), rfl⟩
theorem fkX9_130 : xIn (.fieldLink RX9 130 "CrossedModulesModel" "wrong" "I") := ⟨List.mem_of_getElem? (i := 1559) (by decide +kernel), rfl⟩
theorem fkX9_133 : xIn (.fieldLink RX9 133 "CrossedModulesModel" "wrongAt" "I") := ⟨List.mem_of_getElem? (i := 1560) (by decide +kernel), rfl⟩
theorem fkX9_170 : xIn (.fieldLink RX9 170 "CrossedModulesModel" "readGroups" "I") := ⟨List.mem_of_getElem? (i := 1569) (by decide +kernel), rfl⟩
theorem fkX9_218 : xIn (.fieldLink RX9 218 "CrossedModulesModel" "readModules" "I") := ⟨List.mem_of_getElem? (i := 1570) (by decide +kernel), rfl⟩
theorem fkX9_225 : xIn (.fieldLink RX9 225 "CrossedModulesModel" "readArrows" "I") := ⟨List.mem_of_getElem? (i := 1571) (by decide +kernel), rfl⟩
theorem fkX9_256 : xIn (.fieldLink RX9 256 "CrossedModulesModel" "groups" "I") := ⟨List.mem_of_getElem? (i := 1536) (by decide +kernel), rfl⟩
theorem fkX9_259 : xIn (.fieldLink RX9 259 "CrossedModulesModel" "modules" "I") := ⟨List.mem_of_getElem? (i := 1537) (by decide +kernel), rfl⟩
theorem fkX9_262 : xIn (.fieldLink RX9 262 "CrossedModulesModel" "arrows" "I") := ⟨List.mem_of_getElem? (i := 1538) (by decide +kernel), rfl⟩
theorem fkX9_269 : xIn (.fieldLink RX9 269 "CrossedModulesModel" "changes" "I") := ⟨List.mem_of_getElem? (i := 1548) (by decide +kernel), rfl⟩
theorem fkX9_432 : xIn (.fieldLink RX9 432 "CrossedModulesModel" "textLong" "I") := ⟨List.mem_of_getElem? (i := 1577) (by decide +kernel), rfl⟩
theorem fkX9_444 : xIn (.fieldLink RX9 444 "CrossedModulesModel" "was" "Z") := ⟨List.mem_of_getElem? (i := 1578) (by decide +kernel), rfl⟩
theorem mkX8_19 : xIn (.methodLink RX8 19 yX7_init) := ⟨List.mem_of_getElem? (i := 127) (by decide +kernel), rfl⟩
theorem mkX8_41 : xIn (.methodLink RX8 41 yX8_appendWord) := ⟨List.mem_of_getElem? (i := 373) (by decide +kernel), rfl⟩
theorem mkX8_45 : xIn (.methodLink RX8 45 yX8_demandThere) := ⟨List.mem_of_getElem? (i := 402) (by decide +kernel), rfl⟩
theorem mkX8_49 : xIn (.methodLink RX8 49 yX7_clear) := ⟨List.mem_of_getElem? (i := 472) (by decide +kernel), rfl⟩
theorem mkX8_56 : xIn (.methodLink RX8 56 yX6_init) := ⟨List.mem_of_getElem? (i := 483) (by decide +kernel), rfl⟩
theorem mkX8_59 : xIn (.methodLink RX8 59 yX5_init) := ⟨List.mem_of_getElem? (i := 514) (by decide +kernel), rfl⟩
theorem mkX8_62 : xIn (.methodLink RX8 62 yX5_readText) := ⟨List.mem_of_getElem? (i := 533) (by decide +kernel), rfl⟩
theorem mkX8_75 : xIn (.methodLink RX8 75 yX8_demandFit) := ⟨List.mem_of_getElem? (i := 743) (by decide +kernel), rfl⟩
theorem mkX8_78 : xIn (.methodLink RX8 78 yX7_settle) := ⟨List.mem_of_getElem? (i := 762) (by decide +kernel), rfl⟩
theorem mkX8_85 : xIn (.methodLink RX8 85 yX8_forgetChanges) := ⟨List.mem_of_getElem? (i := 817) (by decide +kernel), rfl⟩
theorem mkX8_100 : xIn (.methodLink RX8 100 yX8_demandText) := ⟨List.mem_of_getElem? (i := 829) (by decide +kernel), rfl⟩
theorem mkX8_103 : xIn (.methodLink RX8 103 yX7_namesOf) := ⟨List.mem_of_getElem? (i := 849) (by decide +kernel), rfl⟩
theorem mkX8_107 : xIn (.methodLink RX8 107 yX3_has) := ⟨List.mem_of_getElem? (i := 860) (by decide +kernel), rfl⟩
theorem mkX8_111 : xIn (.methodLink RX8 111 yX3_lengthOf) := ⟨List.mem_of_getElem? (i := 864) (by decide +kernel), rfl⟩
theorem mkX8_115 : xIn (.methodLink RX8 115 yX3_letterOf) := ⟨List.mem_of_getElem? (i := 869) (by decide +kernel), rfl⟩
theorem mkX8_119 : xIn (.methodLink RX8 119 yX8_groupAt) := ⟨List.mem_of_getElem? (i := 883) (by decide +kernel), rfl⟩
theorem mkX8_128 : xIn (.methodLink RX8 128 yX2_has) := ⟨List.mem_of_getElem? (i := 894) (by decide +kernel), rfl⟩
theorem mkX8_129 : xIn (.methodLink RX8 129 yX2_product) := ⟨List.mem_of_getElem? (i := 898) (by decide +kernel), rfl⟩
theorem mkX8_132 : xIn (.methodLink RX8 132 yX2_opposite) := ⟨List.mem_of_getElem? (i := 906) (by decide +kernel), rfl⟩
theorem mkX8_135 : xIn (.methodLink RX8 135 yX2_period) := ⟨List.mem_of_getElem? (i := 914) (by decide +kernel), rfl⟩
theorem mkX8_138 : xIn (.methodLink RX8 138 yX2_middle) := ⟨List.mem_of_getElem? (i := 925) (by decide +kernel), rfl⟩
theorem mkX8_142 : xIn (.methodLink RX8 142 yX2_countConjugateClasses) := ⟨List.mem_of_getElem? (i := 936) (by decide +kernel), rfl⟩
theorem mkX8_145 : xIn (.methodLink RX8 145 yX2_hasAll) := ⟨List.mem_of_getElem? (i := 953) (by decide +kernel), rfl⟩
theorem mkX8_148 : xIn (.methodLink RX8 148 yX2_closure) := ⟨List.mem_of_getElem? (i := 957) (by decide +kernel), rfl⟩
theorem mkX8_151 : xIn (.methodLink RX8 151 yX2_normalClosure) := ⟨List.mem_of_getElem? (i := 972) (by decide +kernel), rfl⟩
theorem mkX8_154 : xIn (.methodLink RX8 154 yX8_moduleAt) := ⟨List.mem_of_getElem? (i := 984) (by decide +kernel), rfl⟩
theorem mkX8_170 : xIn (.methodLink RX8 170 yX1_boundaryOf) := ⟨List.mem_of_getElem? (i := 995) (by decide +kernel), rfl⟩
theorem mkX8_173 : xIn (.methodLink RX8 173 yX1_actionOf) := ⟨List.mem_of_getElem? (i := 1003) (by decide +kernel), rfl⟩
theorem mkX8_179 : xIn (.methodLink RX8 179 yX7_lawfulModules) := ⟨List.mem_of_getElem? (i := 1018) (by decide +kernel), rfl⟩
theorem mkX8_182 : xIn (.methodLink RX8 182 yX1_kernelSet) := ⟨List.mem_of_getElem? (i := 1029) (by decide +kernel), rfl⟩
theorem mkX8_185 : xIn (.methodLink RX8 185 yX1_imageSet) := ⟨List.mem_of_getElem? (i := 1040) (by decide +kernel), rfl⟩
theorem mkX8_188 : xIn (.methodLink RX8 188 yX1_stabilizer) := ⟨List.mem_of_getElem? (i := 1058) (by decide +kernel), rfl⟩
theorem mkX8_191 : xIn (.methodLink RX8 191 yX1_orbitSet) := ⟨List.mem_of_getElem? (i := 1069) (by decide +kernel), rfl⟩
theorem mkX8_194 : xIn (.methodLink RX8 194 yX8_lawfulModuleAt) := ⟨List.mem_of_getElem? (i := 1080) (by decide +kernel), rfl⟩
theorem mkX8_197 : xIn (.methodLink RX8 197 yX1_freshPair) := ⟨List.mem_of_getElem? (i := 1084) (by decide +kernel), rfl⟩
theorem mkX8_206 : xIn (.methodLink RX8 206 yX4_classHolding) := ⟨List.mem_of_getElem? (i := 1124) (by decide +kernel), rfl⟩
theorem mkX8_209 : xIn (.methodLink RX8 209 yX4_has) := ⟨List.mem_of_getElem? (i := 1132) (by decide +kernel), rfl⟩
theorem mkX8_210 : xIn (.methodLink RX8 210 yX4_product) := ⟨List.mem_of_getElem? (i := 1136) (by decide +kernel), rfl⟩
theorem mkX8_213 : xIn (.methodLink RX8 213 yX4_leastOf) := ⟨List.mem_of_getElem? (i := 1144) (by decide +kernel), rfl⟩
theorem mkX8_223 : xIn (.methodLink RX8 223 yX8_at) := ⟨List.mem_of_getElem? (i := 1155) (by decide +kernel), rfl⟩
theorem mkX8_227 : xIn (.methodLink RX8 227 yX4_matches) := ⟨List.mem_of_getElem? (i := 1163) (by decide +kernel), rfl⟩
theorem mkX8_235 : xIn (.methodLink RX8 235 yX7_firstLike) := ⟨List.mem_of_getElem? (i := 1174) (by decide +kernel), rfl⟩
theorem mkX8_239 : xIn (.methodLink RX8 239 yX1_hasLarge) := ⟨List.mem_of_getElem? (i := 1194) (by decide +kernel), rfl⟩
theorem mkX8_242 : xIn (.methodLink RX8 242 yX1_largeProduct) := ⟨List.mem_of_getElem? (i := 1198) (by decide +kernel), rfl⟩
theorem mkX8_245 : xIn (.methodLink RX8 245 yX1_upperPart) := ⟨List.mem_of_getElem? (i := 1217) (by decide +kernel), rfl⟩
theorem mkX8_248 : xIn (.methodLink RX8 248 yX1_lowerPart) := ⟨List.mem_of_getElem? (i := 1218) (by decide +kernel), rfl⟩
theorem mkX8_251 : xIn (.methodLink RX8 251 yX1_targetOf) := ⟨List.mem_of_getElem? (i := 1219) (by decide +kernel), rfl⟩
theorem mkX8_254 : xIn (.methodLink RX8 254 yX1_largePeriod) := ⟨List.mem_of_getElem? (i := 1230) (by decide +kernel), rfl⟩
theorem mkX8_257 : xIn (.methodLink RX8 257 yX1_countBetween) := ⟨List.mem_of_getElem? (i := 1242) (by decide +kernel), rfl⟩
theorem mkX8_260 : xIn (.methodLink RX8 260 yX8_arrowAt) := ⟨List.mem_of_getElem? (i := 1254) (by decide +kernel), rfl⟩
theorem mkX8_274 : xIn (.methodLink RX8 274 yX0_topOf) := ⟨List.mem_of_getElem? (i := 1265) (by decide +kernel), rfl⟩
theorem mkX8_277 : xIn (.methodLink RX8 277 yX0_bottomOf) := ⟨List.mem_of_getElem? (i := 1277) (by decide +kernel), rfl⟩
theorem mkX8_280 : xIn (.methodLink RX8 280 yX0_firstReason) := ⟨List.mem_of_getElem? (i := 1288) (by decide +kernel), rfl⟩
theorem mkX8_283 : xIn (.methodLink RX8 283 yX0_joinsAlikePairs) := ⟨List.mem_of_getElem? (i := 1315) (by decide +kernel), rfl⟩
theorem mkX8_286 : xIn (.methodLink RX8 286 yX7_equivalenceSet) := ⟨List.mem_of_getElem? (i := 1345) (by decide +kernel), rfl⟩
theorem mkX8_289 : xIn (.methodLink RX8 289 yX7_stepsBetween) := ⟨List.mem_of_getElem? (i := 1357) (by decide +kernel), rfl⟩
theorem mkX8_293 : xIn (.methodLink RX8 293 yX7_reachOf) := ⟨List.mem_of_getElem? (i := 1373) (by decide +kernel), rfl⟩
theorem mkX8_302 : xIn (.methodLink RX8 302 yX8_write) := ⟨List.mem_of_getElem? (i := 1398) (by decide +kernel), rfl⟩
theorem mkX8_305 : xIn (.methodLink RX8 305 yX8_beginChange) := ⟨List.mem_of_getElem? (i := 1423) (by decide +kernel), rfl⟩
theorem mkX8_311 : xIn (.methodLink RX8 311 yX8_put) := ⟨List.mem_of_getElem? (i := 1445) (by decide +kernel), rfl⟩
theorem mkX8_315 : xIn (.methodLink RX8 315 yX7_judgeAgain) := ⟨List.mem_of_getElem? (i := 1446) (by decide +kernel), rfl⟩
theorem mkX8_322 : xIn (.methodLink RX8 322 yX1_becomeRestful) := ⟨List.mem_of_getElem? (i := 1465) (by decide +kernel), rfl⟩
theorem mkX8_325 : xIn (.methodLink RX8 325 yX1_becomeConjugation) := ⟨List.mem_of_getElem? (i := 1481) (by decide +kernel), rfl⟩
theorem mkX8_344 : xIn (.methodLink RX8 344 yX8_undoPlace) := ⟨List.mem_of_getElem? (i := 1427) (by decide +kernel), rfl⟩
theorem mkX8_347 : xIn (.methodLink RX8 347 yX7_takeState) := ⟨List.mem_of_getElem? (i := 1507) (by decide +kernel), rfl⟩
theorem mkX8_351 : xIn (.methodLink RX8 351 yX7_giveState) := ⟨List.mem_of_getElem? (i := 1432) (by decide +kernel), rfl⟩
theorem mkX8_354 : xIn (.methodLink RX8 354 yJ6_bitCount_0f7a4) := ⟨List.mem_of_getElem? (i := 1518) (by decide +kernel), rfl⟩
theorem mkX8_359 : xIn (.methodLink RX8 359 yX8_isIn) := ⟨List.mem_of_getElem? (i := 1526) (by decide +kernel), rfl⟩
theorem mkX8_394 : xIn (.methodLink RX8 394 yX7_addToAccount) := ⟨List.mem_of_getElem? (i := 1439) (by decide +kernel), rfl⟩
theorem mkX8_397 : xIn (.methodLink RX8 397 yJ9_floorMod_7cf53) := ⟨List.mem_of_getElem? (i := 1431) (by decide +kernel), rfl⟩
theorem mkX0_39 : xIn (.methodLink RX0 39 yX0_keepsProducts) := ⟨List.mem_of_getElem? (i := 1292) (by decide +kernel), rfl⟩
theorem mkX0_46 : xIn (.methodLink RX0 46 yX0_keepsBoundaries) := ⟨List.mem_of_getElem? (i := 1296) (by decide +kernel), rfl⟩
theorem mkX0_50 : xIn (.methodLink RX0 50 yX0_keepsActions) := ⟨List.mem_of_getElem? (i := 1303) (by decide +kernel), rfl⟩
theorem mkX0_58 : xIn (.methodLink RX0 58 yX2_product) := ⟨List.mem_of_getElem? (i := 1295) (by decide +kernel), rfl⟩
theorem mkX0_62 : xIn (.methodLink RX0 62 yX0_topOf) := ⟨List.mem_of_getElem? (i := 1300) (by decide +kernel), rfl⟩
theorem mkX0_66 : xIn (.methodLink RX0 66 yX1_boundaryOf) := ⟨List.mem_of_getElem? (i := 1301) (by decide +kernel), rfl⟩
theorem mkX0_69 : xIn (.methodLink RX0 69 yX0_bottomOf) := ⟨List.mem_of_getElem? (i := 1302) (by decide +kernel), rfl⟩
theorem mkX0_72 : xIn (.methodLink RX0 72 yX1_actionOf) := ⟨List.mem_of_getElem? (i := 1307) (by decide +kernel), rfl⟩
theorem mkX0_75 : xIn (.methodLink RX0 75 yX0_firstReason) := ⟨List.mem_of_getElem? (i := 1319) (by decide +kernel), rfl⟩
theorem mkX0_79 : xIn (.methodLink RX0 79 yX1_kernelSet) := ⟨List.mem_of_getElem? (i := 1320) (by decide +kernel), rfl⟩
theorem mkX0_82 : xIn (.methodLink RX0 82 yJ6_bitCount_0f7a4) := ⟨List.mem_of_getElem? (i := 1321) (by decide +kernel), rfl⟩
theorem mkX0_87 : xIn (.methodLink RX0 87 yX0_partsKernel) := ⟨List.mem_of_getElem? (i := 1327) (by decide +kernel), rfl⟩
theorem mkX0_91 : xIn (.methodLink RX0 91 yX0_matchesClasses) := ⟨List.mem_of_getElem? (i := 1332) (by decide +kernel), rfl⟩
theorem mkX0_102 : xIn (.methodLink RX0 102 yX4_sortClasses) := ⟨List.mem_of_getElem? (i := 1336) (by decide +kernel), rfl⟩
theorem mkX0_108 : xIn (.methodLink RX0 108 yX4_classHolding) := ⟨List.mem_of_getElem? (i := 1337) (by decide +kernel), rfl⟩
theorem mkX1_39 : xIn (.methodLink RX1 39 yJ9_floorMod_7cf53) := ⟨List.mem_of_getElem? (i := 720) (by decide +kernel), rfl⟩
theorem mkX1_49 : xIn (.methodLink RX1 49 yX1_actionOf) := ⟨List.mem_of_getElem? (i := 791) (by decide +kernel), rfl⟩
theorem mkX1_61 : xIn (.methodLink RX1 61 yX1_replaceAction) := ⟨List.mem_of_getElem? (i := 1469) (by decide +kernel), rfl⟩
theorem mkX1_65 : xIn (.methodLink RX1 65 yX2_conjugateBy) := ⟨List.mem_of_getElem? (i := 804) (by decide +kernel), rfl⟩
theorem mkX1_68 : xIn (.methodLink RX1 68 yX1_boundaryKeepsProducts) := ⟨List.mem_of_getElem? (i := 775) (by decide +kernel), rfl⟩
theorem mkX1_72 : xIn (.methodLink RX1 72 yX1_isAutomorphism) := ⟨List.mem_of_getElem? (i := 787) (by decide +kernel), rfl⟩
theorem mkX1_76 : xIn (.methodLink RX1 76 yX1_actionKeepsProducts) := ⟨List.mem_of_getElem? (i := 796) (by decide +kernel), rfl⟩
theorem mkX1_79 : xIn (.methodLink RX1 79 yX1_boundaryFollowsAction) := ⟨List.mem_of_getElem? (i := 800) (by decide +kernel), rfl⟩
theorem mkX1_82 : xIn (.methodLink RX1 82 yX1_boundaryActsAsConjugation) := ⟨List.mem_of_getElem? (i := 813) (by decide +kernel), rfl⟩
theorem mkX1_85 : xIn (.methodLink RX1 85 yX2_product) := ⟨List.mem_of_getElem? (i := 779) (by decide +kernel), rfl⟩
theorem mkX1_88 : xIn (.methodLink RX1 88 yX1_boundaryOf) := ⟨List.mem_of_getElem? (i := 780) (by decide +kernel), rfl⟩
theorem mkX1_96 : xIn (.methodLink RX1 96 yX4_sortClasses) := ⟨List.mem_of_getElem? (i := 1088) (by decide +kernel), rfl⟩
theorem mkX1_100 : xIn (.methodLink RX1 100 yX4_countOrders) := ⟨List.mem_of_getElem? (i := 1101) (by decide +kernel), rfl⟩
theorem mkX1_103 : xIn (.methodLink RX1 103 yX1_lowerPart) := ⟨List.mem_of_getElem? (i := 1202) (by decide +kernel), rfl⟩
theorem mkX1_106 : xIn (.methodLink RX1 106 yX1_upperPart) := ⟨List.mem_of_getElem? (i := 1206) (by decide +kernel), rfl⟩
theorem mkX1_109 : xIn (.methodLink RX1 109 yX1_largeProduct) := ⟨List.mem_of_getElem? (i := 1234) (by decide +kernel), rfl⟩
theorem mkX1_112 : xIn (.methodLink RX1 112 yX1_targetOf) := ⟨List.mem_of_getElem? (i := 1246) (by decide +kernel), rfl⟩
theorem mkX2_29 : xIn (.methodLink RX2 29 yX2_product) := ⟨List.mem_of_getElem? (i := 707) (by decide +kernel), rfl⟩
theorem mkX2_33 : xIn (.methodLink RX2 33 yX2_opposite) := ⟨List.mem_of_getElem? (i := 808) (by decide +kernel), rfl⟩
theorem mkX2_37 : xIn (.methodLink RX2 37 yJ9_floorMod_7cf53) := ⟨List.mem_of_getElem? (i := 659) (by decide +kernel), rfl⟩
theorem mkX2_42 : xIn (.methodLink RX2 42 yX2_setProduct) := ⟨List.mem_of_getElem? (i := 662) (by decide +kernel), rfl⟩
theorem mkX2_46 : xIn (.methodLink RX2 46 yX2_productOfUnits) := ⟨List.mem_of_getElem? (i := 684) (by decide +kernel), rfl⟩
theorem mkX2_49 : xIn (.methodLink RX2 49 yJ9_floorDiv_7cf53) := ⟨List.mem_of_getElem? (i := 704) (by decide +kernel), rfl⟩
theorem mkX2_56 : xIn (.methodLink RX2 56 yX2_conjugateBy) := ⟨List.mem_of_getElem? (i := 945) (by decide +kernel), rfl⟩
theorem mkX2_63 : xIn (.methodLink RX2 63 yX2_conjugatesOf) := ⟨List.mem_of_getElem? (i := 941) (by decide +kernel), rfl⟩
theorem mkX2_66 : xIn (.methodLink RX2 66 yX2_productsWithin) := ⟨List.mem_of_getElem? (i := 961) (by decide +kernel), rfl⟩
theorem mkX2_69 : xIn (.methodLink RX2 69 yX2_closure) := ⟨List.mem_of_getElem? (i := 976) (by decide +kernel), rfl⟩
theorem mkX3_27 : xIn (.methodLink RX3 27 yX3_has) := ⟨List.mem_of_getElem? (i := 873) (by decide +kernel), rfl⟩
theorem mkX3_31 : xIn (.methodLink RX3 31 yX3_lengthOf) := ⟨List.mem_of_getElem? (i := 874) (by decide +kernel), rfl⟩
theorem mkX4_32 : xIn (.methodLink RX4 32 yX2_product) := ⟨List.mem_of_getElem? (i := 1100) (by decide +kernel), rfl⟩
theorem mkX4_38 : xIn (.methodLink RX4 38 yX4_product) := ⟨List.mem_of_getElem? (i := 1113) (by decide +kernel), rfl⟩
theorem mkX4_41 : xIn (.methodLink RX4 41 yJ7_fill_53178) := ⟨List.mem_of_getElem? (i := 1092) (by decide +kernel), rfl⟩
theorem mkX4_56 : xIn (.methodLink RX4 56 yX4_classHolding) := ⟨List.mem_of_getElem? (i := 1093) (by decide +kernel), rfl⟩
theorem mkX4_67 : xIn (.methodLink RX4 67 yX1_boundaryOf) := ⟨List.mem_of_getElem? (i := 1099) (by decide +kernel), rfl⟩
theorem mkX4_70 : xIn (.methodLink RX4 70 yX2_period) := ⟨List.mem_of_getElem? (i := 1105) (by decide +kernel), rfl⟩
theorem mkX4_73 : xIn (.methodLink RX4 73 yX4_addOne) := ⟨List.mem_of_getElem? (i := 1106) (by decide +kernel), rfl⟩
theorem mkX4_76 : xIn (.methodLink RX4 76 yX4_period) := ⟨List.mem_of_getElem? (i := 1109) (by decide +kernel), rfl⟩
theorem mkX5_31 : xIn (.methodLink RX5 31 yX6_advance) := ⟨List.mem_of_getElem? (i := 537) (by decide +kernel), rfl⟩
theorem mkX5_36 : xIn (.methodLink RX5 36 yX6_spells) := ⟨List.mem_of_getElem? (i := 561) (by decide +kernel), rfl⟩
theorem mkX5_40 : xIn (.methodLink RX5 40 yX5_refuse) := ⟨List.mem_of_getElem? (i := 613) (by decide +kernel), rfl⟩
theorem mkX5_47 : xIn (.methodLink RX5 47 yX5_readLine) := ⟨List.mem_of_getElem? (i := 617) (by decide +kernel), rfl⟩
theorem mkX5_53 : xIn (.methodLink RX5 53 yX5_readGroup) := ⟨List.mem_of_getElem? (i := 622) (by decide +kernel), rfl⟩
theorem mkX5_58 : xIn (.methodLink RX5 58 yX5_readModule) := ⟨List.mem_of_getElem? (i := 712) (by decide +kernel), rfl⟩
theorem mkX5_63 : xIn (.methodLink RX5 63 yX5_readAct) := ⟨List.mem_of_getElem? (i := 727) (by decide +kernel), rfl⟩
theorem mkX5_68 : xIn (.methodLink RX5 68 yX5_readArrow) := ⟨List.mem_of_getElem? (i := 739) (by decide +kernel), rfl⟩
theorem mkX5_77 : xIn (.methodLink RX5 77 yX5_readNewName) := ⟨List.mem_of_getElem? (i := 626) (by decide +kernel), rfl⟩
theorem mkX5_92 : xIn (.methodLink RX5 92 yX5_readCyclic) := ⟨List.mem_of_getElem? (i := 646) (by decide +kernel), rfl⟩
theorem mkX5_98 : xIn (.methodLink RX5 98 yX5_readDihedral) := ⟨List.mem_of_getElem? (i := 667) (by decide +kernel), rfl⟩
theorem mkX5_103 : xIn (.methodLink RX5 103 yX5_readQuaternion) := ⟨List.mem_of_getElem? (i := 676) (by decide +kernel), rfl⟩
theorem mkX5_108 : xIn (.methodLink RX5 108 yX5_readProduct) := ⟨List.mem_of_getElem? (i := 688) (by decide +kernel), rfl⟩
theorem mkX5_111 : xIn (.methodLink RX5 111 yX5_isNumber) := ⟨List.mem_of_getElem? (i := 650) (by decide +kernel), rfl⟩
theorem mkX5_118 : xIn (.methodLink RX5 118 yX2_becomeCyclic) := ⟨List.mem_of_getElem? (i := 655) (by decide +kernel), rfl⟩
theorem mkX5_124 : xIn (.methodLink RX5 124 yX2_becomeDihedral) := ⟨List.mem_of_getElem? (i := 671) (by decide +kernel), rfl⟩
theorem mkX5_127 : xIn (.methodLink RX5 127 yX2_becomeQuaternion) := ⟨List.mem_of_getElem? (i := 680) (by decide +kernel), rfl⟩
theorem mkX5_130 : xIn (.methodLink RX5 130 yX5_isKnown) := ⟨List.mem_of_getElem? (i := 692) (by decide +kernel), rfl⟩
theorem mkX5_133 : xIn (.methodLink RX5 133 yX5_groupTold) := ⟨List.mem_of_getElem? (i := 696) (by decide +kernel), rfl⟩
theorem mkX5_140 : xIn (.methodLink RX5 140 yX2_becomeProduct) := ⟨List.mem_of_getElem? (i := 700) (by decide +kernel), rfl⟩
theorem mkX5_151 : xIn (.methodLink RX5 151 yX1_start) := ⟨List.mem_of_getElem? (i := 716) (by decide +kernel), rfl⟩
theorem mkX5_159 : xIn (.methodLink RX5 159 yX5_readElements) := ⟨List.mem_of_getElem? (i := 721) (by decide +kernel), rfl⟩
theorem mkX5_163 : xIn (.methodLink RX5 163 yX5_moduleTold) := ⟨List.mem_of_getElem? (i := 731) (by decide +kernel), rfl⟩
theorem mkX5_205 : xIn (.methodLink RX5 205 yX3_isFull) := ⟨List.mem_of_getElem? (i := 630) (by decide +kernel), rfl⟩
theorem mkX5_212 : xIn (.methodLink RX5 212 yX3_numberOf) := ⟨List.mem_of_getElem? (i := 634) (by decide +kernel), rfl⟩
theorem mkX5_219 : xIn (.methodLink RX5 219 yX3_noteNext) := ⟨List.mem_of_getElem? (i := 638) (by decide +kernel), rfl⟩
theorem mkX6_22 : xIn (.methodLink RX6 22 yX6_endOfRun) := ⟨List.mem_of_getElem? (i := 541) (by decide +kernel), rfl⟩
theorem mkX6_29 : xIn (.methodLink RX6 29 yX6_byteAt) := ⟨List.mem_of_getElem? (i := 545) (by decide +kernel), rfl⟩
theorem mkX6_40 : xIn (.methodLink RX6 40 yX6_packed) := ⟨List.mem_of_getElem? (i := 552) (by decide +kernel), rfl⟩
theorem mkX6_48 : xIn (.methodLink RX6 48 yX6_reckoned) := ⟨List.mem_of_getElem? (i := 556) (by decide +kernel), rfl⟩
theorem mkX6_55 : xIn (.methodLink RX6 55 yJ0_length_8abf5) := ⟨List.mem_of_getElem? (i := 565) (by decide +kernel), rfl⟩
theorem mkX6_59 : xIn (.methodLink RX6 59 yJ0_charAt_5068e) := ⟨List.mem_of_getElem? (i := 575) (by decide +kernel), rfl⟩
theorem mkX7_11 : xIn (.methodLink RX7 11 yX3_init) := ⟨List.mem_of_getElem? (i := 133) (by decide +kernel), rfl⟩
theorem mkX7_48 : xIn (.methodLink RX7 48 yX2_init) := ⟨List.mem_of_getElem? (i := 160) (by decide +kernel), rfl⟩
theorem mkX7_49 : xIn (.methodLink RX7 49 yX1_init) := ⟨List.mem_of_getElem? (i := 184) (by decide +kernel), rfl⟩
theorem mkX7_52 : xIn (.methodLink RX7 52 yX0_init) := ⟨List.mem_of_getElem? (i := 260) (by decide +kernel), rfl⟩
theorem mkX7_59 : xIn (.methodLink RX7 59 yJ7_fill_53178) := ⟨List.mem_of_getElem? (i := 476) (by decide +kernel), rfl⟩
theorem mkX7_65 : xIn (.methodLink RX7 65 yX2_findOpposites) := ⟨List.mem_of_getElem? (i := 766) (by decide +kernel), rfl⟩
theorem mkX7_68 : xIn (.methodLink RX7 68 yX1_firstReason) := ⟨List.mem_of_getElem? (i := 771) (by decide +kernel), rfl⟩
theorem mkX7_83 : xIn (.methodLink RX7 83 yX7_addToAccount) := ⟨List.mem_of_getElem? (i := 1450) (by decide +kernel), rfl⟩
theorem mkX7_86 : xIn (.methodLink RX7 86 yX1_freshPair) := ⟨List.mem_of_getElem? (i := 1178) (by decide +kernel), rfl⟩
theorem mkX7_93 : xIn (.methodLink RX7 93 yX4_matches) := ⟨List.mem_of_getElem? (i := 1179) (by decide +kernel), rfl⟩
theorem mkX7_99 : xIn (.methodLink RX7 99 yX0_joinsAlikePairs) := ⟨List.mem_of_getElem? (i := 1349) (by decide +kernel), rfl⟩
theorem mkX7_114 : xIn (.methodLink RX7 114 yX7_oneStepFrom) := ⟨List.mem_of_getElem? (i := 1362) (by decide +kernel), rfl⟩
theorem mkL_7 : xIn (.methodLink RL 7 yX8_load) := ⟨List.mem_of_getElem? (i := 398) (by decide +kernel), rfl⟩
theorem mkL_17 : xIn (.methodLink RL 17 yX8_count) := ⟨List.mem_of_getElem? (i := 825) (by decide +kernel), rfl⟩
theorem mkL_22 : xIn (.methodLink RL 22 yX8_letter) := ⟨List.mem_of_getElem? (i := 856) (by decide +kernel), rfl⟩
theorem mkL_26 : xIn (.methodLink RL 26 yX8_size) := ⟨List.mem_of_getElem? (i := 879) (by decide +kernel), rfl⟩
theorem mkL_29 : xIn (.methodLink RL 29 yX8_times) := ⟨List.mem_of_getElem? (i := 890) (by decide +kernel), rfl⟩
theorem mkL_32 : xIn (.methodLink RL 32 yX8_inverse) := ⟨List.mem_of_getElem? (i := 902) (by decide +kernel), rfl⟩
theorem mkL_36 : xIn (.methodLink RL 36 yX8_orderOf) := ⟨List.mem_of_getElem? (i := 910) (by decide +kernel), rfl⟩
theorem mkL_39 : xIn (.methodLink RL 39 yX8_centre) := ⟨List.mem_of_getElem? (i := 921) (by decide +kernel), rfl⟩
theorem mkL_42 : xIn (.methodLink RL 42 yX8_conjugacy) := ⟨List.mem_of_getElem? (i := 932) (by decide +kernel), rfl⟩
theorem mkL_45 : xIn (.methodLink RL 45 yX8_generated) := ⟨List.mem_of_getElem? (i := 949) (by decide +kernel), rfl⟩
theorem mkL_48 : xIn (.methodLink RL 48 yX8_normal) := ⟨List.mem_of_getElem? (i := 968) (by decide +kernel), rfl⟩
theorem mkL_51 : xIn (.methodLink RL 51 yX8_groupOf) := ⟨List.mem_of_getElem? (i := 980) (by decide +kernel), rfl⟩
theorem mkL_55 : xIn (.methodLink RL 55 yX8_boundary) := ⟨List.mem_of_getElem? (i := 991) (by decide +kernel), rfl⟩
theorem mkL_58 : xIn (.methodLink RL 58 yX8_act) := ⟨List.mem_of_getElem? (i := 999) (by decide +kernel), rfl⟩
theorem mkL_61 : xIn (.methodLink RL 61 yX8_why) := ⟨List.mem_of_getElem? (i := 1007) (by decide +kernel), rfl⟩
theorem mkL_64 : xIn (.methodLink RL 64 yX8_lawful) := ⟨List.mem_of_getElem? (i := 1014) (by decide +kernel), rfl⟩
theorem mkL_68 : xIn (.methodLink RL 68 yX8_kernel) := ⟨List.mem_of_getElem? (i := 1025) (by decide +kernel), rfl⟩
theorem mkL_71 : xIn (.methodLink RL 71 yX8_image) := ⟨List.mem_of_getElem? (i := 1036) (by decide +kernel), rfl⟩
theorem mkL_74 : xIn (.methodLink RL 74 yX8_isCentral) := ⟨List.mem_of_getElem? (i := 1047) (by decide +kernel), rfl⟩
theorem mkL_78 : xIn (.methodLink RL 78 yX8_fixed) := ⟨List.mem_of_getElem? (i := 1054) (by decide +kernel), rfl⟩
theorem mkL_81 : xIn (.methodLink RL 81 yX8_orbit) := ⟨List.mem_of_getElem? (i := 1065) (by decide +kernel), rfl⟩
theorem mkL_84 : xIn (.methodLink RL 84 yX8_classes) := ⟨List.mem_of_getElem? (i := 1076) (by decide +kernel), rfl⟩
theorem mkL_87 : xIn (.methodLink RL 87 yX8_classOf) := ⟨List.mem_of_getElem? (i := 1120) (by decide +kernel), rfl⟩
theorem mkL_90 : xIn (.methodLink RL 90 yX8_classTimes) := ⟨List.mem_of_getElem? (i := 1128) (by decide +kernel), rfl⟩
theorem mkL_93 : xIn (.methodLink RL 93 yX8_classAct) := ⟨List.mem_of_getElem? (i := 1140) (by decide +kernel), rfl⟩
theorem mkL_96 : xIn (.methodLink RL 96 yX8_profile) := ⟨List.mem_of_getElem? (i := 1151) (by decide +kernel), rfl⟩
theorem mkL_100 : xIn (.methodLink RL 100 yX8_areAlike) := ⟨List.mem_of_getElem? (i := 1159) (by decide +kernel), rfl⟩
theorem mkL_104 : xIn (.methodLink RL 104 yX8_kinds) := ⟨List.mem_of_getElem? (i := 1170) (by decide +kernel), rfl⟩
theorem mkL_107 : xIn (.methodLink RL 107 yX8_firstAlike) := ⟨List.mem_of_getElem? (i := 1183) (by decide +kernel), rfl⟩
theorem mkL_110 : xIn (.methodLink RL 110 yX8_largeTimes) := ⟨List.mem_of_getElem? (i := 1190) (by decide +kernel), rfl⟩
theorem mkL_113 : xIn (.methodLink RL 113 yX8_target) := ⟨List.mem_of_getElem? (i := 1213) (by decide +kernel), rfl⟩
theorem mkL_116 : xIn (.methodLink RL 116 yX8_largeOrder) := ⟨List.mem_of_getElem? (i := 1226) (by decide +kernel), rfl⟩
theorem mkL_119 : xIn (.methodLink RL 119 yX8_between) := ⟨List.mem_of_getElem? (i := 1238) (by decide +kernel), rfl⟩
theorem mkL_122 : xIn (.methodLink RL 122 yX8_end) := ⟨List.mem_of_getElem? (i := 1250) (by decide +kernel), rfl⟩
theorem mkL_125 : xIn (.methodLink RL 125 yX8_top) := ⟨List.mem_of_getElem? (i := 1261) (by decide +kernel), rfl⟩
theorem mkL_128 : xIn (.methodLink RL 128 yX8_bottom) := ⟨List.mem_of_getElem? (i := 1273) (by decide +kernel), rfl⟩
theorem mkL_131 : xIn (.methodLink RL 131 yX8_arrowWhy) := ⟨List.mem_of_getElem? (i := 1284) (by decide +kernel), rfl⟩
theorem mkL_134 : xIn (.methodLink RL 134 yX8_isEquivalence) := ⟨List.mem_of_getElem? (i := 1311) (by decide +kernel), rfl⟩
theorem mkL_137 : xIn (.methodLink RL 137 yX8_equivalences) := ⟨List.mem_of_getElem? (i := 1341) (by decide +kernel), rfl⟩
theorem mkL_140 : xIn (.methodLink RL 140 yX8_ladder) := ⟨List.mem_of_getElem? (i := 1353) (by decide +kernel), rfl⟩
theorem mkL_143 : xIn (.methodLink RL 143 yX8_joined) := ⟨List.mem_of_getElem? (i := 1369) (by decide +kernel), rfl⟩
theorem mkL_146 : xIn (.methodLink RL 146 yX8_through) := ⟨List.mem_of_getElem? (i := 1380) (by decide +kernel), rfl⟩
theorem mkL_149 : xIn (.methodLink RL 149 yX8_account) := ⟨List.mem_of_getElem? (i := 1387) (by decide +kernel), rfl⟩
theorem mkL_152 : xIn (.methodLink RL 152 yX8_writeModule) := ⟨List.mem_of_getElem? (i := 1394) (by decide +kernel), rfl⟩
theorem mkL_155 : xIn (.methodLink RL 155 yX8_writeTable) := ⟨List.mem_of_getElem? (i := 1405) (by decide +kernel), rfl⟩
theorem mkL_158 : xIn (.methodLink RL 158 yX8_textByte) := ⟨List.mem_of_getElem? (i := 1412) (by decide +kernel), rfl⟩
theorem mkL_161 : xIn (.methodLink RL 161 yX8_setBoundary) := ⟨List.mem_of_getElem? (i := 1419) (by decide +kernel), rfl⟩
theorem mkL_164 : xIn (.methodLink RL 164 yX8_setAct) := ⟨List.mem_of_getElem? (i := 1454) (by decide +kernel), rfl⟩
theorem mkL_168 : xIn (.methodLink RL 168 yX8_rest) := ⟨List.mem_of_getElem? (i := 1461) (by decide +kernel), rfl⟩
theorem mkL_171 : xIn (.methodLink RL 171 yX8_conjugate) := ⟨List.mem_of_getElem? (i := 1477) (by decide +kernel), rfl⟩
theorem mkL_174 : xIn (.methodLink RL 174 yX8_setTop) := ⟨List.mem_of_getElem? (i := 1488) (by decide +kernel), rfl⟩
theorem mkL_177 : xIn (.methodLink RL 177 yX8_setBottom) := ⟨List.mem_of_getElem? (i := 1495) (by decide +kernel), rfl⟩
theorem mkL_180 : xIn (.methodLink RL 180 yX8_undo) := ⟨List.mem_of_getElem? (i := 1502) (by decide +kernel), rfl⟩
theorem mkL_183 : xIn (.methodLink RL 183 yX8_save) := ⟨List.mem_of_getElem? (i := 1514) (by decide +kernel), rfl⟩
theorem mkL_186 : xIn (.methodLink RL 186 yX8_restore) := ⟨List.mem_of_getElem? (i := 1522) (by decide +kernel), rfl⟩
theorem mkL_189 : xIn (.methodLink RL 189 yX8_init) := ⟨List.mem_of_getElem? (i := 119) (by decide +kernel), rfl⟩
theorem mkL_192 : xIn (.methodLink RL 192 yX9_init) := ⟨List.mem_of_getElem? (i := 1530) (by decide +kernel), rfl⟩
theorem mkL_193 : xIn (.methodLink RL 193 yX8_append) := ⟨List.mem_of_getElem? (i := 369) (by decide +kernel), rfl⟩
theorem mkL_197 : xIn (.methodLink RL 197 yX9_append) := ⟨List.mem_of_getElem? (i := 1675) (by decide +kernel), rfl⟩
theorem mkL_198 : xIn (.methodLink RL 198 yL_load) := ⟨List.mem_of_getElem? (i := 393) (by decide +kernel), rfl⟩
theorem mkL_203 : xIn (.methodLink RL 203 yX9_load) := ⟨List.mem_of_getElem? (i := 1691) (by decide +kernel), rfl⟩
theorem mkL_204 : xIn (.methodLink RL 204 yX9_thrown) := ⟨List.mem_of_getElem? (i := 1671) (by decide +kernel), rfl⟩
theorem mkL_207 : xIn (.methodLink RL 207 yX8_parseError) := ⟨List.mem_of_getElem? (i := 377) (by decide +kernel), rfl⟩
theorem mkL_210 : xIn (.methodLink RL 210 yX9_parseError) := ⟨List.mem_of_getElem? (i := 1683) (by decide +kernel), rfl⟩
theorem mkL_211 : xIn (.methodLink RL 211 yX8_errorPosition) := ⟨List.mem_of_getElem? (i := 381) (by decide +kernel), rfl⟩
theorem mkL_214 : xIn (.methodLink RL 214 yX9_errorPosition) := ⟨List.mem_of_getElem? (i := 1687) (by decide +kernel), rfl⟩
theorem mkL_215 : xIn (.methodLink RL 215 yX8_buffered) := ⟨List.mem_of_getElem? (i := 385) (by decide +kernel), rfl⟩
theorem mkL_218 : xIn (.methodLink RL 218 yX9_buffered) := ⟨List.mem_of_getElem? (i := 1679) (by decide +kernel), rfl⟩
theorem mkL_219 : xIn (.methodLink RL 219 yL_count) := ⟨List.mem_of_getElem? (i := 821) (by decide +kernel), rfl⟩
theorem mkL_221 : xIn (.methodLink RL 221 yX9_count) := ⟨List.mem_of_getElem? (i := 1819) (by decide +kernel), rfl⟩
theorem mkL_222 : xIn (.methodLink RL 222 yL_letter) := ⟨List.mem_of_getElem? (i := 853) (by decide +kernel), rfl⟩
theorem mkL_225 : xIn (.methodLink RL 225 yX9_letter) := ⟨List.mem_of_getElem? (i := 1827) (by decide +kernel), rfl⟩
theorem mkL_226 : xIn (.methodLink RL 226 yL_size) := ⟨List.mem_of_getElem? (i := 876) (by decide +kernel), rfl⟩
theorem mkL_228 : xIn (.methodLink RL 228 yX9_size) := ⟨List.mem_of_getElem? (i := 1835) (by decide +kernel), rfl⟩
theorem mkL_229 : xIn (.methodLink RL 229 yL_times) := ⟨List.mem_of_getElem? (i := 887) (by decide +kernel), rfl⟩
theorem mkL_231 : xIn (.methodLink RL 231 yX9_times) := ⟨List.mem_of_getElem? (i := 1843) (by decide +kernel), rfl⟩
theorem mkL_232 : xIn (.methodLink RL 232 yL_inverse) := ⟨List.mem_of_getElem? (i := 899) (by decide +kernel), rfl⟩
theorem mkL_235 : xIn (.methodLink RL 235 yX9_inverse) := ⟨List.mem_of_getElem? (i := 1855) (by decide +kernel), rfl⟩
theorem mkL_236 : xIn (.methodLink RL 236 yL_orderOf) := ⟨List.mem_of_getElem? (i := 907) (by decide +kernel), rfl⟩
theorem mkL_238 : xIn (.methodLink RL 238 yX9_orderOf) := ⟨List.mem_of_getElem? (i := 1863) (by decide +kernel), rfl⟩
theorem mkL_239 : xIn (.methodLink RL 239 yL_centre) := ⟨List.mem_of_getElem? (i := 918) (by decide +kernel), rfl⟩
theorem mkL_241 : xIn (.methodLink RL 241 yX9_centre) := ⟨List.mem_of_getElem? (i := 1871) (by decide +kernel), rfl⟩
theorem mkL_242 : xIn (.methodLink RL 242 yL_conjugacy) := ⟨List.mem_of_getElem? (i := 929) (by decide +kernel), rfl⟩
theorem mkL_244 : xIn (.methodLink RL 244 yX9_conjugacy) := ⟨List.mem_of_getElem? (i := 1879) (by decide +kernel), rfl⟩
theorem mkL_245 : xIn (.methodLink RL 245 yL_generated) := ⟨List.mem_of_getElem? (i := 946) (by decide +kernel), rfl⟩
theorem mkL_247 : xIn (.methodLink RL 247 yX9_generated) := ⟨List.mem_of_getElem? (i := 1887) (by decide +kernel), rfl⟩
theorem mkL_248 : xIn (.methodLink RL 248 yL_normal) := ⟨List.mem_of_getElem? (i := 965) (by decide +kernel), rfl⟩
theorem mkL_250 : xIn (.methodLink RL 250 yX9_normal) := ⟨List.mem_of_getElem? (i := 1899) (by decide +kernel), rfl⟩
theorem mkL_251 : xIn (.methodLink RL 251 yL_groupOf) := ⟨List.mem_of_getElem? (i := 977) (by decide +kernel), rfl⟩
theorem mkL_254 : xIn (.methodLink RL 254 yX9_groupOf) := ⟨List.mem_of_getElem? (i := 1903) (by decide +kernel), rfl⟩
theorem mkL_255 : xIn (.methodLink RL 255 yL_boundary) := ⟨List.mem_of_getElem? (i := 988) (by decide +kernel), rfl⟩
theorem mkL_257 : xIn (.methodLink RL 257 yX9_boundary) := ⟨List.mem_of_getElem? (i := 1911) (by decide +kernel), rfl⟩
theorem mkL_258 : xIn (.methodLink RL 258 yL_act) := ⟨List.mem_of_getElem? (i := 996) (by decide +kernel), rfl⟩
theorem mkL_260 : xIn (.methodLink RL 260 yX9_act) := ⟨List.mem_of_getElem? (i := 1923) (by decide +kernel), rfl⟩
theorem mkL_261 : xIn (.methodLink RL 261 yL_why) := ⟨List.mem_of_getElem? (i := 1004) (by decide +kernel), rfl⟩
theorem mkL_263 : xIn (.methodLink RL 263 yX9_why) := ⟨List.mem_of_getElem? (i := 1935) (by decide +kernel), rfl⟩
theorem mkL_264 : xIn (.methodLink RL 264 yL_lawful) := ⟨List.mem_of_getElem? (i := 1011) (by decide +kernel), rfl⟩
theorem mkL_267 : xIn (.methodLink RL 267 yX9_lawful) := ⟨List.mem_of_getElem? (i := 1979) (by decide +kernel), rfl⟩
theorem mkL_268 : xIn (.methodLink RL 268 yL_kernel) := ⟨List.mem_of_getElem? (i := 1022) (by decide +kernel), rfl⟩
theorem mkL_270 : xIn (.methodLink RL 270 yX9_kernel) := ⟨List.mem_of_getElem? (i := 1987) (by decide +kernel), rfl⟩
theorem mkL_271 : xIn (.methodLink RL 271 yL_image) := ⟨List.mem_of_getElem? (i := 1033) (by decide +kernel), rfl⟩
theorem mkL_273 : xIn (.methodLink RL 273 yX9_image) := ⟨List.mem_of_getElem? (i := 1995) (by decide +kernel), rfl⟩
theorem mkL_274 : xIn (.methodLink RL 274 yL_isCentral) := ⟨List.mem_of_getElem? (i := 1044) (by decide +kernel), rfl⟩
theorem mkL_276 : xIn (.methodLink RL 276 yX9_isCentral) := ⟨List.mem_of_getElem? (i := 2003) (by decide +kernel), rfl⟩
theorem mkL_277 : xIn (.methodLink RL 277 yL_fixed) := ⟨List.mem_of_getElem? (i := 1051) (by decide +kernel), rfl⟩
theorem mkL_279 : xIn (.methodLink RL 279 yX9_fixed) := ⟨List.mem_of_getElem? (i := 2007) (by decide +kernel), rfl⟩
theorem mkL_280 : xIn (.methodLink RL 280 yL_orbit) := ⟨List.mem_of_getElem? (i := 1062) (by decide +kernel), rfl⟩
theorem mkL_282 : xIn (.methodLink RL 282 yX9_orbit) := ⟨List.mem_of_getElem? (i := 2011) (by decide +kernel), rfl⟩
theorem mkL_283 : xIn (.methodLink RL 283 yL_classes) := ⟨List.mem_of_getElem? (i := 1073) (by decide +kernel), rfl⟩
theorem mkL_285 : xIn (.methodLink RL 285 yX9_classes) := ⟨List.mem_of_getElem? (i := 2015) (by decide +kernel), rfl⟩
theorem mkL_286 : xIn (.methodLink RL 286 yL_classOf) := ⟨List.mem_of_getElem? (i := 1117) (by decide +kernel), rfl⟩
theorem mkL_288 : xIn (.methodLink RL 288 yX9_classOf) := ⟨List.mem_of_getElem? (i := 2027) (by decide +kernel), rfl⟩
theorem mkL_289 : xIn (.methodLink RL 289 yL_classTimes) := ⟨List.mem_of_getElem? (i := 1125) (by decide +kernel), rfl⟩
theorem mkL_291 : xIn (.methodLink RL 291 yX9_classTimes) := ⟨List.mem_of_getElem? (i := 2031) (by decide +kernel), rfl⟩
theorem mkL_292 : xIn (.methodLink RL 292 yL_classAct) := ⟨List.mem_of_getElem? (i := 1137) (by decide +kernel), rfl⟩
theorem mkL_294 : xIn (.methodLink RL 294 yX9_classAct) := ⟨List.mem_of_getElem? (i := 2039) (by decide +kernel), rfl⟩
theorem mkL_295 : xIn (.methodLink RL 295 yL_profile) := ⟨List.mem_of_getElem? (i := 1148) (by decide +kernel), rfl⟩
theorem mkL_298 : xIn (.methodLink RL 298 yX9_profile) := ⟨List.mem_of_getElem? (i := 2043) (by decide +kernel), rfl⟩
theorem mkL_299 : xIn (.methodLink RL 299 yL_areAlike) := ⟨List.mem_of_getElem? (i := 1156) (by decide +kernel), rfl⟩
theorem mkL_301 : xIn (.methodLink RL 301 yX9_areAlike) := ⟨List.mem_of_getElem? (i := 2051) (by decide +kernel), rfl⟩
theorem mkL_302 : xIn (.methodLink RL 302 yL_kinds) := ⟨List.mem_of_getElem? (i := 1167) (by decide +kernel), rfl⟩
theorem mkL_304 : xIn (.methodLink RL 304 yX9_kinds) := ⟨List.mem_of_getElem? (i := 2059) (by decide +kernel), rfl⟩
theorem mkL_305 : xIn (.methodLink RL 305 yL_firstAlike) := ⟨List.mem_of_getElem? (i := 1180) (by decide +kernel), rfl⟩
theorem mkL_307 : xIn (.methodLink RL 307 yX9_firstAlike) := ⟨List.mem_of_getElem? (i := 2067) (by decide +kernel), rfl⟩
theorem mkL_308 : xIn (.methodLink RL 308 yL_largeTimes) := ⟨List.mem_of_getElem? (i := 1187) (by decide +kernel), rfl⟩
theorem mkL_310 : xIn (.methodLink RL 310 yX9_largeTimes) := ⟨List.mem_of_getElem? (i := 2071) (by decide +kernel), rfl⟩
theorem mkL_311 : xIn (.methodLink RL 311 yL_target) := ⟨List.mem_of_getElem? (i := 1210) (by decide +kernel), rfl⟩
theorem mkL_313 : xIn (.methodLink RL 313 yX9_target) := ⟨List.mem_of_getElem? (i := 2083) (by decide +kernel), rfl⟩
theorem mkL_314 : xIn (.methodLink RL 314 yL_largeOrder) := ⟨List.mem_of_getElem? (i := 1223) (by decide +kernel), rfl⟩
theorem mkL_316 : xIn (.methodLink RL 316 yX9_largeOrder) := ⟨List.mem_of_getElem? (i := 2091) (by decide +kernel), rfl⟩
theorem mkL_317 : xIn (.methodLink RL 317 yL_between) := ⟨List.mem_of_getElem? (i := 1235) (by decide +kernel), rfl⟩
theorem mkL_319 : xIn (.methodLink RL 319 yX9_between) := ⟨List.mem_of_getElem? (i := 2095) (by decide +kernel), rfl⟩
theorem mkL_320 : xIn (.methodLink RL 320 yL_end) := ⟨List.mem_of_getElem? (i := 1247) (by decide +kernel), rfl⟩
theorem mkL_322 : xIn (.methodLink RL 322 yX9_end) := ⟨List.mem_of_getElem? (i := 2099) (by decide +kernel), rfl⟩
theorem mkL_323 : xIn (.methodLink RL 323 yL_top) := ⟨List.mem_of_getElem? (i := 1258) (by decide +kernel), rfl⟩
theorem mkL_325 : xIn (.methodLink RL 325 yX9_top) := ⟨List.mem_of_getElem? (i := 2107) (by decide +kernel), rfl⟩
theorem mkL_326 : xIn (.methodLink RL 326 yL_bottom) := ⟨List.mem_of_getElem? (i := 1270) (by decide +kernel), rfl⟩
theorem mkL_328 : xIn (.methodLink RL 328 yX9_bottom) := ⟨List.mem_of_getElem? (i := 2119) (by decide +kernel), rfl⟩
theorem mkL_329 : xIn (.methodLink RL 329 yL_arrowWhy) := ⟨List.mem_of_getElem? (i := 1281) (by decide +kernel), rfl⟩
theorem mkL_331 : xIn (.methodLink RL 331 yX9_arrowWhy) := ⟨List.mem_of_getElem? (i := 2131) (by decide +kernel), rfl⟩
theorem mkL_332 : xIn (.methodLink RL 332 yL_isEquivalence) := ⟨List.mem_of_getElem? (i := 1308) (by decide +kernel), rfl⟩
theorem mkL_334 : xIn (.methodLink RL 334 yX9_isEquivalence) := ⟨List.mem_of_getElem? (i := 2155) (by decide +kernel), rfl⟩
theorem mkL_335 : xIn (.methodLink RL 335 yL_equivalences) := ⟨List.mem_of_getElem? (i := 1338) (by decide +kernel), rfl⟩
theorem mkL_337 : xIn (.methodLink RL 337 yX9_equivalences) := ⟨List.mem_of_getElem? (i := 2166) (by decide +kernel), rfl⟩
theorem mkL_338 : xIn (.methodLink RL 338 yL_ladder) := ⟨List.mem_of_getElem? (i := 1350) (by decide +kernel), rfl⟩
theorem mkL_340 : xIn (.methodLink RL 340 yX9_ladder) := ⟨List.mem_of_getElem? (i := 2174) (by decide +kernel), rfl⟩
theorem mkL_341 : xIn (.methodLink RL 341 yL_joined) := ⟨List.mem_of_getElem? (i := 1366) (by decide +kernel), rfl⟩
theorem mkL_343 : xIn (.methodLink RL 343 yX9_joined) := ⟨List.mem_of_getElem? (i := 2182) (by decide +kernel), rfl⟩
theorem mkL_344 : xIn (.methodLink RL 344 yL_through) := ⟨List.mem_of_getElem? (i := 1377) (by decide +kernel), rfl⟩
theorem mkL_346 : xIn (.methodLink RL 346 yX9_through) := ⟨List.mem_of_getElem? (i := 2186) (by decide +kernel), rfl⟩
theorem mkL_347 : xIn (.methodLink RL 347 yL_account) := ⟨List.mem_of_getElem? (i := 1384) (by decide +kernel), rfl⟩
theorem mkL_349 : xIn (.methodLink RL 349 yX9_account) := ⟨List.mem_of_getElem? (i := 2190) (by decide +kernel), rfl⟩
theorem mkL_350 : xIn (.methodLink RL 350 yL_writeModule) := ⟨List.mem_of_getElem? (i := 1391) (by decide +kernel), rfl⟩
theorem mkL_352 : xIn (.methodLink RL 352 yX9_writeModule) := ⟨List.mem_of_getElem? (i := 2194) (by decide +kernel), rfl⟩
theorem mkL_353 : xIn (.methodLink RL 353 yL_writeTable) := ⟨List.mem_of_getElem? (i := 1402) (by decide +kernel), rfl⟩
theorem mkL_355 : xIn (.methodLink RL 355 yX9_writeTable) := ⟨List.mem_of_getElem? (i := 2202) (by decide +kernel), rfl⟩
theorem mkL_356 : xIn (.methodLink RL 356 yL_textByte) := ⟨List.mem_of_getElem? (i := 1409) (by decide +kernel), rfl⟩
theorem mkL_358 : xIn (.methodLink RL 358 yX9_textByte) := ⟨List.mem_of_getElem? (i := 2206) (by decide +kernel), rfl⟩
theorem mkL_359 : xIn (.methodLink RL 359 yL_setBoundary) := ⟨List.mem_of_getElem? (i := 1416) (by decide +kernel), rfl⟩
theorem mkL_361 : xIn (.methodLink RL 361 yX9_setBoundary) := ⟨List.mem_of_getElem? (i := 2210) (by decide +kernel), rfl⟩
theorem mkL_362 : xIn (.methodLink RL 362 yL_setAct) := ⟨List.mem_of_getElem? (i := 1451) (by decide +kernel), rfl⟩
theorem mkL_365 : xIn (.methodLink RL 365 yX9_setAct) := ⟨List.mem_of_getElem? (i := 2230) (by decide +kernel), rfl⟩
theorem mkL_366 : xIn (.methodLink RL 366 yL_rest) := ⟨List.mem_of_getElem? (i := 1458) (by decide +kernel), rfl⟩
theorem mkL_368 : xIn (.methodLink RL 368 yX9_rest) := ⟨List.mem_of_getElem? (i := 2234) (by decide +kernel), rfl⟩
theorem mkL_369 : xIn (.methodLink RL 369 yL_conjugate) := ⟨List.mem_of_getElem? (i := 1474) (by decide +kernel), rfl⟩
theorem mkL_371 : xIn (.methodLink RL 371 yX9_conjugate) := ⟨List.mem_of_getElem? (i := 2242) (by decide +kernel), rfl⟩
theorem mkL_372 : xIn (.methodLink RL 372 yL_setTop) := ⟨List.mem_of_getElem? (i := 1485) (by decide +kernel), rfl⟩
theorem mkL_374 : xIn (.methodLink RL 374 yX9_setTop) := ⟨List.mem_of_getElem? (i := 2246) (by decide +kernel), rfl⟩
theorem mkL_375 : xIn (.methodLink RL 375 yL_setBottom) := ⟨List.mem_of_getElem? (i := 1492) (by decide +kernel), rfl⟩
theorem mkL_377 : xIn (.methodLink RL 377 yX9_setBottom) := ⟨List.mem_of_getElem? (i := 2250) (by decide +kernel), rfl⟩
theorem mkL_378 : xIn (.methodLink RL 378 yL_undo) := ⟨List.mem_of_getElem? (i := 1499) (by decide +kernel), rfl⟩
theorem mkL_380 : xIn (.methodLink RL 380 yX9_undo) := ⟨List.mem_of_getElem? (i := 2254) (by decide +kernel), rfl⟩
theorem mkL_381 : xIn (.methodLink RL 381 yX8_undoable) := ⟨List.mem_of_getElem? (i := 389) (by decide +kernel), rfl⟩
theorem mkL_384 : xIn (.methodLink RL 384 yX9_undoable) := ⟨List.mem_of_getElem? (i := 2262) (by decide +kernel), rfl⟩
theorem mkL_385 : xIn (.methodLink RL 385 yL_save) := ⟨List.mem_of_getElem? (i := 1511) (by decide +kernel), rfl⟩
theorem mkL_387 : xIn (.methodLink RL 387 yX9_save) := ⟨List.mem_of_getElem? (i := 2266) (by decide +kernel), rfl⟩
theorem mkL_388 : xIn (.methodLink RL 388 yL_restore) := ⟨List.mem_of_getElem? (i := 1519) (by decide +kernel), rfl⟩
theorem mkL_390 : xIn (.methodLink RL 390 yX9_restore) := ⟨List.mem_of_getElem? (i := 2270) (by decide +kernel), rfl⟩
theorem mkX9_94 : xIn (.methodLink RX9 94 yX9_refuse) := ⟨List.mem_of_getElem? (i := 1698) (by decide +kernel), rfl⟩
theorem mkX9_110 : xIn (.methodLink RX9 110 yX9_seen) := ⟨List.mem_of_getElem? (i := 1710) (by decide +kernel), rfl⟩
theorem mkX9_120 : xIn (.methodLink RX9 120 yX9_isLetter) := ⟨List.mem_of_getElem? (i := 1714) (by decide +kernel), rfl⟩
theorem mkX9_124 : xIn (.methodLink RX9 124 yX9_isDigit) := ⟨List.mem_of_getElem? (i := 1717) (by decide +kernel), rfl⟩
theorem mkX9_136 : xIn (.methodLink RX9 136 yX9_fails) := ⟨List.mem_of_getElem? (i := 1731) (by decide +kernel), rfl⟩
theorem mkX9_140 : xIn (.methodLink RX9 140 yX9_token) := ⟨List.mem_of_getElem? (i := 1706) (by decide +kernel), rfl⟩
theorem mkX9_143 : xIn (.methodLink RX9 143 yJ0_length_8abf5) := ⟨List.mem_of_getElem? (i := 1725) (by decide +kernel), rfl⟩
theorem mkX9_148 : xIn (.methodLink RX9 148 yJ0_charAt_5068e) := ⟨List.mem_of_getElem? (i := 1726) (by decide +kernel), rfl⟩
theorem mkX9_152 : xIn (.methodLink RX9 152 yX9_in) := ⟨List.mem_of_getElem? (i := 1695) (by decide +kernel), rfl⟩
theorem mkX9_156 : xIn (.methodLink RX9 156 yX9_goesOn) := ⟨List.mem_of_getElem? (i := 1735) (by decide +kernel), rfl⟩
theorem mkX9_159 : xIn (.methodLink RX9 159 yX9_failsIf) := ⟨List.mem_of_getElem? (i := 1727) (by decide +kernel), rfl⟩
theorem mkX9_163 : xIn (.methodLink RX9 163 yX9_named) := ⟨List.mem_of_getElem? (i := 1752) (by decide +kernel), rfl⟩
theorem mkX9_167 : xIn (.methodLink RX9 167 yX9_oldName) := ⟨List.mem_of_getElem? (i := 1787) (by decide +kernel), rfl⟩
theorem mkX9_173 : xIn (.methodLink RX9 173 yX9_newName) := ⟨List.mem_of_getElem? (i := 1748) (by decide +kernel), rfl⟩
theorem mkX9_179 : xIn (.methodLink RX9 179 yX9_isWord) := ⟨List.mem_of_getElem? (i := 1721) (by decide +kernel), rfl⟩
theorem mkX9_183 : xIn (.methodLink RX9 183 yX9_takes) := ⟨List.mem_of_getElem? (i := 1757) (by decide +kernel), rfl⟩
theorem mkX9_186 : xIn (.methodLink RX9 186 yX9_laysCyclic) := ⟨List.mem_of_getElem? (i := 1761) (by decide +kernel), rfl⟩
theorem mkX9_191 : xIn (.methodLink RX9 191 yX9_laysDihedral) := ⟨List.mem_of_getElem? (i := 1770) (by decide +kernel), rfl⟩
theorem mkX9_196 : xIn (.methodLink RX9 196 yX9_laysQuaternion) := ⟨List.mem_of_getElem? (i := 1775) (by decide +kernel), rfl⟩
theorem mkX9_201 : xIn (.methodLink RX9 201 yX9_takesName) := ⟨List.mem_of_getElem? (i := 1783) (by decide +kernel), rfl⟩
theorem mkX9_204 : xIn (.methodLink RX9 204 yX9_laysProduct) := ⟨List.mem_of_getElem? (i := 1791) (by decide +kernel), rfl⟩
theorem mkX9_207 : xIn (.methodLink RX9 207 yX9_flag) := ⟨List.mem_of_getElem? (i := 1795) (by decide +kernel), rfl⟩
theorem mkX9_211 : xIn (.methodLink RX9 211 yX9_lays) := ⟨List.mem_of_getElem? (i := 1765) (by decide +kernel), rfl⟩
theorem mkX9_215 : xIn (.methodLink RX9 215 yX9_ofUnits) := ⟨List.mem_of_getElem? (i := 1779) (by decide +kernel), rfl⟩
theorem mkX9_221 : xIn (.methodLink RX9 221 yX9_has) := ⟨List.mem_of_getElem? (i := 1808) (by decide +kernel), rfl⟩
theorem mkX9_230 : xIn (.methodLink RX9 230 yX9_groupLine) := ⟨List.mem_of_getElem? (i := 1744) (by decide +kernel), rfl⟩
theorem mkX9_235 : xIn (.methodLink RX9 235 yX9_moduleLine) := ⟨List.mem_of_getElem? (i := 1799) (by decide +kernel), rfl⟩
theorem mkX9_240 : xIn (.methodLink RX9 240 yX9_actLine) := ⟨List.mem_of_getElem? (i := 1804) (by decide +kernel), rfl⟩
theorem mkX9_245 : xIn (.methodLink RX9 245 yX9_arrowLine) := ⟨List.mem_of_getElem? (i := 1812) (by decide +kernel), rfl⟩
theorem mkX9_250 : xIn (.methodLink RX9 250 yX9_line) := ⟨List.mem_of_getElem? (i := 1739) (by decide +kernel), rfl⟩
theorem mkX9_253 : xIn (.methodLink RX9 253 yX9_reads) := ⟨List.mem_of_getElem? (i := 1702) (by decide +kernel), rfl⟩
theorem mkX9_265 : xIn (.methodLink RX9 265 yX9_copies) := ⟨List.mem_of_getElem? (i := 1816) (by decide +kernel), rfl⟩
theorem mkX9_272 : xIn (.methodLink RX9 272 yX9_notLoaded) := ⟨List.mem_of_getElem? (i := 1823) (by decide +kernel), rfl⟩
theorem mkX9_276 : xIn (.methodLink RX9 276 yX9_nameLong) := ⟨List.mem_of_getElem? (i := 1831) (by decide +kernel), rfl⟩
theorem mkX9_279 : xIn (.methodLink RX9 279 yX9_noGroup) := ⟨List.mem_of_getElem? (i := 1839) (by decide +kernel), rfl⟩
theorem mkX9_282 : xIn (.methodLink RX9 282 yX9_noElement) := ⟨List.mem_of_getElem? (i := 1847) (by decide +kernel), rfl⟩
theorem mkX9_285 : xIn (.methodLink RX9 285 yX9_of) := ⟨List.mem_of_getElem? (i := 1851) (by decide +kernel), rfl⟩
theorem mkX9_289 : xIn (.methodLink RX9 289 yX9_inverseOf) := ⟨List.mem_of_getElem? (i := 1859) (by decide +kernel), rfl⟩
theorem mkX9_292 : xIn (.methodLink RX9 292 yX9_orderIn) := ⟨List.mem_of_getElem? (i := 1867) (by decide +kernel), rfl⟩
theorem mkX9_295 : xIn (.methodLink RX9 295 yX9_centreOf) := ⟨List.mem_of_getElem? (i := 1875) (by decide +kernel), rfl⟩
theorem mkX9_298 : xIn (.methodLink RX9 298 yX9_conjugateOf) := ⟨List.mem_of_getElem? (i := 1883) (by decide +kernel), rfl⟩
theorem mkX9_301 : xIn (.methodLink RX9 301 yX9_noSet) := ⟨List.mem_of_getElem? (i := 1891) (by decide +kernel), rfl⟩
theorem mkX9_304 : xIn (.methodLink RX9 304 yX9_made) := ⟨List.mem_of_getElem? (i := 1895) (by decide +kernel), rfl⟩
theorem mkX9_308 : xIn (.methodLink RX9 308 yX9_noModule) := ⟨List.mem_of_getElem? (i := 1907) (by decide +kernel), rfl⟩
theorem mkX9_311 : xIn (.methodLink RX9 311 yX9_noUpper) := ⟨List.mem_of_getElem? (i := 1915) (by decide +kernel), rfl⟩
theorem mkX9_314 : xIn (.methodLink RX9 314 yX9_boundaryOf) := ⟨List.mem_of_getElem? (i := 1919) (by decide +kernel), rfl⟩
theorem mkX9_317 : xIn (.methodLink RX9 317 yX9_noLower) := ⟨List.mem_of_getElem? (i := 1927) (by decide +kernel), rfl⟩
theorem mkX9_320 : xIn (.methodLink RX9 320 yX9_on) := ⟨List.mem_of_getElem? (i := 1931) (by decide +kernel), rfl⟩
theorem mkX9_323 : xIn (.methodLink RX9 323 yX9_uppers) := ⟨List.mem_of_getElem? (i := 1947) (by decide +kernel), rfl⟩
theorem mkX9_326 : xIn (.methodLink RX9 326 yX9_up) := ⟨List.mem_of_getElem? (i := 1951) (by decide +kernel), rfl⟩
theorem mkX9_329 : xIn (.methodLink RX9 329 yX9_down) := ⟨List.mem_of_getElem? (i := 1955) (by decide +kernel), rfl⟩
theorem mkX9_332 : xIn (.methodLink RX9 332 yX9_lowers) := ⟨List.mem_of_getElem? (i := 1963) (by decide +kernel), rfl⟩
theorem mkX9_335 : xIn (.methodLink RX9 335 yX9_breaksProducts) := ⟨List.mem_of_getElem? (i := 1943) (by decide +kernel), rfl⟩
theorem mkX9_338 : xIn (.methodLink RX9 338 yX9_breaksMaps) := ⟨List.mem_of_getElem? (i := 1959) (by decide +kernel), rfl⟩
theorem mkX9_341 : xIn (.methodLink RX9 341 yX9_breaksActions) := ⟨List.mem_of_getElem? (i := 1967) (by decide +kernel), rfl⟩
theorem mkX9_344 : xIn (.methodLink RX9 344 yX9_breaksBoundaries) := ⟨List.mem_of_getElem? (i := 1971) (by decide +kernel), rfl⟩
theorem mkX9_347 : xIn (.methodLink RX9 347 yX9_breaksConjugates) := ⟨List.mem_of_getElem? (i := 1975) (by decide +kernel), rfl⟩
theorem mkX9_350 : xIn (.methodLink RX9 350 yX9_whyOf) := ⟨List.mem_of_getElem? (i := 1939) (by decide +kernel), rfl⟩
theorem mkX9_353 : xIn (.methodLink RX9 353 yX9_lawfulNow) := ⟨List.mem_of_getElem? (i := 1983) (by decide +kernel), rfl⟩
theorem mkX9_356 : xIn (.methodLink RX9 356 yX9_kernelOf) := ⟨List.mem_of_getElem? (i := 1991) (by decide +kernel), rfl⟩
theorem mkX9_359 : xIn (.methodLink RX9 359 yX9_imageOf) := ⟨List.mem_of_getElem? (i := 1999) (by decide +kernel), rfl⟩
theorem mkX9_362 : xIn (.methodLink RX9 362 yX9_notLawful) := ⟨List.mem_of_getElem? (i := 2019) (by decide +kernel), rfl⟩
theorem mkX9_365 : xIn (.methodLink RX9 365 yX9_laysClasses) := ⟨List.mem_of_getElem? (i := 2023) (by decide +kernel), rfl⟩
theorem mkX9_368 : xIn (.methodLink RX9 368 yX9_classProduct) := ⟨List.mem_of_getElem? (i := 2035) (by decide +kernel), rfl⟩
theorem mkX9_371 : xIn (.methodLink RX9 371 yX9_profileOf) := ⟨List.mem_of_getElem? (i := 2047) (by decide +kernel), rfl⟩
theorem mkX9_375 : xIn (.methodLink RX9 375 yX9_alike) := ⟨List.mem_of_getElem? (i := 2055) (by decide +kernel), rfl⟩
theorem mkX9_378 : xIn (.methodLink RX9 378 yX9_firstLike) := ⟨List.mem_of_getElem? (i := 2063) (by decide +kernel), rfl⟩
theorem mkX9_381 : xIn (.methodLink RX9 381 yX9_noLarge) := ⟨List.mem_of_getElem? (i := 2075) (by decide +kernel), rfl⟩
theorem mkX9_384 : xIn (.methodLink RX9 384 yX9_large) := ⟨List.mem_of_getElem? (i := 2079) (by decide +kernel), rfl⟩
theorem mkX9_387 : xIn (.methodLink RX9 387 yX9_targetOf) := ⟨List.mem_of_getElem? (i := 2087) (by decide +kernel), rfl⟩
theorem mkX9_390 : xIn (.methodLink RX9 390 yX9_noArrow) := ⟨List.mem_of_getElem? (i := 2103) (by decide +kernel), rfl⟩
theorem mkX9_393 : xIn (.methodLink RX9 393 yX9_noTop) := ⟨List.mem_of_getElem? (i := 2111) (by decide +kernel), rfl⟩
theorem mkX9_396 : xIn (.methodLink RX9 396 yX9_topOf) := ⟨List.mem_of_getElem? (i := 2115) (by decide +kernel), rfl⟩
theorem mkX9_399 : xIn (.methodLink RX9 399 yX9_noBottom) := ⟨List.mem_of_getElem? (i := 2123) (by decide +kernel), rfl⟩
theorem mkX9_402 : xIn (.methodLink RX9 402 yX9_bottomOf) := ⟨List.mem_of_getElem? (i := 2127) (by decide +kernel), rfl⟩
theorem mkX9_405 : xIn (.methodLink RX9 405 yX9_breaksTops) := ⟨List.mem_of_getElem? (i := 2139) (by decide +kernel), rfl⟩
theorem mkX9_408 : xIn (.methodLink RX9 408 yX9_breaksBottoms) := ⟨List.mem_of_getElem? (i := 2143) (by decide +kernel), rfl⟩
theorem mkX9_411 : xIn (.methodLink RX9 411 yX9_breaksSquare) := ⟨List.mem_of_getElem? (i := 2147) (by decide +kernel), rfl⟩
theorem mkX9_414 : xIn (.methodLink RX9 414 yX9_breaksOn) := ⟨List.mem_of_getElem? (i := 2151) (by decide +kernel), rfl⟩
theorem mkX9_417 : xIn (.methodLink RX9 417 yX9_whyArrow) := ⟨List.mem_of_getElem? (i := 2135) (by decide +kernel), rfl⟩
theorem mkX9_420 : xIn (.methodLink RX9 420 yX9_ones) := ⟨List.mem_of_getElem? (i := 2163) (by decide +kernel), rfl⟩
theorem mkX9_423 : xIn (.methodLink RX9 423 yX9_isEqual) := ⟨List.mem_of_getElem? (i := 2159) (by decide +kernel), rfl⟩
theorem mkX9_426 : xIn (.methodLink RX9 426 yX9_allEqual) := ⟨List.mem_of_getElem? (i := 2170) (by decide +kernel), rfl⟩
theorem mkX9_429 : xIn (.methodLink RX9 429 yX9_onward) := ⟨List.mem_of_getElem? (i := 2178) (by decide +kernel), rfl⟩
theorem mkX9_435 : xIn (.methodLink RX9 435 yX9_says) := ⟨List.mem_of_getElem? (i := 2198) (by decide +kernel), rfl⟩
theorem mkX9_438 : xIn (.methodLink RX9 438 yX9_keeps) := ⟨List.mem_of_getElem? (i := 2222) (by decide +kernel), rfl⟩
theorem mkX9_441 : xIn (.methodLink RX9 441 yX9_begins) := ⟨List.mem_of_getElem? (i := 2218) (by decide +kernel), rfl⟩
theorem mkX9_447 : xIn (.methodLink RX9 447 yX9_touches) := ⟨List.mem_of_getElem? (i := 2214) (by decide +kernel), rfl⟩
theorem mkX9_450 : xIn (.methodLink RX9 450 yX9_ends) := ⟨List.mem_of_getElem? (i := 2226) (by decide +kernel), rfl⟩
theorem mkX9_453 : xIn (.methodLink RX9 453 yX9_acts) := ⟨List.mem_of_getElem? (i := 2238) (by decide +kernel), rfl⟩
theorem mkX9_457 : xIn (.methodLink RX9 457 yX9_fetches) := ⟨List.mem_of_getElem? (i := 2258) (by decide +kernel), rfl⟩
theorem mkJ0_335 : xIn (.methodLink RJ0 335 yJ0_coder_7d493) := ⟨List.mem_of_getElem? (i := 569) (by decide +kernel), rfl⟩
theorem mkJ0_492 : xIn (.methodLink RJ0 492 yJ0_isLatin1_aae02) := ⟨List.mem_of_getElem? (i := 579) (by decide +kernel), rfl⟩
theorem mkJ0_495 : xIn (.methodLink RJ0 495 yJ1_charAt_3b067) := ⟨List.mem_of_getElem? (i := 583) (by decide +kernel), rfl⟩
theorem mkJ0_498 : xIn (.methodLink RJ0 498 yJ2_charAt_3b067) := ⟨List.mem_of_getElem? (i := 594) (by decide +kernel), rfl⟩
theorem mkJ0_1059 : xIn (.methodLink RJ0 1059 yJ3_checkIndex_8e157) := ⟨List.mem_of_getElem? (i := 591) (by decide +kernel), rfl⟩
theorem mkJ1_9 : xIn (.methodLink RJ1 9 yJ0_checkIndex_df160) := ⟨List.mem_of_getElem? (i := 586) (by decide +kernel), rfl⟩
theorem mkJ2_48 : xIn (.methodLink RJ2 48 yJ2_length_9d52b) := ⟨List.mem_of_getElem? (i := 600) (by decide +kernel), rfl⟩
theorem mkJ2_67 : xIn (.methodLink RJ2 67 yJ2_checkIndex_2214a) := ⟨List.mem_of_getElem? (i := 597) (by decide +kernel), rfl⟩
theorem mkJ2_71 : xIn (.methodLink RJ2 71 yJ2_getChar_3b067) := ⟨List.mem_of_getElem? (i := 604) (by decide +kernel), rfl⟩
theorem mkJ2_414 : xIn (.methodLink RJ2 414 yJ0_checkIndex_df160) := ⟨List.mem_of_getElem? (i := 603) (by decide +kernel), rfl⟩
theorem okX0_init : xIn (.code yX0_init cX0_init 2 none) ∧ xIn (.initialized RX0) := ⟨⟨List.mem_of_getElem? (i := 262) (by decide +kernel), rfl⟩, ⟨List.mem_of_getElem? (i := 99) (by decide +kernel), rfl⟩⟩
theorem imX0_init : xIn (.instanceMethod yX0_init) := ⟨List.mem_of_getElem? (i := 261) (by decide +kernel), rfl⟩
theorem okX0_topOf : xIn (.code yX0_topOf cX0_topOf 2 (some .int)) ∧ xIn (.initialized RX0) := ⟨⟨List.mem_of_getElem? (i := 1268) (by decide +kernel), rfl⟩, ⟨List.mem_of_getElem? (i := 99) (by decide +kernel), rfl⟩⟩
theorem imX0_topOf : xIn (.instanceMethod yX0_topOf) := ⟨List.mem_of_getElem? (i := 1266) (by decide +kernel), rfl⟩
theorem seX0_topOf : xIn (.selects RX0 yX0_topOf yX0_topOf) := ⟨List.mem_of_getElem? (i := 1267) (by decide +kernel), rfl⟩
theorem okX0_bottomOf : xIn (.code yX0_bottomOf cX0_bottomOf 2 (some .int)) ∧ xIn (.initialized RX0) := ⟨⟨List.mem_of_getElem? (i := 1280) (by decide +kernel), rfl⟩, ⟨List.mem_of_getElem? (i := 99) (by decide +kernel), rfl⟩⟩
theorem imX0_bottomOf : xIn (.instanceMethod yX0_bottomOf) := ⟨List.mem_of_getElem? (i := 1278) (by decide +kernel), rfl⟩
theorem seX0_bottomOf : xIn (.selects RX0 yX0_bottomOf yX0_bottomOf) := ⟨List.mem_of_getElem? (i := 1279) (by decide +kernel), rfl⟩
theorem okX0_firstReason : xIn (.code yX0_firstReason cX0_firstReason 1 (some .int)) ∧ xIn (.initialized RX0) := ⟨⟨List.mem_of_getElem? (i := 1291) (by decide +kernel), rfl⟩, ⟨List.mem_of_getElem? (i := 99) (by decide +kernel), rfl⟩⟩
theorem imX0_firstReason : xIn (.instanceMethod yX0_firstReason) := ⟨List.mem_of_getElem? (i := 1289) (by decide +kernel), rfl⟩
theorem seX0_firstReason : xIn (.selects RX0 yX0_firstReason yX0_firstReason) := ⟨List.mem_of_getElem? (i := 1290) (by decide +kernel), rfl⟩
theorem okX0_keepsProducts : xIn (.code yX0_keepsProducts cX0_keepsProducts 5 (some .boolean)) ∧ xIn (.initialized RX0) := ⟨⟨List.mem_of_getElem? (i := 1294) (by decide +kernel), rfl⟩, ⟨List.mem_of_getElem? (i := 99) (by decide +kernel), rfl⟩⟩
theorem stX0_keepsProducts : xIn (.static yX0_keepsProducts) := ⟨List.mem_of_getElem? (i := 1293) (by decide +kernel), rfl⟩
theorem okX0_keepsBoundaries : xIn (.code yX0_keepsBoundaries cX0_keepsBoundaries 2 (some .boolean)) ∧ xIn (.initialized RX0) := ⟨⟨List.mem_of_getElem? (i := 1299) (by decide +kernel), rfl⟩, ⟨List.mem_of_getElem? (i := 99) (by decide +kernel), rfl⟩⟩
theorem imX0_keepsBoundaries : xIn (.instanceMethod yX0_keepsBoundaries) := ⟨List.mem_of_getElem? (i := 1297) (by decide +kernel), rfl⟩
theorem seX0_keepsBoundaries : xIn (.selects RX0 yX0_keepsBoundaries yX0_keepsBoundaries) := ⟨List.mem_of_getElem? (i := 1298) (by decide +kernel), rfl⟩
theorem okX0_keepsActions : xIn (.code yX0_keepsActions cX0_keepsActions 3 (some .boolean)) ∧ xIn (.initialized RX0) := ⟨⟨List.mem_of_getElem? (i := 1306) (by decide +kernel), rfl⟩, ⟨List.mem_of_getElem? (i := 99) (by decide +kernel), rfl⟩⟩
theorem imX0_keepsActions : xIn (.instanceMethod yX0_keepsActions) := ⟨List.mem_of_getElem? (i := 1304) (by decide +kernel), rfl⟩
theorem seX0_keepsActions : xIn (.selects RX0 yX0_keepsActions yX0_keepsActions) := ⟨List.mem_of_getElem? (i := 1305) (by decide +kernel), rfl⟩
theorem okX0_joinsAlikePairs : xIn (.code yX0_joinsAlikePairs cX0_joinsAlikePairs 3 (some .boolean)) ∧ xIn (.initialized RX0) := ⟨⟨List.mem_of_getElem? (i := 1318) (by decide +kernel), rfl⟩, ⟨List.mem_of_getElem? (i := 99) (by decide +kernel), rfl⟩⟩
theorem imX0_joinsAlikePairs : xIn (.instanceMethod yX0_joinsAlikePairs) := ⟨List.mem_of_getElem? (i := 1316) (by decide +kernel), rfl⟩
theorem seX0_joinsAlikePairs : xIn (.selects RX0 yX0_joinsAlikePairs yX0_joinsAlikePairs) := ⟨List.mem_of_getElem? (i := 1317) (by decide +kernel), rfl⟩
theorem okX0_partsKernel : xIn (.code yX0_partsKernel cX0_partsKernel 4 (some .boolean)) ∧ xIn (.initialized RX0) := ⟨⟨List.mem_of_getElem? (i := 1330) (by decide +kernel), rfl⟩, ⟨List.mem_of_getElem? (i := 99) (by decide +kernel), rfl⟩⟩
theorem imX0_partsKernel : xIn (.instanceMethod yX0_partsKernel) := ⟨List.mem_of_getElem? (i := 1328) (by decide +kernel), rfl⟩
theorem seX0_partsKernel : xIn (.selects RX0 yX0_partsKernel yX0_partsKernel) := ⟨List.mem_of_getElem? (i := 1329) (by decide +kernel), rfl⟩
theorem okX0_matchesClasses : xIn (.code yX0_matchesClasses cX0_matchesClasses 6 (some .boolean)) ∧ xIn (.initialized RX0) := ⟨⟨List.mem_of_getElem? (i := 1335) (by decide +kernel), rfl⟩, ⟨List.mem_of_getElem? (i := 99) (by decide +kernel), rfl⟩⟩
theorem imX0_matchesClasses : xIn (.instanceMethod yX0_matchesClasses) := ⟨List.mem_of_getElem? (i := 1333) (by decide +kernel), rfl⟩
theorem seX0_matchesClasses : xIn (.selects RX0 yX0_matchesClasses yX0_matchesClasses) := ⟨List.mem_of_getElem? (i := 1334) (by decide +kernel), rfl⟩
theorem okX1_init : xIn (.code yX1_init cX1_init 3 none) ∧ xIn (.initialized RX1) := ⟨⟨List.mem_of_getElem? (i := 186) (by decide +kernel), rfl⟩, ⟨List.mem_of_getElem? (i := 97) (by decide +kernel), rfl⟩⟩
theorem imX1_init : xIn (.instanceMethod yX1_init) := ⟨List.mem_of_getElem? (i := 185) (by decide +kernel), rfl⟩
theorem okX1_start : xIn (.code yX1_start cX1_start 4 none) ∧ xIn (.initialized RX1) := ⟨⟨List.mem_of_getElem? (i := 719) (by decide +kernel), rfl⟩, ⟨List.mem_of_getElem? (i := 97) (by decide +kernel), rfl⟩⟩
theorem imX1_start : xIn (.instanceMethod yX1_start) := ⟨List.mem_of_getElem? (i := 717) (by decide +kernel), rfl⟩
theorem seX1_start : xIn (.selects RX1 yX1_start yX1_start) := ⟨List.mem_of_getElem? (i := 718) (by decide +kernel), rfl⟩
theorem okX1_boundaryOf : xIn (.code yX1_boundaryOf cX1_boundaryOf 2 (some .int)) ∧ xIn (.initialized RX1) := ⟨⟨List.mem_of_getElem? (i := 783) (by decide +kernel), rfl⟩, ⟨List.mem_of_getElem? (i := 97) (by decide +kernel), rfl⟩⟩
theorem imX1_boundaryOf : xIn (.instanceMethod yX1_boundaryOf) := ⟨List.mem_of_getElem? (i := 781) (by decide +kernel), rfl⟩
theorem seX1_boundaryOf : xIn (.selects RX1 yX1_boundaryOf yX1_boundaryOf) := ⟨List.mem_of_getElem? (i := 782) (by decide +kernel), rfl⟩
theorem okX1_actionOf : xIn (.code yX1_actionOf cX1_actionOf 3 (some .int)) ∧ xIn (.initialized RX1) := ⟨⟨List.mem_of_getElem? (i := 794) (by decide +kernel), rfl⟩, ⟨List.mem_of_getElem? (i := 97) (by decide +kernel), rfl⟩⟩
theorem imX1_actionOf : xIn (.instanceMethod yX1_actionOf) := ⟨List.mem_of_getElem? (i := 792) (by decide +kernel), rfl⟩
theorem seX1_actionOf : xIn (.selects RX1 yX1_actionOf yX1_actionOf) := ⟨List.mem_of_getElem? (i := 793) (by decide +kernel), rfl⟩
theorem okX1_replaceAction : xIn (.code yX1_replaceAction cX1_replaceAction 5 (some .int)) ∧ xIn (.initialized RX1) := ⟨⟨List.mem_of_getElem? (i := 1472) (by decide +kernel), rfl⟩, ⟨List.mem_of_getElem? (i := 97) (by decide +kernel), rfl⟩⟩
theorem imX1_replaceAction : xIn (.instanceMethod yX1_replaceAction) := ⟨List.mem_of_getElem? (i := 1470) (by decide +kernel), rfl⟩
theorem seX1_replaceAction : xIn (.selects RX1 yX1_replaceAction yX1_replaceAction) := ⟨List.mem_of_getElem? (i := 1471) (by decide +kernel), rfl⟩
theorem okX1_becomeRestful : xIn (.code yX1_becomeRestful cX1_becomeRestful 4 (some .int)) ∧ xIn (.initialized RX1) := ⟨⟨List.mem_of_getElem? (i := 1468) (by decide +kernel), rfl⟩, ⟨List.mem_of_getElem? (i := 97) (by decide +kernel), rfl⟩⟩
theorem imX1_becomeRestful : xIn (.instanceMethod yX1_becomeRestful) := ⟨List.mem_of_getElem? (i := 1466) (by decide +kernel), rfl⟩
theorem seX1_becomeRestful : xIn (.selects RX1 yX1_becomeRestful yX1_becomeRestful) := ⟨List.mem_of_getElem? (i := 1467) (by decide +kernel), rfl⟩
theorem okX1_becomeConjugation : xIn (.code yX1_becomeConjugation cX1_becomeConjugation 4 (some .int)) ∧ xIn (.initialized RX1) := ⟨⟨List.mem_of_getElem? (i := 1484) (by decide +kernel), rfl⟩, ⟨List.mem_of_getElem? (i := 97) (by decide +kernel), rfl⟩⟩
theorem imX1_becomeConjugation : xIn (.instanceMethod yX1_becomeConjugation) := ⟨List.mem_of_getElem? (i := 1482) (by decide +kernel), rfl⟩
theorem seX1_becomeConjugation : xIn (.selects RX1 yX1_becomeConjugation yX1_becomeConjugation) := ⟨List.mem_of_getElem? (i := 1483) (by decide +kernel), rfl⟩
theorem okX1_firstReason : xIn (.code yX1_firstReason cX1_firstReason 2 (some .int)) ∧ xIn (.initialized RX1) := ⟨⟨List.mem_of_getElem? (i := 774) (by decide +kernel), rfl⟩, ⟨List.mem_of_getElem? (i := 97) (by decide +kernel), rfl⟩⟩
theorem imX1_firstReason : xIn (.instanceMethod yX1_firstReason) := ⟨List.mem_of_getElem? (i := 772) (by decide +kernel), rfl⟩
theorem seX1_firstReason : xIn (.selects RX1 yX1_firstReason yX1_firstReason) := ⟨List.mem_of_getElem? (i := 773) (by decide +kernel), rfl⟩
theorem okX1_boundaryKeepsProducts : xIn (.code yX1_boundaryKeepsProducts cX1_boundaryKeepsProducts 3 (some .boolean)) ∧ xIn (.initialized RX1) := ⟨⟨List.mem_of_getElem? (i := 778) (by decide +kernel), rfl⟩, ⟨List.mem_of_getElem? (i := 97) (by decide +kernel), rfl⟩⟩
theorem imX1_boundaryKeepsProducts : xIn (.instanceMethod yX1_boundaryKeepsProducts) := ⟨List.mem_of_getElem? (i := 776) (by decide +kernel), rfl⟩
theorem seX1_boundaryKeepsProducts : xIn (.selects RX1 yX1_boundaryKeepsProducts yX1_boundaryKeepsProducts) := ⟨List.mem_of_getElem? (i := 777) (by decide +kernel), rfl⟩
theorem okX1_isAutomorphism : xIn (.code yX1_isAutomorphism cX1_isAutomorphism 5 (some .boolean)) ∧ xIn (.initialized RX1) := ⟨⟨List.mem_of_getElem? (i := 790) (by decide +kernel), rfl⟩, ⟨List.mem_of_getElem? (i := 97) (by decide +kernel), rfl⟩⟩
theorem imX1_isAutomorphism : xIn (.instanceMethod yX1_isAutomorphism) := ⟨List.mem_of_getElem? (i := 788) (by decide +kernel), rfl⟩
theorem seX1_isAutomorphism : xIn (.selects RX1 yX1_isAutomorphism yX1_isAutomorphism) := ⟨List.mem_of_getElem? (i := 789) (by decide +kernel), rfl⟩
theorem okX1_actionKeepsProducts : xIn (.code yX1_actionKeepsProducts cX1_actionKeepsProducts 4 (some .boolean)) ∧ xIn (.initialized RX1) := ⟨⟨List.mem_of_getElem? (i := 799) (by decide +kernel), rfl⟩, ⟨List.mem_of_getElem? (i := 97) (by decide +kernel), rfl⟩⟩
theorem imX1_actionKeepsProducts : xIn (.instanceMethod yX1_actionKeepsProducts) := ⟨List.mem_of_getElem? (i := 797) (by decide +kernel), rfl⟩
theorem seX1_actionKeepsProducts : xIn (.selects RX1 yX1_actionKeepsProducts yX1_actionKeepsProducts) := ⟨List.mem_of_getElem? (i := 798) (by decide +kernel), rfl⟩
theorem okX1_boundaryFollowsAction : xIn (.code yX1_boundaryFollowsAction cX1_boundaryFollowsAction 3 (some .boolean)) ∧ xIn (.initialized RX1) := ⟨⟨List.mem_of_getElem? (i := 803) (by decide +kernel), rfl⟩, ⟨List.mem_of_getElem? (i := 97) (by decide +kernel), rfl⟩⟩
theorem imX1_boundaryFollowsAction : xIn (.instanceMethod yX1_boundaryFollowsAction) := ⟨List.mem_of_getElem? (i := 801) (by decide +kernel), rfl⟩
theorem seX1_boundaryFollowsAction : xIn (.selects RX1 yX1_boundaryFollowsAction yX1_boundaryFollowsAction) := ⟨List.mem_of_getElem? (i := 802) (by decide +kernel), rfl⟩
theorem okX1_boundaryActsAsConjugation : xIn (.code yX1_boundaryActsAsConjugation cX1_boundaryActsAsConjugation 3 (some .boolean)) ∧ xIn (.initialized RX1) := ⟨⟨List.mem_of_getElem? (i := 816) (by decide +kernel), rfl⟩, ⟨List.mem_of_getElem? (i := 97) (by decide +kernel), rfl⟩⟩
theorem imX1_boundaryActsAsConjugation : xIn (.instanceMethod yX1_boundaryActsAsConjugation) := ⟨List.mem_of_getElem? (i := 814) (by decide +kernel), rfl⟩
theorem seX1_boundaryActsAsConjugation : xIn (.selects RX1 yX1_boundaryActsAsConjugation yX1_boundaryActsAsConjugation) := ⟨List.mem_of_getElem? (i := 815) (by decide +kernel), rfl⟩
theorem okX1_kernelSet : xIn (.code yX1_kernelSet cX1_kernelSet 3 (some .int)) ∧ xIn (.initialized RX1) := ⟨⟨List.mem_of_getElem? (i := 1032) (by decide +kernel), rfl⟩, ⟨List.mem_of_getElem? (i := 97) (by decide +kernel), rfl⟩⟩
theorem imX1_kernelSet : xIn (.instanceMethod yX1_kernelSet) := ⟨List.mem_of_getElem? (i := 1030) (by decide +kernel), rfl⟩
theorem seX1_kernelSet : xIn (.selects RX1 yX1_kernelSet yX1_kernelSet) := ⟨List.mem_of_getElem? (i := 1031) (by decide +kernel), rfl⟩
theorem okX1_imageSet : xIn (.code yX1_imageSet cX1_imageSet 3 (some .int)) ∧ xIn (.initialized RX1) := ⟨⟨List.mem_of_getElem? (i := 1043) (by decide +kernel), rfl⟩, ⟨List.mem_of_getElem? (i := 97) (by decide +kernel), rfl⟩⟩
theorem imX1_imageSet : xIn (.instanceMethod yX1_imageSet) := ⟨List.mem_of_getElem? (i := 1041) (by decide +kernel), rfl⟩
theorem seX1_imageSet : xIn (.selects RX1 yX1_imageSet yX1_imageSet) := ⟨List.mem_of_getElem? (i := 1042) (by decide +kernel), rfl⟩
theorem okX1_stabilizer : xIn (.code yX1_stabilizer cX1_stabilizer 4 (some .int)) ∧ xIn (.initialized RX1) := ⟨⟨List.mem_of_getElem? (i := 1061) (by decide +kernel), rfl⟩, ⟨List.mem_of_getElem? (i := 97) (by decide +kernel), rfl⟩⟩
theorem imX1_stabilizer : xIn (.instanceMethod yX1_stabilizer) := ⟨List.mem_of_getElem? (i := 1059) (by decide +kernel), rfl⟩
theorem seX1_stabilizer : xIn (.selects RX1 yX1_stabilizer yX1_stabilizer) := ⟨List.mem_of_getElem? (i := 1060) (by decide +kernel), rfl⟩
theorem okX1_orbitSet : xIn (.code yX1_orbitSet cX1_orbitSet 4 (some .int)) ∧ xIn (.initialized RX1) := ⟨⟨List.mem_of_getElem? (i := 1072) (by decide +kernel), rfl⟩, ⟨List.mem_of_getElem? (i := 97) (by decide +kernel), rfl⟩⟩
theorem imX1_orbitSet : xIn (.instanceMethod yX1_orbitSet) := ⟨List.mem_of_getElem? (i := 1070) (by decide +kernel), rfl⟩
theorem seX1_orbitSet : xIn (.selects RX1 yX1_orbitSet yX1_orbitSet) := ⟨List.mem_of_getElem? (i := 1071) (by decide +kernel), rfl⟩
theorem okX1_freshPair : xIn (.code yX1_freshPair cX1_freshPair 1 (some (.object "CrossedModules$Pair"))) ∧ xIn (.initialized RX1) := ⟨⟨List.mem_of_getElem? (i := 1087) (by decide +kernel), rfl⟩, ⟨List.mem_of_getElem? (i := 97) (by decide +kernel), rfl⟩⟩
theorem imX1_freshPair : xIn (.instanceMethod yX1_freshPair) := ⟨List.mem_of_getElem? (i := 1085) (by decide +kernel), rfl⟩
theorem seX1_freshPair : xIn (.selects RX1 yX1_freshPair yX1_freshPair) := ⟨List.mem_of_getElem? (i := 1086) (by decide +kernel), rfl⟩
theorem okX1_hasLarge : xIn (.code yX1_hasLarge cX1_hasLarge 2 (some .boolean)) ∧ xIn (.initialized RX1) := ⟨⟨List.mem_of_getElem? (i := 1197) (by decide +kernel), rfl⟩, ⟨List.mem_of_getElem? (i := 97) (by decide +kernel), rfl⟩⟩
theorem imX1_hasLarge : xIn (.instanceMethod yX1_hasLarge) := ⟨List.mem_of_getElem? (i := 1195) (by decide +kernel), rfl⟩
theorem seX1_hasLarge : xIn (.selects RX1 yX1_hasLarge yX1_hasLarge) := ⟨List.mem_of_getElem? (i := 1196) (by decide +kernel), rfl⟩
theorem okX1_upperPart : xIn (.code yX1_upperPart cX1_upperPart 2 (some .int)) ∧ xIn (.initialized RX1) := ⟨⟨List.mem_of_getElem? (i := 1209) (by decide +kernel), rfl⟩, ⟨List.mem_of_getElem? (i := 97) (by decide +kernel), rfl⟩⟩
theorem imX1_upperPart : xIn (.instanceMethod yX1_upperPart) := ⟨List.mem_of_getElem? (i := 1207) (by decide +kernel), rfl⟩
theorem seX1_upperPart : xIn (.selects RX1 yX1_upperPart yX1_upperPart) := ⟨List.mem_of_getElem? (i := 1208) (by decide +kernel), rfl⟩
theorem okX1_lowerPart : xIn (.code yX1_lowerPart cX1_lowerPart 2 (some .int)) ∧ xIn (.initialized RX1) := ⟨⟨List.mem_of_getElem? (i := 1205) (by decide +kernel), rfl⟩, ⟨List.mem_of_getElem? (i := 97) (by decide +kernel), rfl⟩⟩
theorem imX1_lowerPart : xIn (.instanceMethod yX1_lowerPart) := ⟨List.mem_of_getElem? (i := 1203) (by decide +kernel), rfl⟩
theorem seX1_lowerPart : xIn (.selects RX1 yX1_lowerPart yX1_lowerPart) := ⟨List.mem_of_getElem? (i := 1204) (by decide +kernel), rfl⟩
theorem okX1_largeProduct : xIn (.code yX1_largeProduct cX1_largeProduct 5 (some .int)) ∧ xIn (.initialized RX1) := ⟨⟨List.mem_of_getElem? (i := 1201) (by decide +kernel), rfl⟩, ⟨List.mem_of_getElem? (i := 97) (by decide +kernel), rfl⟩⟩
theorem imX1_largeProduct : xIn (.instanceMethod yX1_largeProduct) := ⟨List.mem_of_getElem? (i := 1199) (by decide +kernel), rfl⟩
theorem seX1_largeProduct : xIn (.selects RX1 yX1_largeProduct yX1_largeProduct) := ⟨List.mem_of_getElem? (i := 1200) (by decide +kernel), rfl⟩
theorem okX1_largePeriod : xIn (.code yX1_largePeriod cX1_largePeriod 4 (some .int)) ∧ xIn (.initialized RX1) := ⟨⟨List.mem_of_getElem? (i := 1233) (by decide +kernel), rfl⟩, ⟨List.mem_of_getElem? (i := 97) (by decide +kernel), rfl⟩⟩
theorem imX1_largePeriod : xIn (.instanceMethod yX1_largePeriod) := ⟨List.mem_of_getElem? (i := 1231) (by decide +kernel), rfl⟩
theorem seX1_largePeriod : xIn (.selects RX1 yX1_largePeriod yX1_largePeriod) := ⟨List.mem_of_getElem? (i := 1232) (by decide +kernel), rfl⟩
theorem okX1_targetOf : xIn (.code yX1_targetOf cX1_targetOf 3 (some .int)) ∧ xIn (.initialized RX1) := ⟨⟨List.mem_of_getElem? (i := 1222) (by decide +kernel), rfl⟩, ⟨List.mem_of_getElem? (i := 97) (by decide +kernel), rfl⟩⟩
theorem imX1_targetOf : xIn (.instanceMethod yX1_targetOf) := ⟨List.mem_of_getElem? (i := 1220) (by decide +kernel), rfl⟩
theorem seX1_targetOf : xIn (.selects RX1 yX1_targetOf yX1_targetOf) := ⟨List.mem_of_getElem? (i := 1221) (by decide +kernel), rfl⟩
theorem okX1_countBetween : xIn (.code yX1_countBetween cX1_countBetween 5 (some .int)) ∧ xIn (.initialized RX1) := ⟨⟨List.mem_of_getElem? (i := 1245) (by decide +kernel), rfl⟩, ⟨List.mem_of_getElem? (i := 97) (by decide +kernel), rfl⟩⟩
theorem imX1_countBetween : xIn (.instanceMethod yX1_countBetween) := ⟨List.mem_of_getElem? (i := 1243) (by decide +kernel), rfl⟩
theorem seX1_countBetween : xIn (.selects RX1 yX1_countBetween yX1_countBetween) := ⟨List.mem_of_getElem? (i := 1244) (by decide +kernel), rfl⟩
theorem okX2_init : xIn (.code yX2_init cX2_init 2 none) ∧ xIn (.initialized RX2) := ⟨⟨List.mem_of_getElem? (i := 162) (by decide +kernel), rfl⟩, ⟨List.mem_of_getElem? (i := 96) (by decide +kernel), rfl⟩⟩
theorem imX2_init : xIn (.instanceMethod yX2_init) := ⟨List.mem_of_getElem? (i := 161) (by decide +kernel), rfl⟩
theorem okX2_has : xIn (.code yX2_has cX2_has 2 (some .boolean)) ∧ xIn (.initialized RX2) := ⟨⟨List.mem_of_getElem? (i := 897) (by decide +kernel), rfl⟩, ⟨List.mem_of_getElem? (i := 96) (by decide +kernel), rfl⟩⟩
theorem imX2_has : xIn (.instanceMethod yX2_has) := ⟨List.mem_of_getElem? (i := 895) (by decide +kernel), rfl⟩
theorem seX2_has : xIn (.selects RX2 yX2_has yX2_has) := ⟨List.mem_of_getElem? (i := 896) (by decide +kernel), rfl⟩
theorem okX2_hasAll : xIn (.code yX2_hasAll cX2_hasAll 2 (some .boolean)) ∧ xIn (.initialized RX2) := ⟨⟨List.mem_of_getElem? (i := 956) (by decide +kernel), rfl⟩, ⟨List.mem_of_getElem? (i := 96) (by decide +kernel), rfl⟩⟩
theorem imX2_hasAll : xIn (.instanceMethod yX2_hasAll) := ⟨List.mem_of_getElem? (i := 954) (by decide +kernel), rfl⟩
theorem seX2_hasAll : xIn (.selects RX2 yX2_hasAll yX2_hasAll) := ⟨List.mem_of_getElem? (i := 955) (by decide +kernel), rfl⟩
theorem okX2_product : xIn (.code yX2_product cX2_product 4 (some .int)) ∧ xIn (.initialized RX2) := ⟨⟨List.mem_of_getElem? (i := 710) (by decide +kernel), rfl⟩, ⟨List.mem_of_getElem? (i := 96) (by decide +kernel), rfl⟩⟩
theorem imX2_product : xIn (.instanceMethod yX2_product) := ⟨List.mem_of_getElem? (i := 708) (by decide +kernel), rfl⟩
theorem seX2_product : xIn (.selects RX2 yX2_product yX2_product) := ⟨List.mem_of_getElem? (i := 709) (by decide +kernel), rfl⟩
theorem okX2_setProduct : xIn (.code yX2_setProduct cX2_setProduct 5 none) ∧ xIn (.initialized RX2) := ⟨⟨List.mem_of_getElem? (i := 665) (by decide +kernel), rfl⟩, ⟨List.mem_of_getElem? (i := 96) (by decide +kernel), rfl⟩⟩
theorem imX2_setProduct : xIn (.instanceMethod yX2_setProduct) := ⟨List.mem_of_getElem? (i := 663) (by decide +kernel), rfl⟩
theorem seX2_setProduct : xIn (.selects RX2 yX2_setProduct yX2_setProduct) := ⟨List.mem_of_getElem? (i := 664) (by decide +kernel), rfl⟩
theorem okX2_opposite : xIn (.code yX2_opposite cX2_opposite 2 (some .int)) ∧ xIn (.initialized RX2) := ⟨⟨List.mem_of_getElem? (i := 811) (by decide +kernel), rfl⟩, ⟨List.mem_of_getElem? (i := 96) (by decide +kernel), rfl⟩⟩
theorem imX2_opposite : xIn (.instanceMethod yX2_opposite) := ⟨List.mem_of_getElem? (i := 809) (by decide +kernel), rfl⟩
theorem seX2_opposite : xIn (.selects RX2 yX2_opposite yX2_opposite) := ⟨List.mem_of_getElem? (i := 810) (by decide +kernel), rfl⟩
theorem okX2_conjugateBy : xIn (.code yX2_conjugateBy cX2_conjugateBy 3 (some .int)) ∧ xIn (.initialized RX2) := ⟨⟨List.mem_of_getElem? (i := 807) (by decide +kernel), rfl⟩, ⟨List.mem_of_getElem? (i := 96) (by decide +kernel), rfl⟩⟩
theorem imX2_conjugateBy : xIn (.instanceMethod yX2_conjugateBy) := ⟨List.mem_of_getElem? (i := 805) (by decide +kernel), rfl⟩
theorem seX2_conjugateBy : xIn (.selects RX2 yX2_conjugateBy yX2_conjugateBy) := ⟨List.mem_of_getElem? (i := 806) (by decide +kernel), rfl⟩
theorem okX2_becomeCyclic : xIn (.code yX2_becomeCyclic cX2_becomeCyclic 4 none) ∧ xIn (.initialized RX2) := ⟨⟨List.mem_of_getElem? (i := 658) (by decide +kernel), rfl⟩, ⟨List.mem_of_getElem? (i := 96) (by decide +kernel), rfl⟩⟩
theorem imX2_becomeCyclic : xIn (.instanceMethod yX2_becomeCyclic) := ⟨List.mem_of_getElem? (i := 656) (by decide +kernel), rfl⟩
theorem seX2_becomeCyclic : xIn (.selects RX2 yX2_becomeCyclic yX2_becomeCyclic) := ⟨List.mem_of_getElem? (i := 657) (by decide +kernel), rfl⟩
theorem okX2_becomeDihedral : xIn (.code yX2_becomeDihedral cX2_becomeDihedral 6 none) ∧ xIn (.initialized RX2) := ⟨⟨List.mem_of_getElem? (i := 674) (by decide +kernel), rfl⟩, ⟨List.mem_of_getElem? (i := 96) (by decide +kernel), rfl⟩⟩
theorem imX2_becomeDihedral : xIn (.instanceMethod yX2_becomeDihedral) := ⟨List.mem_of_getElem? (i := 672) (by decide +kernel), rfl⟩
theorem seX2_becomeDihedral : xIn (.selects RX2 yX2_becomeDihedral yX2_becomeDihedral) := ⟨List.mem_of_getElem? (i := 673) (by decide +kernel), rfl⟩
theorem okX2_becomeQuaternion : xIn (.code yX2_becomeQuaternion cX2_becomeQuaternion 3 none) ∧ xIn (.initialized RX2) := ⟨⟨List.mem_of_getElem? (i := 683) (by decide +kernel), rfl⟩, ⟨List.mem_of_getElem? (i := 96) (by decide +kernel), rfl⟩⟩
theorem imX2_becomeQuaternion : xIn (.instanceMethod yX2_becomeQuaternion) := ⟨List.mem_of_getElem? (i := 681) (by decide +kernel), rfl⟩
theorem seX2_becomeQuaternion : xIn (.selects RX2 yX2_becomeQuaternion yX2_becomeQuaternion) := ⟨List.mem_of_getElem? (i := 682) (by decide +kernel), rfl⟩
theorem okX2_productOfUnits : xIn (.code yX2_productOfUnits cX2_productOfUnits 4 (some .int)) ∧ xIn (.initialized RX2) := ⟨⟨List.mem_of_getElem? (i := 686) (by decide +kernel), rfl⟩, ⟨List.mem_of_getElem? (i := 96) (by decide +kernel), rfl⟩⟩
theorem stX2_productOfUnits : xIn (.static yX2_productOfUnits) := ⟨List.mem_of_getElem? (i := 685) (by decide +kernel), rfl⟩
theorem okX2_becomeProduct : xIn (.code yX2_becomeProduct cX2_becomeProduct 8 none) ∧ xIn (.initialized RX2) := ⟨⟨List.mem_of_getElem? (i := 703) (by decide +kernel), rfl⟩, ⟨List.mem_of_getElem? (i := 96) (by decide +kernel), rfl⟩⟩
theorem imX2_becomeProduct : xIn (.instanceMethod yX2_becomeProduct) := ⟨List.mem_of_getElem? (i := 701) (by decide +kernel), rfl⟩
theorem seX2_becomeProduct : xIn (.selects RX2 yX2_becomeProduct yX2_becomeProduct) := ⟨List.mem_of_getElem? (i := 702) (by decide +kernel), rfl⟩
theorem okX2_findOpposites : xIn (.code yX2_findOpposites cX2_findOpposites 3 none) ∧ xIn (.initialized RX2) := ⟨⟨List.mem_of_getElem? (i := 769) (by decide +kernel), rfl⟩, ⟨List.mem_of_getElem? (i := 96) (by decide +kernel), rfl⟩⟩
theorem imX2_findOpposites : xIn (.instanceMethod yX2_findOpposites) := ⟨List.mem_of_getElem? (i := 767) (by decide +kernel), rfl⟩
theorem seX2_findOpposites : xIn (.selects RX2 yX2_findOpposites yX2_findOpposites) := ⟨List.mem_of_getElem? (i := 768) (by decide +kernel), rfl⟩
theorem okX2_period : xIn (.code yX2_period cX2_period 4 (some .int)) ∧ xIn (.initialized RX2) := ⟨⟨List.mem_of_getElem? (i := 917) (by decide +kernel), rfl⟩, ⟨List.mem_of_getElem? (i := 96) (by decide +kernel), rfl⟩⟩
theorem imX2_period : xIn (.instanceMethod yX2_period) := ⟨List.mem_of_getElem? (i := 915) (by decide +kernel), rfl⟩
theorem seX2_period : xIn (.selects RX2 yX2_period yX2_period) := ⟨List.mem_of_getElem? (i := 916) (by decide +kernel), rfl⟩
theorem okX2_middle : xIn (.code yX2_middle cX2_middle 5 (some .int)) ∧ xIn (.initialized RX2) := ⟨⟨List.mem_of_getElem? (i := 928) (by decide +kernel), rfl⟩, ⟨List.mem_of_getElem? (i := 96) (by decide +kernel), rfl⟩⟩
theorem imX2_middle : xIn (.instanceMethod yX2_middle) := ⟨List.mem_of_getElem? (i := 926) (by decide +kernel), rfl⟩
theorem seX2_middle : xIn (.selects RX2 yX2_middle yX2_middle) := ⟨List.mem_of_getElem? (i := 927) (by decide +kernel), rfl⟩
theorem okX2_conjugatesOf : xIn (.code yX2_conjugatesOf cX2_conjugatesOf 4 (some .int)) ∧ xIn (.initialized RX2) := ⟨⟨List.mem_of_getElem? (i := 944) (by decide +kernel), rfl⟩, ⟨List.mem_of_getElem? (i := 96) (by decide +kernel), rfl⟩⟩
theorem imX2_conjugatesOf : xIn (.instanceMethod yX2_conjugatesOf) := ⟨List.mem_of_getElem? (i := 942) (by decide +kernel), rfl⟩
theorem seX2_conjugatesOf : xIn (.selects RX2 yX2_conjugatesOf yX2_conjugatesOf) := ⟨List.mem_of_getElem? (i := 943) (by decide +kernel), rfl⟩
theorem okX2_countConjugateClasses : xIn (.code yX2_countConjugateClasses cX2_countConjugateClasses 4 (some .int)) ∧ xIn (.initialized RX2) := ⟨⟨List.mem_of_getElem? (i := 939) (by decide +kernel), rfl⟩, ⟨List.mem_of_getElem? (i := 96) (by decide +kernel), rfl⟩⟩
theorem imX2_countConjugateClasses : xIn (.instanceMethod yX2_countConjugateClasses) := ⟨List.mem_of_getElem? (i := 937) (by decide +kernel), rfl⟩
theorem seX2_countConjugateClasses : xIn (.selects RX2 yX2_countConjugateClasses yX2_countConjugateClasses) := ⟨List.mem_of_getElem? (i := 938) (by decide +kernel), rfl⟩
theorem okX2_closure : xIn (.code yX2_closure cX2_closure 5 (some .int)) ∧ xIn (.initialized RX2) := ⟨⟨List.mem_of_getElem? (i := 960) (by decide +kernel), rfl⟩, ⟨List.mem_of_getElem? (i := 96) (by decide +kernel), rfl⟩⟩
theorem imX2_closure : xIn (.instanceMethod yX2_closure) := ⟨List.mem_of_getElem? (i := 958) (by decide +kernel), rfl⟩
theorem seX2_closure : xIn (.selects RX2 yX2_closure yX2_closure) := ⟨List.mem_of_getElem? (i := 959) (by decide +kernel), rfl⟩
theorem okX2_productsWithin : xIn (.code yX2_productsWithin cX2_productsWithin 5 (some .int)) ∧ xIn (.initialized RX2) := ⟨⟨List.mem_of_getElem? (i := 964) (by decide +kernel), rfl⟩, ⟨List.mem_of_getElem? (i := 96) (by decide +kernel), rfl⟩⟩
theorem imX2_productsWithin : xIn (.instanceMethod yX2_productsWithin) := ⟨List.mem_of_getElem? (i := 962) (by decide +kernel), rfl⟩
theorem seX2_productsWithin : xIn (.selects RX2 yX2_productsWithin yX2_productsWithin) := ⟨List.mem_of_getElem? (i := 963) (by decide +kernel), rfl⟩
theorem okX2_normalClosure : xIn (.code yX2_normalClosure cX2_normalClosure 7 (some .int)) ∧ xIn (.initialized RX2) := ⟨⟨List.mem_of_getElem? (i := 975) (by decide +kernel), rfl⟩, ⟨List.mem_of_getElem? (i := 96) (by decide +kernel), rfl⟩⟩
theorem imX2_normalClosure : xIn (.instanceMethod yX2_normalClosure) := ⟨List.mem_of_getElem? (i := 973) (by decide +kernel), rfl⟩
theorem seX2_normalClosure : xIn (.selects RX2 yX2_normalClosure yX2_normalClosure) := ⟨List.mem_of_getElem? (i := 974) (by decide +kernel), rfl⟩
theorem okX3_init : xIn (.code yX3_init cX3_init 2 none) ∧ xIn (.initialized RX3) := ⟨⟨List.mem_of_getElem? (i := 135) (by decide +kernel), rfl⟩, ⟨List.mem_of_getElem? (i := 95) (by decide +kernel), rfl⟩⟩
theorem imX3_init : xIn (.instanceMethod yX3_init) := ⟨List.mem_of_getElem? (i := 134) (by decide +kernel), rfl⟩
theorem okX3_isFull : xIn (.code yX3_isFull cX3_isFull 1 (some .boolean)) ∧ xIn (.initialized RX3) := ⟨⟨List.mem_of_getElem? (i := 633) (by decide +kernel), rfl⟩, ⟨List.mem_of_getElem? (i := 95) (by decide +kernel), rfl⟩⟩
theorem imX3_isFull : xIn (.instanceMethod yX3_isFull) := ⟨List.mem_of_getElem? (i := 631) (by decide +kernel), rfl⟩
theorem seX3_isFull : xIn (.selects RX3 yX3_isFull yX3_isFull) := ⟨List.mem_of_getElem? (i := 632) (by decide +kernel), rfl⟩
theorem okX3_has : xIn (.code yX3_has cX3_has 2 (some .boolean)) ∧ xIn (.initialized RX3) := ⟨⟨List.mem_of_getElem? (i := 863) (by decide +kernel), rfl⟩, ⟨List.mem_of_getElem? (i := 95) (by decide +kernel), rfl⟩⟩
theorem imX3_has : xIn (.instanceMethod yX3_has) := ⟨List.mem_of_getElem? (i := 861) (by decide +kernel), rfl⟩
theorem seX3_has : xIn (.selects RX3 yX3_has yX3_has) := ⟨List.mem_of_getElem? (i := 862) (by decide +kernel), rfl⟩
theorem okX3_lengthOf : xIn (.code yX3_lengthOf cX3_lengthOf 2 (some .int)) ∧ xIn (.initialized RX3) := ⟨⟨List.mem_of_getElem? (i := 867) (by decide +kernel), rfl⟩, ⟨List.mem_of_getElem? (i := 95) (by decide +kernel), rfl⟩⟩
theorem imX3_lengthOf : xIn (.instanceMethod yX3_lengthOf) := ⟨List.mem_of_getElem? (i := 865) (by decide +kernel), rfl⟩
theorem seX3_lengthOf : xIn (.selects RX3 yX3_lengthOf yX3_lengthOf) := ⟨List.mem_of_getElem? (i := 866) (by decide +kernel), rfl⟩
theorem okX3_letterOf : xIn (.code yX3_letterOf cX3_letterOf 4 (some .int)) ∧ xIn (.initialized RX3) := ⟨⟨List.mem_of_getElem? (i := 872) (by decide +kernel), rfl⟩, ⟨List.mem_of_getElem? (i := 95) (by decide +kernel), rfl⟩⟩
theorem imX3_letterOf : xIn (.instanceMethod yX3_letterOf) := ⟨List.mem_of_getElem? (i := 870) (by decide +kernel), rfl⟩
theorem seX3_letterOf : xIn (.selects RX3 yX3_letterOf yX3_letterOf) := ⟨List.mem_of_getElem? (i := 871) (by decide +kernel), rfl⟩
theorem okX3_numberOf : xIn (.code yX3_numberOf cX3_numberOf 4 (some .int)) ∧ xIn (.initialized RX3) := ⟨⟨List.mem_of_getElem? (i := 637) (by decide +kernel), rfl⟩, ⟨List.mem_of_getElem? (i := 95) (by decide +kernel), rfl⟩⟩
theorem imX3_numberOf : xIn (.instanceMethod yX3_numberOf) := ⟨List.mem_of_getElem? (i := 635) (by decide +kernel), rfl⟩
theorem seX3_numberOf : xIn (.selects RX3 yX3_numberOf yX3_numberOf) := ⟨List.mem_of_getElem? (i := 636) (by decide +kernel), rfl⟩
theorem okX3_noteNext : xIn (.code yX3_noteNext cX3_noteNext 4 none) ∧ xIn (.initialized RX3) := ⟨⟨List.mem_of_getElem? (i := 641) (by decide +kernel), rfl⟩, ⟨List.mem_of_getElem? (i := 95) (by decide +kernel), rfl⟩⟩
theorem imX3_noteNext : xIn (.instanceMethod yX3_noteNext) := ⟨List.mem_of_getElem? (i := 639) (by decide +kernel), rfl⟩
theorem seX3_noteNext : xIn (.selects RX3 yX3_noteNext yX3_noteNext) := ⟨List.mem_of_getElem? (i := 640) (by decide +kernel), rfl⟩
theorem okX4_init : xIn (.code yX4_init cX4_init 1 none) ∧ xIn (.initialized RX4) := ⟨⟨List.mem_of_getElem? (i := 192) (by decide +kernel), rfl⟩, ⟨List.mem_of_getElem? (i := 98) (by decide +kernel), rfl⟩⟩
theorem imX4_init : xIn (.instanceMethod yX4_init) := ⟨List.mem_of_getElem? (i := 191) (by decide +kernel), rfl⟩
theorem okX4_has : xIn (.code yX4_has cX4_has 2 (some .boolean)) ∧ xIn (.initialized RX4) := ⟨⟨List.mem_of_getElem? (i := 1135) (by decide +kernel), rfl⟩, ⟨List.mem_of_getElem? (i := 98) (by decide +kernel), rfl⟩⟩
theorem imX4_has : xIn (.instanceMethod yX4_has) := ⟨List.mem_of_getElem? (i := 1133) (by decide +kernel), rfl⟩
theorem seX4_has : xIn (.selects RX4 yX4_has yX4_has) := ⟨List.mem_of_getElem? (i := 1134) (by decide +kernel), rfl⟩
theorem okX4_classHolding : xIn (.code yX4_classHolding cX4_classHolding 2 (some .int)) ∧ xIn (.initialized RX4) := ⟨⟨List.mem_of_getElem? (i := 1096) (by decide +kernel), rfl⟩, ⟨List.mem_of_getElem? (i := 98) (by decide +kernel), rfl⟩⟩
theorem imX4_classHolding : xIn (.instanceMethod yX4_classHolding) := ⟨List.mem_of_getElem? (i := 1094) (by decide +kernel), rfl⟩
theorem seX4_classHolding : xIn (.selects RX4 yX4_classHolding yX4_classHolding) := ⟨List.mem_of_getElem? (i := 1095) (by decide +kernel), rfl⟩
theorem okX4_leastOf : xIn (.code yX4_leastOf cX4_leastOf 2 (some .int)) ∧ xIn (.initialized RX4) := ⟨⟨List.mem_of_getElem? (i := 1147) (by decide +kernel), rfl⟩, ⟨List.mem_of_getElem? (i := 98) (by decide +kernel), rfl⟩⟩
theorem imX4_leastOf : xIn (.instanceMethod yX4_leastOf) := ⟨List.mem_of_getElem? (i := 1145) (by decide +kernel), rfl⟩
theorem seX4_leastOf : xIn (.selects RX4 yX4_leastOf yX4_leastOf) := ⟨List.mem_of_getElem? (i := 1146) (by decide +kernel), rfl⟩
theorem okX4_product : xIn (.code yX4_product cX4_product 4 (some .int)) ∧ xIn (.initialized RX4) := ⟨⟨List.mem_of_getElem? (i := 1116) (by decide +kernel), rfl⟩, ⟨List.mem_of_getElem? (i := 98) (by decide +kernel), rfl⟩⟩
theorem imX4_product : xIn (.instanceMethod yX4_product) := ⟨List.mem_of_getElem? (i := 1114) (by decide +kernel), rfl⟩
theorem seX4_product : xIn (.selects RX4 yX4_product yX4_product) := ⟨List.mem_of_getElem? (i := 1115) (by decide +kernel), rfl⟩
theorem okX4_period : xIn (.code yX4_period cX4_period 5 (some .int)) ∧ xIn (.initialized RX4) := ⟨⟨List.mem_of_getElem? (i := 1112) (by decide +kernel), rfl⟩, ⟨List.mem_of_getElem? (i := 98) (by decide +kernel), rfl⟩⟩
theorem imX4_period : xIn (.instanceMethod yX4_period) := ⟨List.mem_of_getElem? (i := 1110) (by decide +kernel), rfl⟩
theorem seX4_period : xIn (.selects RX4 yX4_period yX4_period) := ⟨List.mem_of_getElem? (i := 1111) (by decide +kernel), rfl⟩
theorem okX4_sortClasses : xIn (.code yX4_sortClasses cX4_sortClasses 4 none) ∧ xIn (.initialized RX4) := ⟨⟨List.mem_of_getElem? (i := 1091) (by decide +kernel), rfl⟩, ⟨List.mem_of_getElem? (i := 98) (by decide +kernel), rfl⟩⟩
theorem imX4_sortClasses : xIn (.instanceMethod yX4_sortClasses) := ⟨List.mem_of_getElem? (i := 1089) (by decide +kernel), rfl⟩
theorem seX4_sortClasses : xIn (.selects RX4 yX4_sortClasses yX4_sortClasses) := ⟨List.mem_of_getElem? (i := 1090) (by decide +kernel), rfl⟩
theorem okX4_countOrders : xIn (.code yX4_countOrders cX4_countOrders 3 none) ∧ xIn (.initialized RX4) := ⟨⟨List.mem_of_getElem? (i := 1104) (by decide +kernel), rfl⟩, ⟨List.mem_of_getElem? (i := 98) (by decide +kernel), rfl⟩⟩
theorem imX4_countOrders : xIn (.instanceMethod yX4_countOrders) := ⟨List.mem_of_getElem? (i := 1102) (by decide +kernel), rfl⟩
theorem seX4_countOrders : xIn (.selects RX4 yX4_countOrders yX4_countOrders) := ⟨List.mem_of_getElem? (i := 1103) (by decide +kernel), rfl⟩
theorem okX4_addOne : xIn (.code yX4_addOne cX4_addOne 2 none) ∧ xIn (.initialized RX4) := ⟨⟨List.mem_of_getElem? (i := 1108) (by decide +kernel), rfl⟩, ⟨List.mem_of_getElem? (i := 98) (by decide +kernel), rfl⟩⟩
theorem stX4_addOne : xIn (.static yX4_addOne) := ⟨List.mem_of_getElem? (i := 1107) (by decide +kernel), rfl⟩
theorem okX4_matches : xIn (.code yX4_matches cX4_matches 4 (some .boolean)) ∧ xIn (.initialized RX4) := ⟨⟨List.mem_of_getElem? (i := 1166) (by decide +kernel), rfl⟩, ⟨List.mem_of_getElem? (i := 98) (by decide +kernel), rfl⟩⟩
theorem imX4_matches : xIn (.instanceMethod yX4_matches) := ⟨List.mem_of_getElem? (i := 1164) (by decide +kernel), rfl⟩
theorem seX4_matches : xIn (.selects RX4 yX4_matches yX4_matches) := ⟨List.mem_of_getElem? (i := 1165) (by decide +kernel), rfl⟩
theorem okX5_init : xIn (.code yX5_init cX5_init 3 none) ∧ xIn (.initialized RX5) := ⟨⟨List.mem_of_getElem? (i := 516) (by decide +kernel), rfl⟩, ⟨List.mem_of_getElem? (i := 106) (by decide +kernel), rfl⟩⟩
theorem imX5_init : xIn (.instanceMethod yX5_init) := ⟨List.mem_of_getElem? (i := 515) (by decide +kernel), rfl⟩
theorem okX5_refuse : xIn (.code yX5_refuse cX5_refuse 2 (some .boolean)) ∧ xIn (.initialized RX5) := ⟨⟨List.mem_of_getElem? (i := 616) (by decide +kernel), rfl⟩, ⟨List.mem_of_getElem? (i := 106) (by decide +kernel), rfl⟩⟩
theorem imX5_refuse : xIn (.instanceMethod yX5_refuse) := ⟨List.mem_of_getElem? (i := 614) (by decide +kernel), rfl⟩
theorem seX5_refuse : xIn (.selects RX5 yX5_refuse yX5_refuse) := ⟨List.mem_of_getElem? (i := 615) (by decide +kernel), rfl⟩
theorem okX5_readText : xIn (.code yX5_readText cX5_readText 2 (some .boolean)) ∧ xIn (.initialized RX5) := ⟨⟨List.mem_of_getElem? (i := 536) (by decide +kernel), rfl⟩, ⟨List.mem_of_getElem? (i := 106) (by decide +kernel), rfl⟩⟩
theorem imX5_readText : xIn (.instanceMethod yX5_readText) := ⟨List.mem_of_getElem? (i := 534) (by decide +kernel), rfl⟩
theorem seX5_readText : xIn (.selects RX5 yX5_readText yX5_readText) := ⟨List.mem_of_getElem? (i := 535) (by decide +kernel), rfl⟩
theorem okX5_readLine : xIn (.code yX5_readLine cX5_readLine 1 (some .boolean)) ∧ xIn (.initialized RX5) := ⟨⟨List.mem_of_getElem? (i := 620) (by decide +kernel), rfl⟩, ⟨List.mem_of_getElem? (i := 106) (by decide +kernel), rfl⟩⟩
theorem imX5_readLine : xIn (.instanceMethod yX5_readLine) := ⟨List.mem_of_getElem? (i := 618) (by decide +kernel), rfl⟩
theorem seX5_readLine : xIn (.selects RX5 yX5_readLine yX5_readLine) := ⟨List.mem_of_getElem? (i := 619) (by decide +kernel), rfl⟩
theorem okX5_readGroup : xIn (.code yX5_readGroup cX5_readGroup 4 (some .boolean)) ∧ xIn (.initialized RX5) := ⟨⟨List.mem_of_getElem? (i := 625) (by decide +kernel), rfl⟩, ⟨List.mem_of_getElem? (i := 106) (by decide +kernel), rfl⟩⟩
theorem imX5_readGroup : xIn (.instanceMethod yX5_readGroup) := ⟨List.mem_of_getElem? (i := 623) (by decide +kernel), rfl⟩
theorem seX5_readGroup : xIn (.selects RX5 yX5_readGroup yX5_readGroup) := ⟨List.mem_of_getElem? (i := 624) (by decide +kernel), rfl⟩
theorem okX5_readCyclic : xIn (.code yX5_readCyclic cX5_readCyclic 2 (some .boolean)) ∧ xIn (.initialized RX5) := ⟨⟨List.mem_of_getElem? (i := 649) (by decide +kernel), rfl⟩, ⟨List.mem_of_getElem? (i := 106) (by decide +kernel), rfl⟩⟩
theorem imX5_readCyclic : xIn (.instanceMethod yX5_readCyclic) := ⟨List.mem_of_getElem? (i := 647) (by decide +kernel), rfl⟩
theorem seX5_readCyclic : xIn (.selects RX5 yX5_readCyclic yX5_readCyclic) := ⟨List.mem_of_getElem? (i := 648) (by decide +kernel), rfl⟩
theorem okX5_readDihedral : xIn (.code yX5_readDihedral cX5_readDihedral 2 (some .boolean)) ∧ xIn (.initialized RX5) := ⟨⟨List.mem_of_getElem? (i := 670) (by decide +kernel), rfl⟩, ⟨List.mem_of_getElem? (i := 106) (by decide +kernel), rfl⟩⟩
theorem imX5_readDihedral : xIn (.instanceMethod yX5_readDihedral) := ⟨List.mem_of_getElem? (i := 668) (by decide +kernel), rfl⟩
theorem seX5_readDihedral : xIn (.selects RX5 yX5_readDihedral yX5_readDihedral) := ⟨List.mem_of_getElem? (i := 669) (by decide +kernel), rfl⟩
theorem okX5_readQuaternion : xIn (.code yX5_readQuaternion cX5_readQuaternion 2 (some .boolean)) ∧ xIn (.initialized RX5) := ⟨⟨List.mem_of_getElem? (i := 679) (by decide +kernel), rfl⟩, ⟨List.mem_of_getElem? (i := 106) (by decide +kernel), rfl⟩⟩
theorem imX5_readQuaternion : xIn (.instanceMethod yX5_readQuaternion) := ⟨List.mem_of_getElem? (i := 677) (by decide +kernel), rfl⟩
theorem seX5_readQuaternion : xIn (.selects RX5 yX5_readQuaternion yX5_readQuaternion) := ⟨List.mem_of_getElem? (i := 678) (by decide +kernel), rfl⟩
theorem okX5_readProduct : xIn (.code yX5_readProduct cX5_readProduct 4 (some .boolean)) ∧ xIn (.initialized RX5) := ⟨⟨List.mem_of_getElem? (i := 691) (by decide +kernel), rfl⟩, ⟨List.mem_of_getElem? (i := 106) (by decide +kernel), rfl⟩⟩
theorem imX5_readProduct : xIn (.instanceMethod yX5_readProduct) := ⟨List.mem_of_getElem? (i := 689) (by decide +kernel), rfl⟩
theorem seX5_readProduct : xIn (.selects RX5 yX5_readProduct yX5_readProduct) := ⟨List.mem_of_getElem? (i := 690) (by decide +kernel), rfl⟩
theorem okX5_readModule : xIn (.code yX5_readModule cX5_readModule 5 (some .boolean)) ∧ xIn (.initialized RX5) := ⟨⟨List.mem_of_getElem? (i := 715) (by decide +kernel), rfl⟩, ⟨List.mem_of_getElem? (i := 106) (by decide +kernel), rfl⟩⟩
theorem imX5_readModule : xIn (.instanceMethod yX5_readModule) := ⟨List.mem_of_getElem? (i := 713) (by decide +kernel), rfl⟩
theorem seX5_readModule : xIn (.selects RX5 yX5_readModule yX5_readModule) := ⟨List.mem_of_getElem? (i := 714) (by decide +kernel), rfl⟩
theorem okX5_readAct : xIn (.code yX5_readAct cX5_readAct 3 (some .boolean)) ∧ xIn (.initialized RX5) := ⟨⟨List.mem_of_getElem? (i := 730) (by decide +kernel), rfl⟩, ⟨List.mem_of_getElem? (i := 106) (by decide +kernel), rfl⟩⟩
theorem imX5_readAct : xIn (.instanceMethod yX5_readAct) := ⟨List.mem_of_getElem? (i := 728) (by decide +kernel), rfl⟩
theorem seX5_readAct : xIn (.selects RX5 yX5_readAct yX5_readAct) := ⟨List.mem_of_getElem? (i := 729) (by decide +kernel), rfl⟩
theorem okX5_readArrow : xIn (.code yX5_readArrow cX5_readArrow 5 (some .boolean)) ∧ xIn (.initialized RX5) := ⟨⟨List.mem_of_getElem? (i := 742) (by decide +kernel), rfl⟩, ⟨List.mem_of_getElem? (i := 106) (by decide +kernel), rfl⟩⟩
theorem imX5_readArrow : xIn (.instanceMethod yX5_readArrow) := ⟨List.mem_of_getElem? (i := 740) (by decide +kernel), rfl⟩
theorem seX5_readArrow : xIn (.selects RX5 yX5_readArrow yX5_readArrow) := ⟨List.mem_of_getElem? (i := 741) (by decide +kernel), rfl⟩
theorem okX5_readNewName : xIn (.code yX5_readNewName cX5_readNewName 2 (some .boolean)) ∧ xIn (.initialized RX5) := ⟨⟨List.mem_of_getElem? (i := 629) (by decide +kernel), rfl⟩, ⟨List.mem_of_getElem? (i := 106) (by decide +kernel), rfl⟩⟩
theorem imX5_readNewName : xIn (.instanceMethod yX5_readNewName) := ⟨List.mem_of_getElem? (i := 627) (by decide +kernel), rfl⟩
theorem seX5_readNewName : xIn (.selects RX5 yX5_readNewName yX5_readNewName) := ⟨List.mem_of_getElem? (i := 628) (by decide +kernel), rfl⟩
theorem okX5_readElements : xIn (.code yX5_readElements cX5_readElements 6 (some .boolean)) ∧ xIn (.initialized RX5) := ⟨⟨List.mem_of_getElem? (i := 724) (by decide +kernel), rfl⟩, ⟨List.mem_of_getElem? (i := 106) (by decide +kernel), rfl⟩⟩
theorem imX5_readElements : xIn (.instanceMethod yX5_readElements) := ⟨List.mem_of_getElem? (i := 722) (by decide +kernel), rfl⟩
theorem seX5_readElements : xIn (.selects RX5 yX5_readElements yX5_readElements) := ⟨List.mem_of_getElem? (i := 723) (by decide +kernel), rfl⟩
theorem okX5_isNumber : xIn (.code yX5_isNumber cX5_isNumber 3 (some .boolean)) ∧ xIn (.initialized RX5) := ⟨⟨List.mem_of_getElem? (i := 653) (by decide +kernel), rfl⟩, ⟨List.mem_of_getElem? (i := 106) (by decide +kernel), rfl⟩⟩
theorem imX5_isNumber : xIn (.instanceMethod yX5_isNumber) := ⟨List.mem_of_getElem? (i := 651) (by decide +kernel), rfl⟩
theorem seX5_isNumber : xIn (.selects RX5 yX5_isNumber yX5_isNumber) := ⟨List.mem_of_getElem? (i := 652) (by decide +kernel), rfl⟩
theorem okX5_isKnown : xIn (.code yX5_isKnown cX5_isKnown 2 (some .boolean)) ∧ xIn (.initialized RX5) := ⟨⟨List.mem_of_getElem? (i := 695) (by decide +kernel), rfl⟩, ⟨List.mem_of_getElem? (i := 106) (by decide +kernel), rfl⟩⟩
theorem imX5_isKnown : xIn (.instanceMethod yX5_isKnown) := ⟨List.mem_of_getElem? (i := 693) (by decide +kernel), rfl⟩
theorem seX5_isKnown : xIn (.selects RX5 yX5_isKnown yX5_isKnown) := ⟨List.mem_of_getElem? (i := 694) (by decide +kernel), rfl⟩
theorem okX5_groupTold : xIn (.code yX5_groupTold cX5_groupTold 2 (some (.object "CrossedModules$Group"))) ∧ xIn (.initialized RX5) := ⟨⟨List.mem_of_getElem? (i := 699) (by decide +kernel), rfl⟩, ⟨List.mem_of_getElem? (i := 106) (by decide +kernel), rfl⟩⟩
theorem imX5_groupTold : xIn (.instanceMethod yX5_groupTold) := ⟨List.mem_of_getElem? (i := 697) (by decide +kernel), rfl⟩
theorem seX5_groupTold : xIn (.selects RX5 yX5_groupTold yX5_groupTold) := ⟨List.mem_of_getElem? (i := 698) (by decide +kernel), rfl⟩
theorem okX5_moduleTold : xIn (.code yX5_moduleTold cX5_moduleTold 2 (some (.object "CrossedModules$Crossed"))) ∧ xIn (.initialized RX5) := ⟨⟨List.mem_of_getElem? (i := 734) (by decide +kernel), rfl⟩, ⟨List.mem_of_getElem? (i := 106) (by decide +kernel), rfl⟩⟩
theorem imX5_moduleTold : xIn (.instanceMethod yX5_moduleTold) := ⟨List.mem_of_getElem? (i := 732) (by decide +kernel), rfl⟩
theorem seX5_moduleTold : xIn (.selects RX5 yX5_moduleTold yX5_moduleTold) := ⟨List.mem_of_getElem? (i := 733) (by decide +kernel), rfl⟩
theorem okX6_init : xIn (.code yX6_init cX6_init 3 none) ∧ xIn (.initialized RX6) := ⟨⟨List.mem_of_getElem? (i := 485) (by decide +kernel), rfl⟩, ⟨List.mem_of_getElem? (i := 107) (by decide +kernel), rfl⟩⟩
theorem imX6_init : xIn (.instanceMethod yX6_init) := ⟨List.mem_of_getElem? (i := 484) (by decide +kernel), rfl⟩
theorem okX6_byteAt : xIn (.code yX6_byteAt cX6_byteAt 2 (some .int)) ∧ xIn (.initialized RX6) := ⟨⟨List.mem_of_getElem? (i := 548) (by decide +kernel), rfl⟩, ⟨List.mem_of_getElem? (i := 107) (by decide +kernel), rfl⟩⟩
theorem imX6_byteAt : xIn (.instanceMethod yX6_byteAt) := ⟨List.mem_of_getElem? (i := 546) (by decide +kernel), rfl⟩
theorem seX6_byteAt : xIn (.selects RX6 yX6_byteAt yX6_byteAt) := ⟨List.mem_of_getElem? (i := 547) (by decide +kernel), rfl⟩
theorem okX6_advance : xIn (.code yX6_advance cX6_advance 2 none) ∧ xIn (.initialized RX6) := ⟨⟨List.mem_of_getElem? (i := 540) (by decide +kernel), rfl⟩, ⟨List.mem_of_getElem? (i := 107) (by decide +kernel), rfl⟩⟩
theorem imX6_advance : xIn (.instanceMethod yX6_advance) := ⟨List.mem_of_getElem? (i := 538) (by decide +kernel), rfl⟩
theorem seX6_advance : xIn (.selects RX6 yX6_advance yX6_advance) := ⟨List.mem_of_getElem? (i := 539) (by decide +kernel), rfl⟩
theorem okX6_endOfRun : xIn (.code yX6_endOfRun cX6_endOfRun 5 (some .int)) ∧ xIn (.initialized RX6) := ⟨⟨List.mem_of_getElem? (i := 544) (by decide +kernel), rfl⟩, ⟨List.mem_of_getElem? (i := 107) (by decide +kernel), rfl⟩⟩
theorem imX6_endOfRun : xIn (.instanceMethod yX6_endOfRun) := ⟨List.mem_of_getElem? (i := 542) (by decide +kernel), rfl⟩
theorem seX6_endOfRun : xIn (.selects RX6 yX6_endOfRun yX6_endOfRun) := ⟨List.mem_of_getElem? (i := 543) (by decide +kernel), rfl⟩
theorem okX6_packed : xIn (.code yX6_packed cX6_packed 4 (some .long)) ∧ xIn (.initialized RX6) := ⟨⟨List.mem_of_getElem? (i := 555) (by decide +kernel), rfl⟩, ⟨List.mem_of_getElem? (i := 107) (by decide +kernel), rfl⟩⟩
theorem imX6_packed : xIn (.instanceMethod yX6_packed) := ⟨List.mem_of_getElem? (i := 553) (by decide +kernel), rfl⟩
theorem seX6_packed : xIn (.selects RX6 yX6_packed yX6_packed) := ⟨List.mem_of_getElem? (i := 554) (by decide +kernel), rfl⟩
theorem okX6_spells : xIn (.code yX6_spells cX6_spells 4 (some .boolean)) ∧ xIn (.initialized RX6) := ⟨⟨List.mem_of_getElem? (i := 564) (by decide +kernel), rfl⟩, ⟨List.mem_of_getElem? (i := 107) (by decide +kernel), rfl⟩⟩
theorem imX6_spells : xIn (.instanceMethod yX6_spells) := ⟨List.mem_of_getElem? (i := 562) (by decide +kernel), rfl⟩
theorem seX6_spells : xIn (.selects RX6 yX6_spells yX6_spells) := ⟨List.mem_of_getElem? (i := 563) (by decide +kernel), rfl⟩
theorem okX6_reckoned : xIn (.code yX6_reckoned cX6_reckoned 3 (some .int)) ∧ xIn (.initialized RX6) := ⟨⟨List.mem_of_getElem? (i := 559) (by decide +kernel), rfl⟩, ⟨List.mem_of_getElem? (i := 107) (by decide +kernel), rfl⟩⟩
theorem imX6_reckoned : xIn (.instanceMethod yX6_reckoned) := ⟨List.mem_of_getElem? (i := 557) (by decide +kernel), rfl⟩
theorem seX6_reckoned : xIn (.selects RX6 yX6_reckoned yX6_reckoned) := ⟨List.mem_of_getElem? (i := 558) (by decide +kernel), rfl⟩
theorem okX7_init : xIn (.code yX7_init cX7_init 2 none) ∧ xIn (.initialized RX7) := ⟨⟨List.mem_of_getElem? (i := 129) (by decide +kernel), rfl⟩, ⟨List.mem_of_getElem? (i := 94) (by decide +kernel), rfl⟩⟩
theorem imX7_init : xIn (.instanceMethod yX7_init) := ⟨List.mem_of_getElem? (i := 128) (by decide +kernel), rfl⟩
theorem okX7_clear : xIn (.code yX7_clear cX7_clear 1 none) ∧ xIn (.initialized RX7) := ⟨⟨List.mem_of_getElem? (i := 475) (by decide +kernel), rfl⟩, ⟨List.mem_of_getElem? (i := 94) (by decide +kernel), rfl⟩⟩
theorem imX7_clear : xIn (.instanceMethod yX7_clear) := ⟨List.mem_of_getElem? (i := 473) (by decide +kernel), rfl⟩
theorem seX7_clear : xIn (.selects RX7 yX7_clear yX7_clear) := ⟨List.mem_of_getElem? (i := 474) (by decide +kernel), rfl⟩
theorem okX7_namesOf : xIn (.code yX7_namesOf cX7_namesOf 2 (some (.object "CrossedModules$Names"))) ∧ xIn (.initialized RX7) := ⟨⟨List.mem_of_getElem? (i := 852) (by decide +kernel), rfl⟩, ⟨List.mem_of_getElem? (i := 94) (by decide +kernel), rfl⟩⟩
theorem imX7_namesOf : xIn (.instanceMethod yX7_namesOf) := ⟨List.mem_of_getElem? (i := 850) (by decide +kernel), rfl⟩
theorem seX7_namesOf : xIn (.selects RX7 yX7_namesOf yX7_namesOf) := ⟨List.mem_of_getElem? (i := 851) (by decide +kernel), rfl⟩
theorem okX7_settle : xIn (.code yX7_settle cX7_settle 2 none) ∧ xIn (.initialized RX7) := ⟨⟨List.mem_of_getElem? (i := 765) (by decide +kernel), rfl⟩, ⟨List.mem_of_getElem? (i := 94) (by decide +kernel), rfl⟩⟩
theorem imX7_settle : xIn (.instanceMethod yX7_settle) := ⟨List.mem_of_getElem? (i := 763) (by decide +kernel), rfl⟩
theorem seX7_settle : xIn (.selects RX7 yX7_settle yX7_settle) := ⟨List.mem_of_getElem? (i := 764) (by decide +kernel), rfl⟩
theorem okX7_addToAccount : xIn (.code yX7_addToAccount cX7_addToAccount 2 none) ∧ xIn (.initialized RX7) := ⟨⟨List.mem_of_getElem? (i := 1442) (by decide +kernel), rfl⟩, ⟨List.mem_of_getElem? (i := 94) (by decide +kernel), rfl⟩⟩
theorem imX7_addToAccount : xIn (.instanceMethod yX7_addToAccount) := ⟨List.mem_of_getElem? (i := 1440) (by decide +kernel), rfl⟩
theorem seX7_addToAccount : xIn (.selects RX7 yX7_addToAccount yX7_addToAccount) := ⟨List.mem_of_getElem? (i := 1441) (by decide +kernel), rfl⟩
theorem okX7_judgeAgain : xIn (.code yX7_judgeAgain cX7_judgeAgain 3 none) ∧ xIn (.initialized RX7) := ⟨⟨List.mem_of_getElem? (i := 1449) (by decide +kernel), rfl⟩, ⟨List.mem_of_getElem? (i := 94) (by decide +kernel), rfl⟩⟩
theorem imX7_judgeAgain : xIn (.instanceMethod yX7_judgeAgain) := ⟨List.mem_of_getElem? (i := 1447) (by decide +kernel), rfl⟩
theorem seX7_judgeAgain : xIn (.selects RX7 yX7_judgeAgain yX7_judgeAgain) := ⟨List.mem_of_getElem? (i := 1448) (by decide +kernel), rfl⟩
theorem okX7_lawfulModules : xIn (.code yX7_lawfulModules cX7_lawfulModules 3 (some .int)) ∧ xIn (.initialized RX7) := ⟨⟨List.mem_of_getElem? (i := 1021) (by decide +kernel), rfl⟩, ⟨List.mem_of_getElem? (i := 94) (by decide +kernel), rfl⟩⟩
theorem imX7_lawfulModules : xIn (.instanceMethod yX7_lawfulModules) := ⟨List.mem_of_getElem? (i := 1019) (by decide +kernel), rfl⟩
theorem seX7_lawfulModules : xIn (.selects RX7 yX7_lawfulModules yX7_lawfulModules) := ⟨List.mem_of_getElem? (i := 1020) (by decide +kernel), rfl⟩
theorem okX7_firstLike : xIn (.code yX7_firstLike cX7_firstLike 4 (some .int)) ∧ xIn (.initialized RX7) := ⟨⟨List.mem_of_getElem? (i := 1177) (by decide +kernel), rfl⟩, ⟨List.mem_of_getElem? (i := 94) (by decide +kernel), rfl⟩⟩
theorem imX7_firstLike : xIn (.instanceMethod yX7_firstLike) := ⟨List.mem_of_getElem? (i := 1175) (by decide +kernel), rfl⟩
theorem seX7_firstLike : xIn (.selects RX7 yX7_firstLike yX7_firstLike) := ⟨List.mem_of_getElem? (i := 1176) (by decide +kernel), rfl⟩
theorem okX7_equivalenceSet : xIn (.code yX7_equivalenceSet cX7_equivalenceSet 3 (some .int)) ∧ xIn (.initialized RX7) := ⟨⟨List.mem_of_getElem? (i := 1348) (by decide +kernel), rfl⟩, ⟨List.mem_of_getElem? (i := 94) (by decide +kernel), rfl⟩⟩
theorem imX7_equivalenceSet : xIn (.instanceMethod yX7_equivalenceSet) := ⟨List.mem_of_getElem? (i := 1346) (by decide +kernel), rfl⟩
theorem seX7_equivalenceSet : xIn (.selects RX7 yX7_equivalenceSet yX7_equivalenceSet) := ⟨List.mem_of_getElem? (i := 1347) (by decide +kernel), rfl⟩
theorem okX7_oneStepFrom : xIn (.code yX7_oneStepFrom cX7_oneStepFrom 7 (some .int)) ∧ xIn (.initialized RX7) := ⟨⟨List.mem_of_getElem? (i := 1365) (by decide +kernel), rfl⟩, ⟨List.mem_of_getElem? (i := 94) (by decide +kernel), rfl⟩⟩
theorem imX7_oneStepFrom : xIn (.instanceMethod yX7_oneStepFrom) := ⟨List.mem_of_getElem? (i := 1363) (by decide +kernel), rfl⟩
theorem seX7_oneStepFrom : xIn (.selects RX7 yX7_oneStepFrom yX7_oneStepFrom) := ⟨List.mem_of_getElem? (i := 1364) (by decide +kernel), rfl⟩
theorem okX7_stepsBetween : xIn (.code yX7_stepsBetween cX7_stepsBetween 6 (some .int)) ∧ xIn (.initialized RX7) := ⟨⟨List.mem_of_getElem? (i := 1360) (by decide +kernel), rfl⟩, ⟨List.mem_of_getElem? (i := 94) (by decide +kernel), rfl⟩⟩
theorem imX7_stepsBetween : xIn (.instanceMethod yX7_stepsBetween) := ⟨List.mem_of_getElem? (i := 1358) (by decide +kernel), rfl⟩
theorem seX7_stepsBetween : xIn (.selects RX7 yX7_stepsBetween yX7_stepsBetween) := ⟨List.mem_of_getElem? (i := 1359) (by decide +kernel), rfl⟩
theorem okX7_reachOf : xIn (.code yX7_reachOf cX7_reachOf 5 (some .int)) ∧ xIn (.initialized RX7) := ⟨⟨List.mem_of_getElem? (i := 1376) (by decide +kernel), rfl⟩, ⟨List.mem_of_getElem? (i := 94) (by decide +kernel), rfl⟩⟩
theorem imX7_reachOf : xIn (.instanceMethod yX7_reachOf) := ⟨List.mem_of_getElem? (i := 1374) (by decide +kernel), rfl⟩
theorem seX7_reachOf : xIn (.selects RX7 yX7_reachOf yX7_reachOf) := ⟨List.mem_of_getElem? (i := 1375) (by decide +kernel), rfl⟩
theorem okX7_giveState : xIn (.code yX7_giveState cX7_giveState 4 none) ∧ xIn (.initialized RX7) := ⟨⟨List.mem_of_getElem? (i := 1435) (by decide +kernel), rfl⟩, ⟨List.mem_of_getElem? (i := 94) (by decide +kernel), rfl⟩⟩
theorem imX7_giveState : xIn (.instanceMethod yX7_giveState) := ⟨List.mem_of_getElem? (i := 1433) (by decide +kernel), rfl⟩
theorem seX7_giveState : xIn (.selects RX7 yX7_giveState yX7_giveState) := ⟨List.mem_of_getElem? (i := 1434) (by decide +kernel), rfl⟩
theorem okX7_takeState : xIn (.code yX7_takeState cX7_takeState 4 none) ∧ xIn (.initialized RX7) := ⟨⟨List.mem_of_getElem? (i := 1510) (by decide +kernel), rfl⟩, ⟨List.mem_of_getElem? (i := 94) (by decide +kernel), rfl⟩⟩
theorem imX7_takeState : xIn (.instanceMethod yX7_takeState) := ⟨List.mem_of_getElem? (i := 1508) (by decide +kernel), rfl⟩
theorem seX7_takeState : xIn (.selects RX7 yX7_takeState yX7_takeState) := ⟨List.mem_of_getElem? (i := 1509) (by decide +kernel), rfl⟩
theorem okX8_init : xIn (.code yX8_init cX8_init 1 none) ∧ xIn (.initialized RX8) := ⟨⟨List.mem_of_getElem? (i := 121) (by decide +kernel), rfl⟩, ⟨List.mem_of_getElem? (i := 93) (by decide +kernel), rfl⟩⟩
theorem imX8_init : xIn (.instanceMethod yX8_init) := ⟨List.mem_of_getElem? (i := 120) (by decide +kernel), rfl⟩
theorem okX8_append : xIn (.code yX8_append cX8_append 6 (some .int)) ∧ xIn (.initialized RX8) := ⟨⟨List.mem_of_getElem? (i := 372) (by decide +kernel), rfl⟩, ⟨List.mem_of_getElem? (i := 93) (by decide +kernel), rfl⟩⟩
theorem imX8_append : xIn (.instanceMethod yX8_append) := ⟨List.mem_of_getElem? (i := 370) (by decide +kernel), rfl⟩
theorem seX8_append : xIn (.selects RX8 yX8_append yX8_append) := ⟨List.mem_of_getElem? (i := 371) (by decide +kernel), rfl⟩
theorem okX8_load : xIn (.code yX8_load cX8_load 5 (some .int)) ∧ xIn (.initialized RX8) := ⟨⟨List.mem_of_getElem? (i := 401) (by decide +kernel), rfl⟩, ⟨List.mem_of_getElem? (i := 93) (by decide +kernel), rfl⟩⟩
theorem imX8_load : xIn (.instanceMethod yX8_load) := ⟨List.mem_of_getElem? (i := 399) (by decide +kernel), rfl⟩
theorem seX8_load : xIn (.selects RX8 yX8_load yX8_load) := ⟨List.mem_of_getElem? (i := 400) (by decide +kernel), rfl⟩
theorem okX8_parseError : xIn (.code yX8_parseError cX8_parseError 1 (some .int)) ∧ xIn (.initialized RX8) := ⟨⟨List.mem_of_getElem? (i := 380) (by decide +kernel), rfl⟩, ⟨List.mem_of_getElem? (i := 93) (by decide +kernel), rfl⟩⟩
theorem imX8_parseError : xIn (.instanceMethod yX8_parseError) := ⟨List.mem_of_getElem? (i := 378) (by decide +kernel), rfl⟩
theorem seX8_parseError : xIn (.selects RX8 yX8_parseError yX8_parseError) := ⟨List.mem_of_getElem? (i := 379) (by decide +kernel), rfl⟩
theorem okX8_errorPosition : xIn (.code yX8_errorPosition cX8_errorPosition 1 (some .int)) ∧ xIn (.initialized RX8) := ⟨⟨List.mem_of_getElem? (i := 384) (by decide +kernel), rfl⟩, ⟨List.mem_of_getElem? (i := 93) (by decide +kernel), rfl⟩⟩
theorem imX8_errorPosition : xIn (.instanceMethod yX8_errorPosition) := ⟨List.mem_of_getElem? (i := 382) (by decide +kernel), rfl⟩
theorem seX8_errorPosition : xIn (.selects RX8 yX8_errorPosition yX8_errorPosition) := ⟨List.mem_of_getElem? (i := 383) (by decide +kernel), rfl⟩
theorem okX8_buffered : xIn (.code yX8_buffered cX8_buffered 1 (some .int)) ∧ xIn (.initialized RX8) := ⟨⟨List.mem_of_getElem? (i := 388) (by decide +kernel), rfl⟩, ⟨List.mem_of_getElem? (i := 93) (by decide +kernel), rfl⟩⟩
theorem imX8_buffered : xIn (.instanceMethod yX8_buffered) := ⟨List.mem_of_getElem? (i := 386) (by decide +kernel), rfl⟩
theorem seX8_buffered : xIn (.selects RX8 yX8_buffered yX8_buffered) := ⟨List.mem_of_getElem? (i := 387) (by decide +kernel), rfl⟩
theorem okX8_count : xIn (.code yX8_count cX8_count 2 (some .int)) ∧ xIn (.initialized RX8) := ⟨⟨List.mem_of_getElem? (i := 828) (by decide +kernel), rfl⟩, ⟨List.mem_of_getElem? (i := 93) (by decide +kernel), rfl⟩⟩
theorem imX8_count : xIn (.instanceMethod yX8_count) := ⟨List.mem_of_getElem? (i := 826) (by decide +kernel), rfl⟩
theorem seX8_count : xIn (.selects RX8 yX8_count yX8_count) := ⟨List.mem_of_getElem? (i := 827) (by decide +kernel), rfl⟩
theorem okX8_letter : xIn (.code yX8_letter cX8_letter 5 (some .int)) ∧ xIn (.initialized RX8) := ⟨⟨List.mem_of_getElem? (i := 859) (by decide +kernel), rfl⟩, ⟨List.mem_of_getElem? (i := 93) (by decide +kernel), rfl⟩⟩
theorem imX8_letter : xIn (.instanceMethod yX8_letter) := ⟨List.mem_of_getElem? (i := 857) (by decide +kernel), rfl⟩
theorem seX8_letter : xIn (.selects RX8 yX8_letter yX8_letter) := ⟨List.mem_of_getElem? (i := 858) (by decide +kernel), rfl⟩
theorem okX8_size : xIn (.code yX8_size cX8_size 2 (some .int)) ∧ xIn (.initialized RX8) := ⟨⟨List.mem_of_getElem? (i := 882) (by decide +kernel), rfl⟩, ⟨List.mem_of_getElem? (i := 93) (by decide +kernel), rfl⟩⟩
theorem imX8_size : xIn (.instanceMethod yX8_size) := ⟨List.mem_of_getElem? (i := 880) (by decide +kernel), rfl⟩
theorem seX8_size : xIn (.selects RX8 yX8_size yX8_size) := ⟨List.mem_of_getElem? (i := 881) (by decide +kernel), rfl⟩
theorem okX8_times : xIn (.code yX8_times cX8_times 5 (some .int)) ∧ xIn (.initialized RX8) := ⟨⟨List.mem_of_getElem? (i := 893) (by decide +kernel), rfl⟩, ⟨List.mem_of_getElem? (i := 93) (by decide +kernel), rfl⟩⟩
theorem imX8_times : xIn (.instanceMethod yX8_times) := ⟨List.mem_of_getElem? (i := 891) (by decide +kernel), rfl⟩
theorem seX8_times : xIn (.selects RX8 yX8_times yX8_times) := ⟨List.mem_of_getElem? (i := 892) (by decide +kernel), rfl⟩
theorem okX8_inverse : xIn (.code yX8_inverse cX8_inverse 4 (some .int)) ∧ xIn (.initialized RX8) := ⟨⟨List.mem_of_getElem? (i := 905) (by decide +kernel), rfl⟩, ⟨List.mem_of_getElem? (i := 93) (by decide +kernel), rfl⟩⟩
theorem imX8_inverse : xIn (.instanceMethod yX8_inverse) := ⟨List.mem_of_getElem? (i := 903) (by decide +kernel), rfl⟩
theorem seX8_inverse : xIn (.selects RX8 yX8_inverse yX8_inverse) := ⟨List.mem_of_getElem? (i := 904) (by decide +kernel), rfl⟩
theorem okX8_orderOf : xIn (.code yX8_orderOf cX8_orderOf 4 (some .int)) ∧ xIn (.initialized RX8) := ⟨⟨List.mem_of_getElem? (i := 913) (by decide +kernel), rfl⟩, ⟨List.mem_of_getElem? (i := 93) (by decide +kernel), rfl⟩⟩
theorem imX8_orderOf : xIn (.instanceMethod yX8_orderOf) := ⟨List.mem_of_getElem? (i := 911) (by decide +kernel), rfl⟩
theorem seX8_orderOf : xIn (.selects RX8 yX8_orderOf yX8_orderOf) := ⟨List.mem_of_getElem? (i := 912) (by decide +kernel), rfl⟩
theorem okX8_centre : xIn (.code yX8_centre cX8_centre 2 (some .int)) ∧ xIn (.initialized RX8) := ⟨⟨List.mem_of_getElem? (i := 924) (by decide +kernel), rfl⟩, ⟨List.mem_of_getElem? (i := 93) (by decide +kernel), rfl⟩⟩
theorem imX8_centre : xIn (.instanceMethod yX8_centre) := ⟨List.mem_of_getElem? (i := 922) (by decide +kernel), rfl⟩
theorem seX8_centre : xIn (.selects RX8 yX8_centre yX8_centre) := ⟨List.mem_of_getElem? (i := 923) (by decide +kernel), rfl⟩
theorem okX8_conjugacy : xIn (.code yX8_conjugacy cX8_conjugacy 2 (some .int)) ∧ xIn (.initialized RX8) := ⟨⟨List.mem_of_getElem? (i := 935) (by decide +kernel), rfl⟩, ⟨List.mem_of_getElem? (i := 93) (by decide +kernel), rfl⟩⟩
theorem imX8_conjugacy : xIn (.instanceMethod yX8_conjugacy) := ⟨List.mem_of_getElem? (i := 933) (by decide +kernel), rfl⟩
theorem seX8_conjugacy : xIn (.selects RX8 yX8_conjugacy yX8_conjugacy) := ⟨List.mem_of_getElem? (i := 934) (by decide +kernel), rfl⟩
theorem okX8_generated : xIn (.code yX8_generated cX8_generated 4 (some .int)) ∧ xIn (.initialized RX8) := ⟨⟨List.mem_of_getElem? (i := 952) (by decide +kernel), rfl⟩, ⟨List.mem_of_getElem? (i := 93) (by decide +kernel), rfl⟩⟩
theorem imX8_generated : xIn (.instanceMethod yX8_generated) := ⟨List.mem_of_getElem? (i := 950) (by decide +kernel), rfl⟩
theorem seX8_generated : xIn (.selects RX8 yX8_generated yX8_generated) := ⟨List.mem_of_getElem? (i := 951) (by decide +kernel), rfl⟩
theorem okX8_normal : xIn (.code yX8_normal cX8_normal 4 (some .int)) ∧ xIn (.initialized RX8) := ⟨⟨List.mem_of_getElem? (i := 971) (by decide +kernel), rfl⟩, ⟨List.mem_of_getElem? (i := 93) (by decide +kernel), rfl⟩⟩
theorem imX8_normal : xIn (.instanceMethod yX8_normal) := ⟨List.mem_of_getElem? (i := 969) (by decide +kernel), rfl⟩
theorem seX8_normal : xIn (.selects RX8 yX8_normal yX8_normal) := ⟨List.mem_of_getElem? (i := 970) (by decide +kernel), rfl⟩
theorem okX8_groupOf : xIn (.code yX8_groupOf cX8_groupOf 4 (some .int)) ∧ xIn (.initialized RX8) := ⟨⟨List.mem_of_getElem? (i := 983) (by decide +kernel), rfl⟩, ⟨List.mem_of_getElem? (i := 93) (by decide +kernel), rfl⟩⟩
theorem imX8_groupOf : xIn (.instanceMethod yX8_groupOf) := ⟨List.mem_of_getElem? (i := 981) (by decide +kernel), rfl⟩
theorem seX8_groupOf : xIn (.selects RX8 yX8_groupOf yX8_groupOf) := ⟨List.mem_of_getElem? (i := 982) (by decide +kernel), rfl⟩
theorem okX8_boundary : xIn (.code yX8_boundary cX8_boundary 4 (some .int)) ∧ xIn (.initialized RX8) := ⟨⟨List.mem_of_getElem? (i := 994) (by decide +kernel), rfl⟩, ⟨List.mem_of_getElem? (i := 93) (by decide +kernel), rfl⟩⟩
theorem imX8_boundary : xIn (.instanceMethod yX8_boundary) := ⟨List.mem_of_getElem? (i := 992) (by decide +kernel), rfl⟩
theorem seX8_boundary : xIn (.selects RX8 yX8_boundary yX8_boundary) := ⟨List.mem_of_getElem? (i := 993) (by decide +kernel), rfl⟩
theorem okX8_act : xIn (.code yX8_act cX8_act 5 (some .int)) ∧ xIn (.initialized RX8) := ⟨⟨List.mem_of_getElem? (i := 1002) (by decide +kernel), rfl⟩, ⟨List.mem_of_getElem? (i := 93) (by decide +kernel), rfl⟩⟩
theorem imX8_act : xIn (.instanceMethod yX8_act) := ⟨List.mem_of_getElem? (i := 1000) (by decide +kernel), rfl⟩
theorem seX8_act : xIn (.selects RX8 yX8_act yX8_act) := ⟨List.mem_of_getElem? (i := 1001) (by decide +kernel), rfl⟩
theorem okX8_why : xIn (.code yX8_why cX8_why 2 (some .int)) ∧ xIn (.initialized RX8) := ⟨⟨List.mem_of_getElem? (i := 1010) (by decide +kernel), rfl⟩, ⟨List.mem_of_getElem? (i := 93) (by decide +kernel), rfl⟩⟩
theorem imX8_why : xIn (.instanceMethod yX8_why) := ⟨List.mem_of_getElem? (i := 1008) (by decide +kernel), rfl⟩
theorem seX8_why : xIn (.selects RX8 yX8_why yX8_why) := ⟨List.mem_of_getElem? (i := 1009) (by decide +kernel), rfl⟩
theorem okX8_lawful : xIn (.code yX8_lawful cX8_lawful 1 (some .int)) ∧ xIn (.initialized RX8) := ⟨⟨List.mem_of_getElem? (i := 1017) (by decide +kernel), rfl⟩, ⟨List.mem_of_getElem? (i := 93) (by decide +kernel), rfl⟩⟩
theorem imX8_lawful : xIn (.instanceMethod yX8_lawful) := ⟨List.mem_of_getElem? (i := 1015) (by decide +kernel), rfl⟩
theorem seX8_lawful : xIn (.selects RX8 yX8_lawful yX8_lawful) := ⟨List.mem_of_getElem? (i := 1016) (by decide +kernel), rfl⟩
theorem okX8_kernel : xIn (.code yX8_kernel cX8_kernel 2 (some .int)) ∧ xIn (.initialized RX8) := ⟨⟨List.mem_of_getElem? (i := 1028) (by decide +kernel), rfl⟩, ⟨List.mem_of_getElem? (i := 93) (by decide +kernel), rfl⟩⟩
theorem imX8_kernel : xIn (.instanceMethod yX8_kernel) := ⟨List.mem_of_getElem? (i := 1026) (by decide +kernel), rfl⟩
theorem seX8_kernel : xIn (.selects RX8 yX8_kernel yX8_kernel) := ⟨List.mem_of_getElem? (i := 1027) (by decide +kernel), rfl⟩
theorem okX8_image : xIn (.code yX8_image cX8_image 2 (some .int)) ∧ xIn (.initialized RX8) := ⟨⟨List.mem_of_getElem? (i := 1039) (by decide +kernel), rfl⟩, ⟨List.mem_of_getElem? (i := 93) (by decide +kernel), rfl⟩⟩
theorem imX8_image : xIn (.instanceMethod yX8_image) := ⟨List.mem_of_getElem? (i := 1037) (by decide +kernel), rfl⟩
theorem seX8_image : xIn (.selects RX8 yX8_image yX8_image) := ⟨List.mem_of_getElem? (i := 1038) (by decide +kernel), rfl⟩
theorem okX8_isCentral : xIn (.code yX8_isCentral cX8_isCentral 3 (some .boolean)) ∧ xIn (.initialized RX8) := ⟨⟨List.mem_of_getElem? (i := 1050) (by decide +kernel), rfl⟩, ⟨List.mem_of_getElem? (i := 93) (by decide +kernel), rfl⟩⟩
theorem imX8_isCentral : xIn (.instanceMethod yX8_isCentral) := ⟨List.mem_of_getElem? (i := 1048) (by decide +kernel), rfl⟩
theorem seX8_isCentral : xIn (.selects RX8 yX8_isCentral yX8_isCentral) := ⟨List.mem_of_getElem? (i := 1049) (by decide +kernel), rfl⟩
theorem okX8_fixed : xIn (.code yX8_fixed cX8_fixed 4 (some .int)) ∧ xIn (.initialized RX8) := ⟨⟨List.mem_of_getElem? (i := 1057) (by decide +kernel), rfl⟩, ⟨List.mem_of_getElem? (i := 93) (by decide +kernel), rfl⟩⟩
theorem imX8_fixed : xIn (.instanceMethod yX8_fixed) := ⟨List.mem_of_getElem? (i := 1055) (by decide +kernel), rfl⟩
theorem seX8_fixed : xIn (.selects RX8 yX8_fixed yX8_fixed) := ⟨List.mem_of_getElem? (i := 1056) (by decide +kernel), rfl⟩
theorem okX8_orbit : xIn (.code yX8_orbit cX8_orbit 4 (some .int)) ∧ xIn (.initialized RX8) := ⟨⟨List.mem_of_getElem? (i := 1068) (by decide +kernel), rfl⟩, ⟨List.mem_of_getElem? (i := 93) (by decide +kernel), rfl⟩⟩
theorem imX8_orbit : xIn (.instanceMethod yX8_orbit) := ⟨List.mem_of_getElem? (i := 1066) (by decide +kernel), rfl⟩
theorem seX8_orbit : xIn (.selects RX8 yX8_orbit yX8_orbit) := ⟨List.mem_of_getElem? (i := 1067) (by decide +kernel), rfl⟩
theorem okX8_classes : xIn (.code yX8_classes cX8_classes 2 (some .int)) ∧ xIn (.initialized RX8) := ⟨⟨List.mem_of_getElem? (i := 1079) (by decide +kernel), rfl⟩, ⟨List.mem_of_getElem? (i := 93) (by decide +kernel), rfl⟩⟩
theorem imX8_classes : xIn (.instanceMethod yX8_classes) := ⟨List.mem_of_getElem? (i := 1077) (by decide +kernel), rfl⟩
theorem seX8_classes : xIn (.selects RX8 yX8_classes yX8_classes) := ⟨List.mem_of_getElem? (i := 1078) (by decide +kernel), rfl⟩
theorem okX8_classOf : xIn (.code yX8_classOf cX8_classOf 4 (some .int)) ∧ xIn (.initialized RX8) := ⟨⟨List.mem_of_getElem? (i := 1123) (by decide +kernel), rfl⟩, ⟨List.mem_of_getElem? (i := 93) (by decide +kernel), rfl⟩⟩
theorem imX8_classOf : xIn (.instanceMethod yX8_classOf) := ⟨List.mem_of_getElem? (i := 1121) (by decide +kernel), rfl⟩
theorem seX8_classOf : xIn (.selects RX8 yX8_classOf yX8_classOf) := ⟨List.mem_of_getElem? (i := 1122) (by decide +kernel), rfl⟩
theorem okX8_classTimes : xIn (.code yX8_classTimes cX8_classTimes 6 (some .int)) ∧ xIn (.initialized RX8) := ⟨⟨List.mem_of_getElem? (i := 1131) (by decide +kernel), rfl⟩, ⟨List.mem_of_getElem? (i := 93) (by decide +kernel), rfl⟩⟩
theorem imX8_classTimes : xIn (.instanceMethod yX8_classTimes) := ⟨List.mem_of_getElem? (i := 1129) (by decide +kernel), rfl⟩
theorem seX8_classTimes : xIn (.selects RX8 yX8_classTimes yX8_classTimes) := ⟨List.mem_of_getElem? (i := 1130) (by decide +kernel), rfl⟩
theorem okX8_classAct : xIn (.code yX8_classAct cX8_classAct 6 (some .int)) ∧ xIn (.initialized RX8) := ⟨⟨List.mem_of_getElem? (i := 1143) (by decide +kernel), rfl⟩, ⟨List.mem_of_getElem? (i := 93) (by decide +kernel), rfl⟩⟩
theorem imX8_classAct : xIn (.instanceMethod yX8_classAct) := ⟨List.mem_of_getElem? (i := 1141) (by decide +kernel), rfl⟩
theorem seX8_classAct : xIn (.selects RX8 yX8_classAct yX8_classAct) := ⟨List.mem_of_getElem? (i := 1142) (by decide +kernel), rfl⟩
theorem okX8_profile : xIn (.code yX8_profile cX8_profile 6 (some .int)) ∧ xIn (.initialized RX8) := ⟨⟨List.mem_of_getElem? (i := 1154) (by decide +kernel), rfl⟩, ⟨List.mem_of_getElem? (i := 93) (by decide +kernel), rfl⟩⟩
theorem imX8_profile : xIn (.instanceMethod yX8_profile) := ⟨List.mem_of_getElem? (i := 1152) (by decide +kernel), rfl⟩
theorem seX8_profile : xIn (.selects RX8 yX8_profile yX8_profile) := ⟨List.mem_of_getElem? (i := 1153) (by decide +kernel), rfl⟩
theorem okX8_areAlike : xIn (.code yX8_areAlike cX8_areAlike 5 (some .boolean)) ∧ xIn (.initialized RX8) := ⟨⟨List.mem_of_getElem? (i := 1162) (by decide +kernel), rfl⟩, ⟨List.mem_of_getElem? (i := 93) (by decide +kernel), rfl⟩⟩
theorem imX8_areAlike : xIn (.instanceMethod yX8_areAlike) := ⟨List.mem_of_getElem? (i := 1160) (by decide +kernel), rfl⟩
theorem seX8_areAlike : xIn (.selects RX8 yX8_areAlike yX8_areAlike) := ⟨List.mem_of_getElem? (i := 1161) (by decide +kernel), rfl⟩
theorem okX8_kinds : xIn (.code yX8_kinds cX8_kinds 4 (some .int)) ∧ xIn (.initialized RX8) := ⟨⟨List.mem_of_getElem? (i := 1173) (by decide +kernel), rfl⟩, ⟨List.mem_of_getElem? (i := 93) (by decide +kernel), rfl⟩⟩
theorem imX8_kinds : xIn (.instanceMethod yX8_kinds) := ⟨List.mem_of_getElem? (i := 1171) (by decide +kernel), rfl⟩
theorem seX8_kinds : xIn (.selects RX8 yX8_kinds yX8_kinds) := ⟨List.mem_of_getElem? (i := 1172) (by decide +kernel), rfl⟩
theorem okX8_firstAlike : xIn (.code yX8_firstAlike cX8_firstAlike 2 (some .int)) ∧ xIn (.initialized RX8) := ⟨⟨List.mem_of_getElem? (i := 1186) (by decide +kernel), rfl⟩, ⟨List.mem_of_getElem? (i := 93) (by decide +kernel), rfl⟩⟩
theorem imX8_firstAlike : xIn (.instanceMethod yX8_firstAlike) := ⟨List.mem_of_getElem? (i := 1184) (by decide +kernel), rfl⟩
theorem seX8_firstAlike : xIn (.selects RX8 yX8_firstAlike yX8_firstAlike) := ⟨List.mem_of_getElem? (i := 1185) (by decide +kernel), rfl⟩
theorem okX8_largeTimes : xIn (.code yX8_largeTimes cX8_largeTimes 5 (some .int)) ∧ xIn (.initialized RX8) := ⟨⟨List.mem_of_getElem? (i := 1193) (by decide +kernel), rfl⟩, ⟨List.mem_of_getElem? (i := 93) (by decide +kernel), rfl⟩⟩
theorem imX8_largeTimes : xIn (.instanceMethod yX8_largeTimes) := ⟨List.mem_of_getElem? (i := 1191) (by decide +kernel), rfl⟩
theorem seX8_largeTimes : xIn (.selects RX8 yX8_largeTimes yX8_largeTimes) := ⟨List.mem_of_getElem? (i := 1192) (by decide +kernel), rfl⟩
theorem okX8_target : xIn (.code yX8_target cX8_target 4 (some .int)) ∧ xIn (.initialized RX8) := ⟨⟨List.mem_of_getElem? (i := 1216) (by decide +kernel), rfl⟩, ⟨List.mem_of_getElem? (i := 93) (by decide +kernel), rfl⟩⟩
theorem imX8_target : xIn (.instanceMethod yX8_target) := ⟨List.mem_of_getElem? (i := 1214) (by decide +kernel), rfl⟩
theorem seX8_target : xIn (.selects RX8 yX8_target yX8_target) := ⟨List.mem_of_getElem? (i := 1215) (by decide +kernel), rfl⟩
theorem okX8_largeOrder : xIn (.code yX8_largeOrder cX8_largeOrder 4 (some .int)) ∧ xIn (.initialized RX8) := ⟨⟨List.mem_of_getElem? (i := 1229) (by decide +kernel), rfl⟩, ⟨List.mem_of_getElem? (i := 93) (by decide +kernel), rfl⟩⟩
theorem imX8_largeOrder : xIn (.instanceMethod yX8_largeOrder) := ⟨List.mem_of_getElem? (i := 1227) (by decide +kernel), rfl⟩
theorem seX8_largeOrder : xIn (.selects RX8 yX8_largeOrder yX8_largeOrder) := ⟨List.mem_of_getElem? (i := 1228) (by decide +kernel), rfl⟩
theorem okX8_between : xIn (.code yX8_between cX8_between 5 (some .int)) ∧ xIn (.initialized RX8) := ⟨⟨List.mem_of_getElem? (i := 1241) (by decide +kernel), rfl⟩, ⟨List.mem_of_getElem? (i := 93) (by decide +kernel), rfl⟩⟩
theorem imX8_between : xIn (.instanceMethod yX8_between) := ⟨List.mem_of_getElem? (i := 1239) (by decide +kernel), rfl⟩
theorem seX8_between : xIn (.selects RX8 yX8_between yX8_between) := ⟨List.mem_of_getElem? (i := 1240) (by decide +kernel), rfl⟩
theorem okX8_end : xIn (.code yX8_end cX8_end 4 (some .int)) ∧ xIn (.initialized RX8) := ⟨⟨List.mem_of_getElem? (i := 1253) (by decide +kernel), rfl⟩, ⟨List.mem_of_getElem? (i := 93) (by decide +kernel), rfl⟩⟩
theorem imX8_end : xIn (.instanceMethod yX8_end) := ⟨List.mem_of_getElem? (i := 1251) (by decide +kernel), rfl⟩
theorem seX8_end : xIn (.selects RX8 yX8_end yX8_end) := ⟨List.mem_of_getElem? (i := 1252) (by decide +kernel), rfl⟩
theorem okX8_top : xIn (.code yX8_top cX8_top 4 (some .int)) ∧ xIn (.initialized RX8) := ⟨⟨List.mem_of_getElem? (i := 1264) (by decide +kernel), rfl⟩, ⟨List.mem_of_getElem? (i := 93) (by decide +kernel), rfl⟩⟩
theorem imX8_top : xIn (.instanceMethod yX8_top) := ⟨List.mem_of_getElem? (i := 1262) (by decide +kernel), rfl⟩
theorem seX8_top : xIn (.selects RX8 yX8_top yX8_top) := ⟨List.mem_of_getElem? (i := 1263) (by decide +kernel), rfl⟩
theorem okX8_bottom : xIn (.code yX8_bottom cX8_bottom 4 (some .int)) ∧ xIn (.initialized RX8) := ⟨⟨List.mem_of_getElem? (i := 1276) (by decide +kernel), rfl⟩, ⟨List.mem_of_getElem? (i := 93) (by decide +kernel), rfl⟩⟩
theorem imX8_bottom : xIn (.instanceMethod yX8_bottom) := ⟨List.mem_of_getElem? (i := 1274) (by decide +kernel), rfl⟩
theorem seX8_bottom : xIn (.selects RX8 yX8_bottom yX8_bottom) := ⟨List.mem_of_getElem? (i := 1275) (by decide +kernel), rfl⟩
theorem okX8_arrowWhy : xIn (.code yX8_arrowWhy cX8_arrowWhy 2 (some .int)) ∧ xIn (.initialized RX8) := ⟨⟨List.mem_of_getElem? (i := 1287) (by decide +kernel), rfl⟩, ⟨List.mem_of_getElem? (i := 93) (by decide +kernel), rfl⟩⟩
theorem imX8_arrowWhy : xIn (.instanceMethod yX8_arrowWhy) := ⟨List.mem_of_getElem? (i := 1285) (by decide +kernel), rfl⟩
theorem seX8_arrowWhy : xIn (.selects RX8 yX8_arrowWhy yX8_arrowWhy) := ⟨List.mem_of_getElem? (i := 1286) (by decide +kernel), rfl⟩
theorem okX8_isEquivalence : xIn (.code yX8_isEquivalence cX8_isEquivalence 2 (some .boolean)) ∧ xIn (.initialized RX8) := ⟨⟨List.mem_of_getElem? (i := 1314) (by decide +kernel), rfl⟩, ⟨List.mem_of_getElem? (i := 93) (by decide +kernel), rfl⟩⟩
theorem imX8_isEquivalence : xIn (.instanceMethod yX8_isEquivalence) := ⟨List.mem_of_getElem? (i := 1312) (by decide +kernel), rfl⟩
theorem seX8_isEquivalence : xIn (.selects RX8 yX8_isEquivalence yX8_isEquivalence) := ⟨List.mem_of_getElem? (i := 1313) (by decide +kernel), rfl⟩
theorem okX8_equivalences : xIn (.code yX8_equivalences cX8_equivalences 1 (some .int)) ∧ xIn (.initialized RX8) := ⟨⟨List.mem_of_getElem? (i := 1344) (by decide +kernel), rfl⟩, ⟨List.mem_of_getElem? (i := 93) (by decide +kernel), rfl⟩⟩
theorem imX8_equivalences : xIn (.instanceMethod yX8_equivalences) := ⟨List.mem_of_getElem? (i := 1342) (by decide +kernel), rfl⟩
theorem seX8_equivalences : xIn (.selects RX8 yX8_equivalences yX8_equivalences) := ⟨List.mem_of_getElem? (i := 1343) (by decide +kernel), rfl⟩
theorem okX8_ladder : xIn (.code yX8_ladder cX8_ladder 5 (some .int)) ∧ xIn (.initialized RX8) := ⟨⟨List.mem_of_getElem? (i := 1356) (by decide +kernel), rfl⟩, ⟨List.mem_of_getElem? (i := 93) (by decide +kernel), rfl⟩⟩
theorem imX8_ladder : xIn (.instanceMethod yX8_ladder) := ⟨List.mem_of_getElem? (i := 1354) (by decide +kernel), rfl⟩
theorem seX8_ladder : xIn (.selects RX8 yX8_ladder yX8_ladder) := ⟨List.mem_of_getElem? (i := 1355) (by decide +kernel), rfl⟩
theorem okX8_joined : xIn (.code yX8_joined cX8_joined 3 (some .int)) ∧ xIn (.initialized RX8) := ⟨⟨List.mem_of_getElem? (i := 1372) (by decide +kernel), rfl⟩, ⟨List.mem_of_getElem? (i := 93) (by decide +kernel), rfl⟩⟩
theorem imX8_joined : xIn (.instanceMethod yX8_joined) := ⟨List.mem_of_getElem? (i := 1370) (by decide +kernel), rfl⟩
theorem seX8_joined : xIn (.selects RX8 yX8_joined yX8_joined) := ⟨List.mem_of_getElem? (i := 1371) (by decide +kernel), rfl⟩
theorem okX8_through : xIn (.code yX8_through cX8_through 6 (some .int)) ∧ xIn (.initialized RX8) := ⟨⟨List.mem_of_getElem? (i := 1383) (by decide +kernel), rfl⟩, ⟨List.mem_of_getElem? (i := 93) (by decide +kernel), rfl⟩⟩
theorem imX8_through : xIn (.instanceMethod yX8_through) := ⟨List.mem_of_getElem? (i := 1381) (by decide +kernel), rfl⟩
theorem seX8_through : xIn (.selects RX8 yX8_through yX8_through) := ⟨List.mem_of_getElem? (i := 1382) (by decide +kernel), rfl⟩
theorem okX8_account : xIn (.code yX8_account cX8_account 2 (some .int)) ∧ xIn (.initialized RX8) := ⟨⟨List.mem_of_getElem? (i := 1390) (by decide +kernel), rfl⟩, ⟨List.mem_of_getElem? (i := 93) (by decide +kernel), rfl⟩⟩
theorem imX8_account : xIn (.instanceMethod yX8_account) := ⟨List.mem_of_getElem? (i := 1388) (by decide +kernel), rfl⟩
theorem seX8_account : xIn (.selects RX8 yX8_account yX8_account) := ⟨List.mem_of_getElem? (i := 1389) (by decide +kernel), rfl⟩
theorem okX8_writeModule : xIn (.code yX8_writeModule cX8_writeModule 5 (some .int)) ∧ xIn (.initialized RX8) := ⟨⟨List.mem_of_getElem? (i := 1397) (by decide +kernel), rfl⟩, ⟨List.mem_of_getElem? (i := 93) (by decide +kernel), rfl⟩⟩
theorem imX8_writeModule : xIn (.instanceMethod yX8_writeModule) := ⟨List.mem_of_getElem? (i := 1395) (by decide +kernel), rfl⟩
theorem seX8_writeModule : xIn (.selects RX8 yX8_writeModule yX8_writeModule) := ⟨List.mem_of_getElem? (i := 1396) (by decide +kernel), rfl⟩
theorem okX8_writeTable : xIn (.code yX8_writeTable cX8_writeTable 5 (some .int)) ∧ xIn (.initialized RX8) := ⟨⟨List.mem_of_getElem? (i := 1408) (by decide +kernel), rfl⟩, ⟨List.mem_of_getElem? (i := 93) (by decide +kernel), rfl⟩⟩
theorem imX8_writeTable : xIn (.instanceMethod yX8_writeTable) := ⟨List.mem_of_getElem? (i := 1406) (by decide +kernel), rfl⟩
theorem seX8_writeTable : xIn (.selects RX8 yX8_writeTable yX8_writeTable) := ⟨List.mem_of_getElem? (i := 1407) (by decide +kernel), rfl⟩
theorem okX8_textByte : xIn (.code yX8_textByte cX8_textByte 2 (some .int)) ∧ xIn (.initialized RX8) := ⟨⟨List.mem_of_getElem? (i := 1415) (by decide +kernel), rfl⟩, ⟨List.mem_of_getElem? (i := 93) (by decide +kernel), rfl⟩⟩
theorem imX8_textByte : xIn (.instanceMethod yX8_textByte) := ⟨List.mem_of_getElem? (i := 1413) (by decide +kernel), rfl⟩
theorem seX8_textByte : xIn (.selects RX8 yX8_textByte yX8_textByte) := ⟨List.mem_of_getElem? (i := 1414) (by decide +kernel), rfl⟩
theorem okX8_setBoundary : xIn (.code yX8_setBoundary cX8_setBoundary 6 (some .int)) ∧ xIn (.initialized RX8) := ⟨⟨List.mem_of_getElem? (i := 1422) (by decide +kernel), rfl⟩, ⟨List.mem_of_getElem? (i := 93) (by decide +kernel), rfl⟩⟩
theorem imX8_setBoundary : xIn (.instanceMethod yX8_setBoundary) := ⟨List.mem_of_getElem? (i := 1420) (by decide +kernel), rfl⟩
theorem seX8_setBoundary : xIn (.selects RX8 yX8_setBoundary yX8_setBoundary) := ⟨List.mem_of_getElem? (i := 1421) (by decide +kernel), rfl⟩
theorem okX8_setAct : xIn (.code yX8_setAct cX8_setAct 7 (some .int)) ∧ xIn (.initialized RX8) := ⟨⟨List.mem_of_getElem? (i := 1457) (by decide +kernel), rfl⟩, ⟨List.mem_of_getElem? (i := 93) (by decide +kernel), rfl⟩⟩
theorem imX8_setAct : xIn (.instanceMethod yX8_setAct) := ⟨List.mem_of_getElem? (i := 1455) (by decide +kernel), rfl⟩
theorem seX8_setAct : xIn (.selects RX8 yX8_setAct yX8_setAct) := ⟨List.mem_of_getElem? (i := 1456) (by decide +kernel), rfl⟩
theorem okX8_rest : xIn (.code yX8_rest cX8_rest 4 (some .int)) ∧ xIn (.initialized RX8) := ⟨⟨List.mem_of_getElem? (i := 1464) (by decide +kernel), rfl⟩, ⟨List.mem_of_getElem? (i := 93) (by decide +kernel), rfl⟩⟩
theorem imX8_rest : xIn (.instanceMethod yX8_rest) := ⟨List.mem_of_getElem? (i := 1462) (by decide +kernel), rfl⟩
theorem seX8_rest : xIn (.selects RX8 yX8_rest yX8_rest) := ⟨List.mem_of_getElem? (i := 1463) (by decide +kernel), rfl⟩
theorem okX8_conjugate : xIn (.code yX8_conjugate cX8_conjugate 4 (some .int)) ∧ xIn (.initialized RX8) := ⟨⟨List.mem_of_getElem? (i := 1480) (by decide +kernel), rfl⟩, ⟨List.mem_of_getElem? (i := 93) (by decide +kernel), rfl⟩⟩
theorem imX8_conjugate : xIn (.instanceMethod yX8_conjugate) := ⟨List.mem_of_getElem? (i := 1478) (by decide +kernel), rfl⟩
theorem seX8_conjugate : xIn (.selects RX8 yX8_conjugate yX8_conjugate) := ⟨List.mem_of_getElem? (i := 1479) (by decide +kernel), rfl⟩
theorem okX8_setTop : xIn (.code yX8_setTop cX8_setTop 6 (some .int)) ∧ xIn (.initialized RX8) := ⟨⟨List.mem_of_getElem? (i := 1491) (by decide +kernel), rfl⟩, ⟨List.mem_of_getElem? (i := 93) (by decide +kernel), rfl⟩⟩
theorem imX8_setTop : xIn (.instanceMethod yX8_setTop) := ⟨List.mem_of_getElem? (i := 1489) (by decide +kernel), rfl⟩
theorem seX8_setTop : xIn (.selects RX8 yX8_setTop yX8_setTop) := ⟨List.mem_of_getElem? (i := 1490) (by decide +kernel), rfl⟩
theorem okX8_setBottom : xIn (.code yX8_setBottom cX8_setBottom 6 (some .int)) ∧ xIn (.initialized RX8) := ⟨⟨List.mem_of_getElem? (i := 1498) (by decide +kernel), rfl⟩, ⟨List.mem_of_getElem? (i := 93) (by decide +kernel), rfl⟩⟩
theorem imX8_setBottom : xIn (.instanceMethod yX8_setBottom) := ⟨List.mem_of_getElem? (i := 1496) (by decide +kernel), rfl⟩
theorem seX8_setBottom : xIn (.selects RX8 yX8_setBottom yX8_setBottom) := ⟨List.mem_of_getElem? (i := 1497) (by decide +kernel), rfl⟩
theorem okX8_undo : xIn (.code yX8_undo cX8_undo 1 (some .int)) ∧ xIn (.initialized RX8) := ⟨⟨List.mem_of_getElem? (i := 1505) (by decide +kernel), rfl⟩, ⟨List.mem_of_getElem? (i := 93) (by decide +kernel), rfl⟩⟩
theorem imX8_undo : xIn (.instanceMethod yX8_undo) := ⟨List.mem_of_getElem? (i := 1503) (by decide +kernel), rfl⟩
theorem seX8_undo : xIn (.selects RX8 yX8_undo yX8_undo) := ⟨List.mem_of_getElem? (i := 1504) (by decide +kernel), rfl⟩
theorem okX8_undoable : xIn (.code yX8_undoable cX8_undoable 1 (some .int)) ∧ xIn (.initialized RX8) := ⟨⟨List.mem_of_getElem? (i := 392) (by decide +kernel), rfl⟩, ⟨List.mem_of_getElem? (i := 93) (by decide +kernel), rfl⟩⟩
theorem imX8_undoable : xIn (.instanceMethod yX8_undoable) := ⟨List.mem_of_getElem? (i := 390) (by decide +kernel), rfl⟩
theorem seX8_undoable : xIn (.selects RX8 yX8_undoable yX8_undoable) := ⟨List.mem_of_getElem? (i := 391) (by decide +kernel), rfl⟩
theorem okX8_save : xIn (.code yX8_save cX8_save 2 (some .int)) ∧ xIn (.initialized RX8) := ⟨⟨List.mem_of_getElem? (i := 1517) (by decide +kernel), rfl⟩, ⟨List.mem_of_getElem? (i := 93) (by decide +kernel), rfl⟩⟩
theorem imX8_save : xIn (.instanceMethod yX8_save) := ⟨List.mem_of_getElem? (i := 1515) (by decide +kernel), rfl⟩
theorem seX8_save : xIn (.selects RX8 yX8_save yX8_save) := ⟨List.mem_of_getElem? (i := 1516) (by decide +kernel), rfl⟩
theorem okX8_restore : xIn (.code yX8_restore cX8_restore 2 (some .int)) ∧ xIn (.initialized RX8) := ⟨⟨List.mem_of_getElem? (i := 1525) (by decide +kernel), rfl⟩, ⟨List.mem_of_getElem? (i := 93) (by decide +kernel), rfl⟩⟩
theorem imX8_restore : xIn (.instanceMethod yX8_restore) := ⟨List.mem_of_getElem? (i := 1523) (by decide +kernel), rfl⟩
theorem seX8_restore : xIn (.selects RX8 yX8_restore yX8_restore) := ⟨List.mem_of_getElem? (i := 1524) (by decide +kernel), rfl⟩
theorem okX8_demandText : xIn (.code yX8_demandText cX8_demandText 1 none) ∧ xIn (.initialized RX8) := ⟨⟨List.mem_of_getElem? (i := 832) (by decide +kernel), rfl⟩, ⟨List.mem_of_getElem? (i := 93) (by decide +kernel), rfl⟩⟩
theorem imX8_demandText : xIn (.instanceMethod yX8_demandText) := ⟨List.mem_of_getElem? (i := 831) (by decide +kernel), rfl⟩
theorem seX8_demandText : xIn (.selects RX8 yX8_demandText yX8_demandText) := ⟨List.mem_of_getElem? (i := 3) (by decide +kernel), rfl⟩
theorem okX8_demandThere : xIn (.code yX8_demandThere cX8_demandThere 1 none) ∧ xIn (.initialized RX8) := ⟨⟨List.mem_of_getElem? (i := 404) (by decide +kernel), rfl⟩, ⟨List.mem_of_getElem? (i := 93) (by decide +kernel), rfl⟩⟩
theorem stX8_demandThere : xIn (.static yX8_demandThere) := ⟨List.mem_of_getElem? (i := 403) (by decide +kernel), rfl⟩
theorem okX8_demandFit : xIn (.code yX8_demandFit cX8_demandFit 1 none) ∧ xIn (.initialized RX8) := ⟨⟨List.mem_of_getElem? (i := 745) (by decide +kernel), rfl⟩, ⟨List.mem_of_getElem? (i := 93) (by decide +kernel), rfl⟩⟩
theorem stX8_demandFit : xIn (.static yX8_demandFit) := ⟨List.mem_of_getElem? (i := 744) (by decide +kernel), rfl⟩
theorem okX8_groupAt : xIn (.code yX8_groupAt cX8_groupAt 2 (some (.object "CrossedModules$Group"))) ∧ xIn (.initialized RX8) := ⟨⟨List.mem_of_getElem? (i := 886) (by decide +kernel), rfl⟩, ⟨List.mem_of_getElem? (i := 93) (by decide +kernel), rfl⟩⟩
theorem imX8_groupAt : xIn (.instanceMethod yX8_groupAt) := ⟨List.mem_of_getElem? (i := 885) (by decide +kernel), rfl⟩
theorem seX8_groupAt : xIn (.selects RX8 yX8_groupAt yX8_groupAt) := ⟨List.mem_of_getElem? (i := 4) (by decide +kernel), rfl⟩
theorem okX8_moduleAt : xIn (.code yX8_moduleAt cX8_moduleAt 2 (some (.object "CrossedModules$Crossed"))) ∧ xIn (.initialized RX8) := ⟨⟨List.mem_of_getElem? (i := 987) (by decide +kernel), rfl⟩, ⟨List.mem_of_getElem? (i := 93) (by decide +kernel), rfl⟩⟩
theorem imX8_moduleAt : xIn (.instanceMethod yX8_moduleAt) := ⟨List.mem_of_getElem? (i := 986) (by decide +kernel), rfl⟩
theorem seX8_moduleAt : xIn (.selects RX8 yX8_moduleAt yX8_moduleAt) := ⟨List.mem_of_getElem? (i := 5) (by decide +kernel), rfl⟩
theorem okX8_lawfulModuleAt : xIn (.code yX8_lawfulModuleAt cX8_lawfulModuleAt 3 (some (.object "CrossedModules$Crossed"))) ∧ xIn (.initialized RX8) := ⟨⟨List.mem_of_getElem? (i := 1083) (by decide +kernel), rfl⟩, ⟨List.mem_of_getElem? (i := 93) (by decide +kernel), rfl⟩⟩
theorem imX8_lawfulModuleAt : xIn (.instanceMethod yX8_lawfulModuleAt) := ⟨List.mem_of_getElem? (i := 1082) (by decide +kernel), rfl⟩
theorem seX8_lawfulModuleAt : xIn (.selects RX8 yX8_lawfulModuleAt yX8_lawfulModuleAt) := ⟨List.mem_of_getElem? (i := 6) (by decide +kernel), rfl⟩
theorem okX8_arrowAt : xIn (.code yX8_arrowAt cX8_arrowAt 2 (some (.object "CrossedModules$Arrow"))) ∧ xIn (.initialized RX8) := ⟨⟨List.mem_of_getElem? (i := 1257) (by decide +kernel), rfl⟩, ⟨List.mem_of_getElem? (i := 93) (by decide +kernel), rfl⟩⟩
theorem imX8_arrowAt : xIn (.instanceMethod yX8_arrowAt) := ⟨List.mem_of_getElem? (i := 1256) (by decide +kernel), rfl⟩
theorem seX8_arrowAt : xIn (.selects RX8 yX8_arrowAt yX8_arrowAt) := ⟨List.mem_of_getElem? (i := 7) (by decide +kernel), rfl⟩
theorem okX8_appendWord : xIn (.code yX8_appendWord cX8_appendWord 3 none) ∧ xIn (.initialized RX8) := ⟨⟨List.mem_of_getElem? (i := 376) (by decide +kernel), rfl⟩, ⟨List.mem_of_getElem? (i := 93) (by decide +kernel), rfl⟩⟩
theorem imX8_appendWord : xIn (.instanceMethod yX8_appendWord) := ⟨List.mem_of_getElem? (i := 375) (by decide +kernel), rfl⟩
theorem seX8_appendWord : xIn (.selects RX8 yX8_appendWord yX8_appendWord) := ⟨List.mem_of_getElem? (i := 0) (by decide +kernel), rfl⟩
theorem okX8_write : xIn (.code yX8_write cX8_write 2 none) ∧ xIn (.initialized RX8) := ⟨⟨List.mem_of_getElem? (i := 1401) (by decide +kernel), rfl⟩, ⟨List.mem_of_getElem? (i := 93) (by decide +kernel), rfl⟩⟩
theorem imX8_write : xIn (.instanceMethod yX8_write) := ⟨List.mem_of_getElem? (i := 1400) (by decide +kernel), rfl⟩
theorem seX8_write : xIn (.selects RX8 yX8_write yX8_write) := ⟨List.mem_of_getElem? (i := 8) (by decide +kernel), rfl⟩
theorem okX8_beginChange : xIn (.code yX8_beginChange cX8_beginChange 1 none) ∧ xIn (.initialized RX8) := ⟨⟨List.mem_of_getElem? (i := 1426) (by decide +kernel), rfl⟩, ⟨List.mem_of_getElem? (i := 93) (by decide +kernel), rfl⟩⟩
theorem imX8_beginChange : xIn (.instanceMethod yX8_beginChange) := ⟨List.mem_of_getElem? (i := 1425) (by decide +kernel), rfl⟩
theorem seX8_beginChange : xIn (.selects RX8 yX8_beginChange yX8_beginChange) := ⟨List.mem_of_getElem? (i := 9) (by decide +kernel), rfl⟩
theorem okX8_undoPlace : xIn (.code yX8_undoPlace cX8_undoPlace 2 (some .int)) ∧ xIn (.initialized RX8) := ⟨⟨List.mem_of_getElem? (i := 1430) (by decide +kernel), rfl⟩, ⟨List.mem_of_getElem? (i := 93) (by decide +kernel), rfl⟩⟩
theorem imX8_undoPlace : xIn (.instanceMethod yX8_undoPlace) := ⟨List.mem_of_getElem? (i := 1429) (by decide +kernel), rfl⟩
theorem seX8_undoPlace : xIn (.selects RX8 yX8_undoPlace yX8_undoPlace) := ⟨List.mem_of_getElem? (i := 10) (by decide +kernel), rfl⟩
theorem okX8_forgetChanges : xIn (.code yX8_forgetChanges cX8_forgetChanges 1 none) ∧ xIn (.initialized RX8) := ⟨⟨List.mem_of_getElem? (i := 820) (by decide +kernel), rfl⟩, ⟨List.mem_of_getElem? (i := 93) (by decide +kernel), rfl⟩⟩
theorem imX8_forgetChanges : xIn (.instanceMethod yX8_forgetChanges) := ⟨List.mem_of_getElem? (i := 819) (by decide +kernel), rfl⟩
theorem seX8_forgetChanges : xIn (.selects RX8 yX8_forgetChanges yX8_forgetChanges) := ⟨List.mem_of_getElem? (i := 2) (by decide +kernel), rfl⟩
theorem okX8_at : xIn (.code yX8_at cX8_at 2 (some .int)) ∧ xIn (.initialized RX8) := ⟨⟨List.mem_of_getElem? (i := 786) (by decide +kernel), rfl⟩, ⟨List.mem_of_getElem? (i := 93) (by decide +kernel), rfl⟩⟩
theorem stX8_at : xIn (.static yX8_at) := ⟨List.mem_of_getElem? (i := 785) (by decide +kernel), rfl⟩
theorem okX8_put : xIn (.code yX8_put cX8_put 3 none) ∧ xIn (.initialized RX8) := ⟨⟨List.mem_of_getElem? (i := 644) (by decide +kernel), rfl⟩, ⟨List.mem_of_getElem? (i := 93) (by decide +kernel), rfl⟩⟩
theorem stX8_put : xIn (.static yX8_put) := ⟨List.mem_of_getElem? (i := 643) (by decide +kernel), rfl⟩
theorem okX8_isIn : xIn (.code yX8_isIn cX8_isIn 2 (some .boolean)) ∧ xIn (.initialized RX8) := ⟨⟨List.mem_of_getElem? (i := 737) (by decide +kernel), rfl⟩, ⟨List.mem_of_getElem? (i := 93) (by decide +kernel), rfl⟩⟩
theorem stX8_isIn : xIn (.static yX8_isIn) := ⟨List.mem_of_getElem? (i := 736) (by decide +kernel), rfl⟩
theorem okX8_isBetween : xIn (.code yX8_isBetween cX8_isBetween 3 (some .boolean)) ∧ xIn (.initialized RX8) := ⟨⟨List.mem_of_getElem? (i := 551) (by decide +kernel), rfl⟩, ⟨List.mem_of_getElem? (i := 93) (by decide +kernel), rfl⟩⟩
theorem stX8_isBetween : xIn (.static yX8_isBetween) := ⟨List.mem_of_getElem? (i := 550) (by decide +kernel), rfl⟩
theorem okX9_init : xIn (.code yX9_init cX9_init 1 none) ∧ xIn (.initialized RX9) := ⟨⟨List.mem_of_getElem? (i := 1532) (by decide +kernel), rfl⟩, ⟨List.mem_of_getElem? (i := 100) (by decide +kernel), rfl⟩⟩
theorem imX9_init : xIn (.instanceMethod yX9_init) := ⟨List.mem_of_getElem? (i := 1531) (by decide +kernel), rfl⟩
theorem okX9_thrown : xIn (.code yX9_thrown cX9_thrown 1 (some .int)) ∧ xIn (.initialized RX9) := ⟨⟨List.mem_of_getElem? (i := 1674) (by decide +kernel), rfl⟩, ⟨List.mem_of_getElem? (i := 100) (by decide +kernel), rfl⟩⟩
theorem imX9_thrown : xIn (.instanceMethod yX9_thrown) := ⟨List.mem_of_getElem? (i := 1672) (by decide +kernel), rfl⟩
theorem seX9_thrown : xIn (.selects RX9 yX9_thrown yX9_thrown) := ⟨List.mem_of_getElem? (i := 1673) (by decide +kernel), rfl⟩
theorem okX9_in : xIn (.code yX9_in cX9_in 3 (some .boolean)) ∧ xIn (.initialized RX9) := ⟨⟨List.mem_of_getElem? (i := 1697) (by decide +kernel), rfl⟩, ⟨List.mem_of_getElem? (i := 100) (by decide +kernel), rfl⟩⟩
theorem stX9_in : xIn (.static yX9_in) := ⟨List.mem_of_getElem? (i := 1696) (by decide +kernel), rfl⟩
theorem okX9_has : xIn (.code yX9_has cX9_has 2 (some .boolean)) ∧ xIn (.initialized RX9) := ⟨⟨List.mem_of_getElem? (i := 1810) (by decide +kernel), rfl⟩, ⟨List.mem_of_getElem? (i := 100) (by decide +kernel), rfl⟩⟩
theorem stX9_has : xIn (.static yX9_has) := ⟨List.mem_of_getElem? (i := 1809) (by decide +kernel), rfl⟩
theorem okX9_flag : xIn (.code yX9_flag cX9_flag 1 (some .int)) ∧ xIn (.initialized RX9) := ⟨⟨List.mem_of_getElem? (i := 1797) (by decide +kernel), rfl⟩, ⟨List.mem_of_getElem? (i := 100) (by decide +kernel), rfl⟩⟩
theorem stX9_flag : xIn (.static yX9_flag) := ⟨List.mem_of_getElem? (i := 1796) (by decide +kernel), rfl⟩
theorem okX9_ones : xIn (.code yX9_ones cX9_ones 3 (some .int)) ∧ xIn (.initialized RX9) := ⟨⟨List.mem_of_getElem? (i := 2165) (by decide +kernel), rfl⟩, ⟨List.mem_of_getElem? (i := 100) (by decide +kernel), rfl⟩⟩
theorem stX9_ones : xIn (.static yX9_ones) := ⟨List.mem_of_getElem? (i := 2164) (by decide +kernel), rfl⟩
theorem okX9_refuse : xIn (.code yX9_refuse cX9_refuse 3 (some .boolean)) ∧ xIn (.initialized RX9) := ⟨⟨List.mem_of_getElem? (i := 1701) (by decide +kernel), rfl⟩, ⟨List.mem_of_getElem? (i := 100) (by decide +kernel), rfl⟩⟩
theorem imX9_refuse : xIn (.instanceMethod yX9_refuse) := ⟨List.mem_of_getElem? (i := 1700) (by decide +kernel), rfl⟩
theorem seX9_refuse : xIn (.selects RX9 yX9_refuse yX9_refuse) := ⟨List.mem_of_getElem? (i := 11) (by decide +kernel), rfl⟩
theorem okX9_notLoaded : xIn (.code yX9_notLoaded cX9_notLoaded 1 (some .boolean)) ∧ xIn (.initialized RX9) := ⟨⟨List.mem_of_getElem? (i := 1826) (by decide +kernel), rfl⟩, ⟨List.mem_of_getElem? (i := 100) (by decide +kernel), rfl⟩⟩
theorem imX9_notLoaded : xIn (.instanceMethod yX9_notLoaded) := ⟨List.mem_of_getElem? (i := 1825) (by decide +kernel), rfl⟩
theorem seX9_notLoaded : xIn (.selects RX9 yX9_notLoaded yX9_notLoaded) := ⟨List.mem_of_getElem? (i := 34) (by decide +kernel), rfl⟩
theorem okX9_append : xIn (.code yX9_append cX9_append 8 (some .int)) ∧ xIn (.initialized RX9) := ⟨⟨List.mem_of_getElem? (i := 1678) (by decide +kernel), rfl⟩, ⟨List.mem_of_getElem? (i := 100) (by decide +kernel), rfl⟩⟩
theorem imX9_append : xIn (.instanceMethod yX9_append) := ⟨List.mem_of_getElem? (i := 1676) (by decide +kernel), rfl⟩
theorem seX9_append : xIn (.selects RX9 yX9_append yX9_append) := ⟨List.mem_of_getElem? (i := 1677) (by decide +kernel), rfl⟩
theorem okX9_buffered : xIn (.code yX9_buffered cX9_buffered 1 (some .int)) ∧ xIn (.initialized RX9) := ⟨⟨List.mem_of_getElem? (i := 1682) (by decide +kernel), rfl⟩, ⟨List.mem_of_getElem? (i := 100) (by decide +kernel), rfl⟩⟩
theorem imX9_buffered : xIn (.instanceMethod yX9_buffered) := ⟨List.mem_of_getElem? (i := 1680) (by decide +kernel), rfl⟩
theorem seX9_buffered : xIn (.selects RX9 yX9_buffered yX9_buffered) := ⟨List.mem_of_getElem? (i := 1681) (by decide +kernel), rfl⟩
theorem okX9_parseError : xIn (.code yX9_parseError cX9_parseError 1 (some .int)) ∧ xIn (.initialized RX9) := ⟨⟨List.mem_of_getElem? (i := 1686) (by decide +kernel), rfl⟩, ⟨List.mem_of_getElem? (i := 100) (by decide +kernel), rfl⟩⟩
theorem imX9_parseError : xIn (.instanceMethod yX9_parseError) := ⟨List.mem_of_getElem? (i := 1684) (by decide +kernel), rfl⟩
theorem seX9_parseError : xIn (.selects RX9 yX9_parseError yX9_parseError) := ⟨List.mem_of_getElem? (i := 1685) (by decide +kernel), rfl⟩
theorem okX9_errorPosition : xIn (.code yX9_errorPosition cX9_errorPosition 1 (some .int)) ∧ xIn (.initialized RX9) := ⟨⟨List.mem_of_getElem? (i := 1690) (by decide +kernel), rfl⟩, ⟨List.mem_of_getElem? (i := 100) (by decide +kernel), rfl⟩⟩
theorem imX9_errorPosition : xIn (.instanceMethod yX9_errorPosition) := ⟨List.mem_of_getElem? (i := 1688) (by decide +kernel), rfl⟩
theorem seX9_errorPosition : xIn (.selects RX9 yX9_errorPosition yX9_errorPosition) := ⟨List.mem_of_getElem? (i := 1689) (by decide +kernel), rfl⟩
theorem okX9_seen : xIn (.code yX9_seen cX9_seen 2 (some .int)) ∧ xIn (.initialized RX9) := ⟨⟨List.mem_of_getElem? (i := 1713) (by decide +kernel), rfl⟩, ⟨List.mem_of_getElem? (i := 100) (by decide +kernel), rfl⟩⟩
theorem imX9_seen : xIn (.instanceMethod yX9_seen) := ⟨List.mem_of_getElem? (i := 1712) (by decide +kernel), rfl⟩
theorem seX9_seen : xIn (.selects RX9 yX9_seen yX9_seen) := ⟨List.mem_of_getElem? (i := 14) (by decide +kernel), rfl⟩
theorem okX9_isLetter : xIn (.code yX9_isLetter cX9_isLetter 1 (some .boolean)) ∧ xIn (.initialized RX9) := ⟨⟨List.mem_of_getElem? (i := 1716) (by decide +kernel), rfl⟩, ⟨List.mem_of_getElem? (i := 100) (by decide +kernel), rfl⟩⟩
theorem stX9_isLetter : xIn (.static yX9_isLetter) := ⟨List.mem_of_getElem? (i := 1715) (by decide +kernel), rfl⟩
theorem okX9_isDigit : xIn (.code yX9_isDigit cX9_isDigit 1 (some .boolean)) ∧ xIn (.initialized RX9) := ⟨⟨List.mem_of_getElem? (i := 1719) (by decide +kernel), rfl⟩, ⟨List.mem_of_getElem? (i := 100) (by decide +kernel), rfl⟩⟩
theorem stX9_isDigit : xIn (.static yX9_isDigit) := ⟨List.mem_of_getElem? (i := 1718) (by decide +kernel), rfl⟩
theorem okX9_token : xIn (.code yX9_token cX9_token 2 none) ∧ xIn (.initialized RX9) := ⟨⟨List.mem_of_getElem? (i := 1709) (by decide +kernel), rfl⟩, ⟨List.mem_of_getElem? (i := 100) (by decide +kernel), rfl⟩⟩
theorem imX9_token : xIn (.instanceMethod yX9_token) := ⟨List.mem_of_getElem? (i := 1708) (by decide +kernel), rfl⟩
theorem seX9_token : xIn (.selects RX9 yX9_token yX9_token) := ⟨List.mem_of_getElem? (i := 13) (by decide +kernel), rfl⟩
theorem okX9_fails : xIn (.code yX9_fails cX9_fails 2 none) ∧ xIn (.initialized RX9) := ⟨⟨List.mem_of_getElem? (i := 1734) (by decide +kernel), rfl⟩, ⟨List.mem_of_getElem? (i := 100) (by decide +kernel), rfl⟩⟩
theorem imX9_fails : xIn (.instanceMethod yX9_fails) := ⟨List.mem_of_getElem? (i := 1733) (by decide +kernel), rfl⟩
theorem seX9_fails : xIn (.selects RX9 yX9_fails yX9_fails) := ⟨List.mem_of_getElem? (i := 17) (by decide +kernel), rfl⟩
theorem okX9_failsIf : xIn (.code yX9_failsIf cX9_failsIf 3 none) ∧ xIn (.initialized RX9) := ⟨⟨List.mem_of_getElem? (i := 1730) (by decide +kernel), rfl⟩, ⟨List.mem_of_getElem? (i := 100) (by decide +kernel), rfl⟩⟩
theorem imX9_failsIf : xIn (.instanceMethod yX9_failsIf) := ⟨List.mem_of_getElem? (i := 1729) (by decide +kernel), rfl⟩
theorem seX9_failsIf : xIn (.selects RX9 yX9_failsIf yX9_failsIf) := ⟨List.mem_of_getElem? (i := 16) (by decide +kernel), rfl⟩
theorem okX9_goesOn : xIn (.code yX9_goesOn cX9_goesOn 1 none) ∧ xIn (.initialized RX9) := ⟨⟨List.mem_of_getElem? (i := 1738) (by decide +kernel), rfl⟩, ⟨List.mem_of_getElem? (i := 100) (by decide +kernel), rfl⟩⟩
theorem imX9_goesOn : xIn (.instanceMethod yX9_goesOn) := ⟨List.mem_of_getElem? (i := 1737) (by decide +kernel), rfl⟩
theorem seX9_goesOn : xIn (.selects RX9 yX9_goesOn yX9_goesOn) := ⟨List.mem_of_getElem? (i := 18) (by decide +kernel), rfl⟩
theorem okX9_isWord : xIn (.code yX9_isWord cX9_isWord 3 (some .boolean)) ∧ xIn (.initialized RX9) := ⟨⟨List.mem_of_getElem? (i := 1724) (by decide +kernel), rfl⟩, ⟨List.mem_of_getElem? (i := 100) (by decide +kernel), rfl⟩⟩
theorem imX9_isWord : xIn (.instanceMethod yX9_isWord) := ⟨List.mem_of_getElem? (i := 1723) (by decide +kernel), rfl⟩
theorem seX9_isWord : xIn (.selects RX9 yX9_isWord yX9_isWord) := ⟨List.mem_of_getElem? (i := 15) (by decide +kernel), rfl⟩
theorem okX9_takes : xIn (.code yX9_takes cX9_takes 4 (some .int)) ∧ xIn (.initialized RX9) := ⟨⟨List.mem_of_getElem? (i := 1760) (by decide +kernel), rfl⟩, ⟨List.mem_of_getElem? (i := 100) (by decide +kernel), rfl⟩⟩
theorem imX9_takes : xIn (.instanceMethod yX9_takes) := ⟨List.mem_of_getElem? (i := 1759) (by decide +kernel), rfl⟩
theorem seX9_takes : xIn (.selects RX9 yX9_takes yX9_takes) := ⟨List.mem_of_getElem? (i := 23) (by decide +kernel), rfl⟩
theorem okX9_named : xIn (.code yX9_named cX9_named 6 (some .int)) ∧ xIn (.initialized RX9) := ⟨⟨List.mem_of_getElem? (i := 1755) (by decide +kernel), rfl⟩, ⟨List.mem_of_getElem? (i := 100) (by decide +kernel), rfl⟩⟩
theorem imX9_named : xIn (.instanceMethod yX9_named) := ⟨List.mem_of_getElem? (i := 1754) (by decide +kernel), rfl⟩
theorem seX9_named : xIn (.selects RX9 yX9_named yX9_named) := ⟨List.mem_of_getElem? (i := 22) (by decide +kernel), rfl⟩
theorem okX9_newName : xIn (.code yX9_newName cX9_newName 4 none) ∧ xIn (.initialized RX9) := ⟨⟨List.mem_of_getElem? (i := 1751) (by decide +kernel), rfl⟩, ⟨List.mem_of_getElem? (i := 100) (by decide +kernel), rfl⟩⟩
theorem imX9_newName : xIn (.instanceMethod yX9_newName) := ⟨List.mem_of_getElem? (i := 1750) (by decide +kernel), rfl⟩
theorem seX9_newName : xIn (.selects RX9 yX9_newName yX9_newName) := ⟨List.mem_of_getElem? (i := 21) (by decide +kernel), rfl⟩
theorem okX9_oldName : xIn (.code yX9_oldName cX9_oldName 4 (some .int)) ∧ xIn (.initialized RX9) := ⟨⟨List.mem_of_getElem? (i := 1790) (by decide +kernel), rfl⟩, ⟨List.mem_of_getElem? (i := 100) (by decide +kernel), rfl⟩⟩
theorem imX9_oldName : xIn (.instanceMethod yX9_oldName) := ⟨List.mem_of_getElem? (i := 1789) (by decide +kernel), rfl⟩
theorem seX9_oldName : xIn (.selects RX9 yX9_oldName yX9_oldName) := ⟨List.mem_of_getElem? (i := 29) (by decide +kernel), rfl⟩
theorem okX9_takesName : xIn (.code yX9_takesName cX9_takesName 4 (some .int)) ∧ xIn (.initialized RX9) := ⟨⟨List.mem_of_getElem? (i := 1786) (by decide +kernel), rfl⟩, ⟨List.mem_of_getElem? (i := 100) (by decide +kernel), rfl⟩⟩
theorem imX9_takesName : xIn (.instanceMethod yX9_takesName) := ⟨List.mem_of_getElem? (i := 1785) (by decide +kernel), rfl⟩
theorem seX9_takesName : xIn (.selects RX9 yX9_takesName yX9_takesName) := ⟨List.mem_of_getElem? (i := 28) (by decide +kernel), rfl⟩
theorem okX9_groupLine : xIn (.code yX9_groupLine cX9_groupLine 3 none) ∧ xIn (.initialized RX9) := ⟨⟨List.mem_of_getElem? (i := 1747) (by decide +kernel), rfl⟩, ⟨List.mem_of_getElem? (i := 100) (by decide +kernel), rfl⟩⟩
theorem imX9_groupLine : xIn (.instanceMethod yX9_groupLine) := ⟨List.mem_of_getElem? (i := 1746) (by decide +kernel), rfl⟩
theorem seX9_groupLine : xIn (.selects RX9 yX9_groupLine yX9_groupLine) := ⟨List.mem_of_getElem? (i := 20) (by decide +kernel), rfl⟩
theorem okX9_lays : xIn (.code yX9_lays cX9_lays 4 none) ∧ xIn (.initialized RX9) := ⟨⟨List.mem_of_getElem? (i := 1768) (by decide +kernel), rfl⟩, ⟨List.mem_of_getElem? (i := 100) (by decide +kernel), rfl⟩⟩
theorem imX9_lays : xIn (.instanceMethod yX9_lays) := ⟨List.mem_of_getElem? (i := 1767) (by decide +kernel), rfl⟩
theorem seX9_lays : xIn (.selects RX9 yX9_lays yX9_lays) := ⟨List.mem_of_getElem? (i := 25) (by decide +kernel), rfl⟩
theorem okX9_laysCyclic : xIn (.code yX9_laysCyclic cX9_laysCyclic 4 none) ∧ xIn (.initialized RX9) := ⟨⟨List.mem_of_getElem? (i := 1764) (by decide +kernel), rfl⟩, ⟨List.mem_of_getElem? (i := 100) (by decide +kernel), rfl⟩⟩
theorem imX9_laysCyclic : xIn (.instanceMethod yX9_laysCyclic) := ⟨List.mem_of_getElem? (i := 1763) (by decide +kernel), rfl⟩
theorem seX9_laysCyclic : xIn (.selects RX9 yX9_laysCyclic yX9_laysCyclic) := ⟨List.mem_of_getElem? (i := 24) (by decide +kernel), rfl⟩
theorem okX9_laysDihedral : xIn (.code yX9_laysDihedral cX9_laysDihedral 4 none) ∧ xIn (.initialized RX9) := ⟨⟨List.mem_of_getElem? (i := 1773) (by decide +kernel), rfl⟩, ⟨List.mem_of_getElem? (i := 100) (by decide +kernel), rfl⟩⟩
theorem imX9_laysDihedral : xIn (.instanceMethod yX9_laysDihedral) := ⟨List.mem_of_getElem? (i := 1772) (by decide +kernel), rfl⟩
theorem seX9_laysDihedral : xIn (.selects RX9 yX9_laysDihedral yX9_laysDihedral) := ⟨List.mem_of_getElem? (i := 26) (by decide +kernel), rfl⟩
theorem okX9_ofUnits : xIn (.code yX9_ofUnits cX9_ofUnits 3 (some .int)) ∧ xIn (.initialized RX9) := ⟨⟨List.mem_of_getElem? (i := 1781) (by decide +kernel), rfl⟩, ⟨List.mem_of_getElem? (i := 100) (by decide +kernel), rfl⟩⟩
theorem stX9_ofUnits : xIn (.static yX9_ofUnits) := ⟨List.mem_of_getElem? (i := 1780) (by decide +kernel), rfl⟩
theorem okX9_laysQuaternion : xIn (.code yX9_laysQuaternion cX9_laysQuaternion 3 none) ∧ xIn (.initialized RX9) := ⟨⟨List.mem_of_getElem? (i := 1778) (by decide +kernel), rfl⟩, ⟨List.mem_of_getElem? (i := 100) (by decide +kernel), rfl⟩⟩
theorem imX9_laysQuaternion : xIn (.instanceMethod yX9_laysQuaternion) := ⟨List.mem_of_getElem? (i := 1777) (by decide +kernel), rfl⟩
theorem seX9_laysQuaternion : xIn (.selects RX9 yX9_laysQuaternion yX9_laysQuaternion) := ⟨List.mem_of_getElem? (i := 27) (by decide +kernel), rfl⟩
theorem okX9_laysProduct : xIn (.code yX9_laysProduct cX9_laysProduct 6 none) ∧ xIn (.initialized RX9) := ⟨⟨List.mem_of_getElem? (i := 1794) (by decide +kernel), rfl⟩, ⟨List.mem_of_getElem? (i := 100) (by decide +kernel), rfl⟩⟩
theorem imX9_laysProduct : xIn (.instanceMethod yX9_laysProduct) := ⟨List.mem_of_getElem? (i := 1793) (by decide +kernel), rfl⟩
theorem seX9_laysProduct : xIn (.selects RX9 yX9_laysProduct yX9_laysProduct) := ⟨List.mem_of_getElem? (i := 30) (by decide +kernel), rfl⟩
theorem okX9_moduleLine : xIn (.code yX9_moduleLine cX9_moduleLine 5 none) ∧ xIn (.initialized RX9) := ⟨⟨List.mem_of_getElem? (i := 1802) (by decide +kernel), rfl⟩, ⟨List.mem_of_getElem? (i := 100) (by decide +kernel), rfl⟩⟩
theorem imX9_moduleLine : xIn (.instanceMethod yX9_moduleLine) := ⟨List.mem_of_getElem? (i := 1801) (by decide +kernel), rfl⟩
theorem seX9_moduleLine : xIn (.selects RX9 yX9_moduleLine yX9_moduleLine) := ⟨List.mem_of_getElem? (i := 31) (by decide +kernel), rfl⟩
theorem okX9_actLine : xIn (.code yX9_actLine cX9_actLine 5 none) ∧ xIn (.initialized RX9) := ⟨⟨List.mem_of_getElem? (i := 1807) (by decide +kernel), rfl⟩, ⟨List.mem_of_getElem? (i := 100) (by decide +kernel), rfl⟩⟩
theorem imX9_actLine : xIn (.instanceMethod yX9_actLine) := ⟨List.mem_of_getElem? (i := 1806) (by decide +kernel), rfl⟩
theorem seX9_actLine : xIn (.selects RX9 yX9_actLine yX9_actLine) := ⟨List.mem_of_getElem? (i := 32) (by decide +kernel), rfl⟩
theorem okX9_arrowLine : xIn (.code yX9_arrowLine cX9_arrowLine 5 none) ∧ xIn (.initialized RX9) := ⟨⟨List.mem_of_getElem? (i := 1815) (by decide +kernel), rfl⟩, ⟨List.mem_of_getElem? (i := 100) (by decide +kernel), rfl⟩⟩
theorem imX9_arrowLine : xIn (.instanceMethod yX9_arrowLine) := ⟨List.mem_of_getElem? (i := 1814) (by decide +kernel), rfl⟩
theorem seX9_arrowLine : xIn (.selects RX9 yX9_arrowLine yX9_arrowLine) := ⟨List.mem_of_getElem? (i := 33) (by decide +kernel), rfl⟩
theorem okX9_line : xIn (.code yX9_line cX9_line 1 none) ∧ xIn (.initialized RX9) := ⟨⟨List.mem_of_getElem? (i := 1742) (by decide +kernel), rfl⟩, ⟨List.mem_of_getElem? (i := 100) (by decide +kernel), rfl⟩⟩
theorem imX9_line : xIn (.instanceMethod yX9_line) := ⟨List.mem_of_getElem? (i := 1741) (by decide +kernel), rfl⟩
theorem seX9_line : xIn (.selects RX9 yX9_line yX9_line) := ⟨List.mem_of_getElem? (i := 19) (by decide +kernel), rfl⟩
theorem okX9_reads : xIn (.code yX9_reads cX9_reads 3 none) ∧ xIn (.initialized RX9) := ⟨⟨List.mem_of_getElem? (i := 1705) (by decide +kernel), rfl⟩, ⟨List.mem_of_getElem? (i := 100) (by decide +kernel), rfl⟩⟩
theorem imX9_reads : xIn (.instanceMethod yX9_reads) := ⟨List.mem_of_getElem? (i := 1704) (by decide +kernel), rfl⟩
theorem seX9_reads : xIn (.selects RX9 yX9_reads yX9_reads) := ⟨List.mem_of_getElem? (i := 12) (by decide +kernel), rfl⟩
theorem okX9_copies : xIn (.code yX9_copies cX9_copies 3 none) ∧ xIn (.initialized RX9) := ⟨⟨List.mem_of_getElem? (i := 1818) (by decide +kernel), rfl⟩, ⟨List.mem_of_getElem? (i := 100) (by decide +kernel), rfl⟩⟩
theorem stX9_copies : xIn (.static yX9_copies) := ⟨List.mem_of_getElem? (i := 1817) (by decide +kernel), rfl⟩
theorem okX9_load : xIn (.code yX9_load cX9_load 2 (some .int)) ∧ xIn (.initialized RX9) := ⟨⟨List.mem_of_getElem? (i := 1694) (by decide +kernel), rfl⟩, ⟨List.mem_of_getElem? (i := 100) (by decide +kernel), rfl⟩⟩
theorem imX9_load : xIn (.instanceMethod yX9_load) := ⟨List.mem_of_getElem? (i := 1692) (by decide +kernel), rfl⟩
theorem seX9_load : xIn (.selects RX9 yX9_load yX9_load) := ⟨List.mem_of_getElem? (i := 1693) (by decide +kernel), rfl⟩
theorem okX9_count : xIn (.code yX9_count cX9_count 2 (some .int)) ∧ xIn (.initialized RX9) := ⟨⟨List.mem_of_getElem? (i := 1822) (by decide +kernel), rfl⟩, ⟨List.mem_of_getElem? (i := 100) (by decide +kernel), rfl⟩⟩
theorem imX9_count : xIn (.instanceMethod yX9_count) := ⟨List.mem_of_getElem? (i := 1820) (by decide +kernel), rfl⟩
theorem seX9_count : xIn (.selects RX9 yX9_count yX9_count) := ⟨List.mem_of_getElem? (i := 1821) (by decide +kernel), rfl⟩
theorem okX9_nameLong : xIn (.code yX9_nameLong cX9_nameLong 3 (some .int)) ∧ xIn (.initialized RX9) := ⟨⟨List.mem_of_getElem? (i := 1834) (by decide +kernel), rfl⟩, ⟨List.mem_of_getElem? (i := 100) (by decide +kernel), rfl⟩⟩
theorem imX9_nameLong : xIn (.instanceMethod yX9_nameLong) := ⟨List.mem_of_getElem? (i := 1833) (by decide +kernel), rfl⟩
theorem seX9_nameLong : xIn (.selects RX9 yX9_nameLong yX9_nameLong) := ⟨List.mem_of_getElem? (i := 35) (by decide +kernel), rfl⟩
theorem okX9_letter : xIn (.code yX9_letter cX9_letter 5 (some .int)) ∧ xIn (.initialized RX9) := ⟨⟨List.mem_of_getElem? (i := 1830) (by decide +kernel), rfl⟩, ⟨List.mem_of_getElem? (i := 100) (by decide +kernel), rfl⟩⟩
theorem imX9_letter : xIn (.instanceMethod yX9_letter) := ⟨List.mem_of_getElem? (i := 1828) (by decide +kernel), rfl⟩
theorem seX9_letter : xIn (.selects RX9 yX9_letter yX9_letter) := ⟨List.mem_of_getElem? (i := 1829) (by decide +kernel), rfl⟩
theorem okX9_noGroup : xIn (.code yX9_noGroup cX9_noGroup 2 (some .boolean)) ∧ xIn (.initialized RX9) := ⟨⟨List.mem_of_getElem? (i := 1842) (by decide +kernel), rfl⟩, ⟨List.mem_of_getElem? (i := 100) (by decide +kernel), rfl⟩⟩
theorem imX9_noGroup : xIn (.instanceMethod yX9_noGroup) := ⟨List.mem_of_getElem? (i := 1841) (by decide +kernel), rfl⟩
theorem seX9_noGroup : xIn (.selects RX9 yX9_noGroup yX9_noGroup) := ⟨List.mem_of_getElem? (i := 36) (by decide +kernel), rfl⟩
theorem okX9_noElement : xIn (.code yX9_noElement cX9_noElement 3 (some .boolean)) ∧ xIn (.initialized RX9) := ⟨⟨List.mem_of_getElem? (i := 1850) (by decide +kernel), rfl⟩, ⟨List.mem_of_getElem? (i := 100) (by decide +kernel), rfl⟩⟩
theorem imX9_noElement : xIn (.instanceMethod yX9_noElement) := ⟨List.mem_of_getElem? (i := 1849) (by decide +kernel), rfl⟩
theorem seX9_noElement : xIn (.selects RX9 yX9_noElement yX9_noElement) := ⟨List.mem_of_getElem? (i := 37) (by decide +kernel), rfl⟩
theorem okX9_size : xIn (.code yX9_size cX9_size 2 (some .int)) ∧ xIn (.initialized RX9) := ⟨⟨List.mem_of_getElem? (i := 1838) (by decide +kernel), rfl⟩, ⟨List.mem_of_getElem? (i := 100) (by decide +kernel), rfl⟩⟩
theorem imX9_size : xIn (.instanceMethod yX9_size) := ⟨List.mem_of_getElem? (i := 1836) (by decide +kernel), rfl⟩
theorem seX9_size : xIn (.selects RX9 yX9_size yX9_size) := ⟨List.mem_of_getElem? (i := 1837) (by decide +kernel), rfl⟩
theorem okX9_of : xIn (.code yX9_of cX9_of 4 (some .int)) ∧ xIn (.initialized RX9) := ⟨⟨List.mem_of_getElem? (i := 1854) (by decide +kernel), rfl⟩, ⟨List.mem_of_getElem? (i := 100) (by decide +kernel), rfl⟩⟩
theorem imX9_of : xIn (.instanceMethod yX9_of) := ⟨List.mem_of_getElem? (i := 1853) (by decide +kernel), rfl⟩
theorem seX9_of : xIn (.selects RX9 yX9_of yX9_of) := ⟨List.mem_of_getElem? (i := 38) (by decide +kernel), rfl⟩
theorem okX9_times : xIn (.code yX9_times cX9_times 4 (some .int)) ∧ xIn (.initialized RX9) := ⟨⟨List.mem_of_getElem? (i := 1846) (by decide +kernel), rfl⟩, ⟨List.mem_of_getElem? (i := 100) (by decide +kernel), rfl⟩⟩
theorem imX9_times : xIn (.instanceMethod yX9_times) := ⟨List.mem_of_getElem? (i := 1844) (by decide +kernel), rfl⟩
theorem seX9_times : xIn (.selects RX9 yX9_times yX9_times) := ⟨List.mem_of_getElem? (i := 1845) (by decide +kernel), rfl⟩
theorem okX9_inverseOf : xIn (.code yX9_inverseOf cX9_inverseOf 4 (some .int)) ∧ xIn (.initialized RX9) := ⟨⟨List.mem_of_getElem? (i := 1862) (by decide +kernel), rfl⟩, ⟨List.mem_of_getElem? (i := 100) (by decide +kernel), rfl⟩⟩
theorem imX9_inverseOf : xIn (.instanceMethod yX9_inverseOf) := ⟨List.mem_of_getElem? (i := 1861) (by decide +kernel), rfl⟩
theorem seX9_inverseOf : xIn (.selects RX9 yX9_inverseOf yX9_inverseOf) := ⟨List.mem_of_getElem? (i := 39) (by decide +kernel), rfl⟩
theorem okX9_inverse : xIn (.code yX9_inverse cX9_inverse 3 (some .int)) ∧ xIn (.initialized RX9) := ⟨⟨List.mem_of_getElem? (i := 1858) (by decide +kernel), rfl⟩, ⟨List.mem_of_getElem? (i := 100) (by decide +kernel), rfl⟩⟩
theorem imX9_inverse : xIn (.instanceMethod yX9_inverse) := ⟨List.mem_of_getElem? (i := 1856) (by decide +kernel), rfl⟩
theorem seX9_inverse : xIn (.selects RX9 yX9_inverse yX9_inverse) := ⟨List.mem_of_getElem? (i := 1857) (by decide +kernel), rfl⟩
theorem okX9_orderIn : xIn (.code yX9_orderIn cX9_orderIn 5 (some .int)) ∧ xIn (.initialized RX9) := ⟨⟨List.mem_of_getElem? (i := 1870) (by decide +kernel), rfl⟩, ⟨List.mem_of_getElem? (i := 100) (by decide +kernel), rfl⟩⟩
theorem imX9_orderIn : xIn (.instanceMethod yX9_orderIn) := ⟨List.mem_of_getElem? (i := 1869) (by decide +kernel), rfl⟩
theorem seX9_orderIn : xIn (.selects RX9 yX9_orderIn yX9_orderIn) := ⟨List.mem_of_getElem? (i := 40) (by decide +kernel), rfl⟩
theorem okX9_orderOf : xIn (.code yX9_orderOf cX9_orderOf 3 (some .int)) ∧ xIn (.initialized RX9) := ⟨⟨List.mem_of_getElem? (i := 1866) (by decide +kernel), rfl⟩, ⟨List.mem_of_getElem? (i := 100) (by decide +kernel), rfl⟩⟩
theorem imX9_orderOf : xIn (.instanceMethod yX9_orderOf) := ⟨List.mem_of_getElem? (i := 1864) (by decide +kernel), rfl⟩
theorem seX9_orderOf : xIn (.selects RX9 yX9_orderOf yX9_orderOf) := ⟨List.mem_of_getElem? (i := 1865) (by decide +kernel), rfl⟩
theorem okX9_centreOf : xIn (.code yX9_centreOf cX9_centreOf 6 (some .int)) ∧ xIn (.initialized RX9) := ⟨⟨List.mem_of_getElem? (i := 1878) (by decide +kernel), rfl⟩, ⟨List.mem_of_getElem? (i := 100) (by decide +kernel), rfl⟩⟩
theorem imX9_centreOf : xIn (.instanceMethod yX9_centreOf) := ⟨List.mem_of_getElem? (i := 1877) (by decide +kernel), rfl⟩
theorem seX9_centreOf : xIn (.selects RX9 yX9_centreOf yX9_centreOf) := ⟨List.mem_of_getElem? (i := 41) (by decide +kernel), rfl⟩
theorem okX9_centre : xIn (.code yX9_centre cX9_centre 2 (some .int)) ∧ xIn (.initialized RX9) := ⟨⟨List.mem_of_getElem? (i := 1874) (by decide +kernel), rfl⟩, ⟨List.mem_of_getElem? (i := 100) (by decide +kernel), rfl⟩⟩
theorem imX9_centre : xIn (.instanceMethod yX9_centre) := ⟨List.mem_of_getElem? (i := 1872) (by decide +kernel), rfl⟩
theorem seX9_centre : xIn (.selects RX9 yX9_centre yX9_centre) := ⟨List.mem_of_getElem? (i := 1873) (by decide +kernel), rfl⟩
theorem okX9_conjugateOf : xIn (.code yX9_conjugateOf cX9_conjugateOf 4 (some .int)) ∧ xIn (.initialized RX9) := ⟨⟨List.mem_of_getElem? (i := 1886) (by decide +kernel), rfl⟩, ⟨List.mem_of_getElem? (i := 100) (by decide +kernel), rfl⟩⟩
theorem imX9_conjugateOf : xIn (.instanceMethod yX9_conjugateOf) := ⟨List.mem_of_getElem? (i := 1885) (by decide +kernel), rfl⟩
theorem seX9_conjugateOf : xIn (.selects RX9 yX9_conjugateOf yX9_conjugateOf) := ⟨List.mem_of_getElem? (i := 42) (by decide +kernel), rfl⟩
theorem okX9_conjugacy : xIn (.code yX9_conjugacy cX9_conjugacy 6 (some .int)) ∧ xIn (.initialized RX9) := ⟨⟨List.mem_of_getElem? (i := 1882) (by decide +kernel), rfl⟩, ⟨List.mem_of_getElem? (i := 100) (by decide +kernel), rfl⟩⟩
theorem imX9_conjugacy : xIn (.instanceMethod yX9_conjugacy) := ⟨List.mem_of_getElem? (i := 1880) (by decide +kernel), rfl⟩
theorem seX9_conjugacy : xIn (.selects RX9 yX9_conjugacy yX9_conjugacy) := ⟨List.mem_of_getElem? (i := 1881) (by decide +kernel), rfl⟩
theorem okX9_made : xIn (.code yX9_made cX9_made 8 (some .int)) ∧ xIn (.initialized RX9) := ⟨⟨List.mem_of_getElem? (i := 1898) (by decide +kernel), rfl⟩, ⟨List.mem_of_getElem? (i := 100) (by decide +kernel), rfl⟩⟩
theorem imX9_made : xIn (.instanceMethod yX9_made) := ⟨List.mem_of_getElem? (i := 1897) (by decide +kernel), rfl⟩
theorem seX9_made : xIn (.selects RX9 yX9_made yX9_made) := ⟨List.mem_of_getElem? (i := 44) (by decide +kernel), rfl⟩
theorem okX9_noSet : xIn (.code yX9_noSet cX9_noSet 3 (some .boolean)) ∧ xIn (.initialized RX9) := ⟨⟨List.mem_of_getElem? (i := 1894) (by decide +kernel), rfl⟩, ⟨List.mem_of_getElem? (i := 100) (by decide +kernel), rfl⟩⟩
theorem imX9_noSet : xIn (.instanceMethod yX9_noSet) := ⟨List.mem_of_getElem? (i := 1893) (by decide +kernel), rfl⟩
theorem seX9_noSet : xIn (.selects RX9 yX9_noSet yX9_noSet) := ⟨List.mem_of_getElem? (i := 43) (by decide +kernel), rfl⟩
theorem okX9_generated : xIn (.code yX9_generated cX9_generated 3 (some .int)) ∧ xIn (.initialized RX9) := ⟨⟨List.mem_of_getElem? (i := 1890) (by decide +kernel), rfl⟩, ⟨List.mem_of_getElem? (i := 100) (by decide +kernel), rfl⟩⟩
theorem imX9_generated : xIn (.instanceMethod yX9_generated) := ⟨List.mem_of_getElem? (i := 1888) (by decide +kernel), rfl⟩
theorem seX9_generated : xIn (.selects RX9 yX9_generated yX9_generated) := ⟨List.mem_of_getElem? (i := 1889) (by decide +kernel), rfl⟩
theorem okX9_normal : xIn (.code yX9_normal cX9_normal 3 (some .int)) ∧ xIn (.initialized RX9) := ⟨⟨List.mem_of_getElem? (i := 1902) (by decide +kernel), rfl⟩, ⟨List.mem_of_getElem? (i := 100) (by decide +kernel), rfl⟩⟩
theorem imX9_normal : xIn (.instanceMethod yX9_normal) := ⟨List.mem_of_getElem? (i := 1900) (by decide +kernel), rfl⟩
theorem seX9_normal : xIn (.selects RX9 yX9_normal yX9_normal) := ⟨List.mem_of_getElem? (i := 1901) (by decide +kernel), rfl⟩
theorem okX9_noModule : xIn (.code yX9_noModule cX9_noModule 2 (some .boolean)) ∧ xIn (.initialized RX9) := ⟨⟨List.mem_of_getElem? (i := 1910) (by decide +kernel), rfl⟩, ⟨List.mem_of_getElem? (i := 100) (by decide +kernel), rfl⟩⟩
theorem imX9_noModule : xIn (.instanceMethod yX9_noModule) := ⟨List.mem_of_getElem? (i := 1909) (by decide +kernel), rfl⟩
theorem seX9_noModule : xIn (.selects RX9 yX9_noModule yX9_noModule) := ⟨List.mem_of_getElem? (i := 45) (by decide +kernel), rfl⟩
theorem okX9_noUpper : xIn (.code yX9_noUpper cX9_noUpper 3 (some .boolean)) ∧ xIn (.initialized RX9) := ⟨⟨List.mem_of_getElem? (i := 1918) (by decide +kernel), rfl⟩, ⟨List.mem_of_getElem? (i := 100) (by decide +kernel), rfl⟩⟩
theorem imX9_noUpper : xIn (.instanceMethod yX9_noUpper) := ⟨List.mem_of_getElem? (i := 1917) (by decide +kernel), rfl⟩
theorem seX9_noUpper : xIn (.selects RX9 yX9_noUpper yX9_noUpper) := ⟨List.mem_of_getElem? (i := 46) (by decide +kernel), rfl⟩
theorem okX9_noLower : xIn (.code yX9_noLower cX9_noLower 3 (some .boolean)) ∧ xIn (.initialized RX9) := ⟨⟨List.mem_of_getElem? (i := 1930) (by decide +kernel), rfl⟩, ⟨List.mem_of_getElem? (i := 100) (by decide +kernel), rfl⟩⟩
theorem imX9_noLower : xIn (.instanceMethod yX9_noLower) := ⟨List.mem_of_getElem? (i := 1929) (by decide +kernel), rfl⟩
theorem seX9_noLower : xIn (.selects RX9 yX9_noLower yX9_noLower) := ⟨List.mem_of_getElem? (i := 48) (by decide +kernel), rfl⟩
theorem okX9_boundaryOf : xIn (.code yX9_boundaryOf cX9_boundaryOf 3 (some .int)) ∧ xIn (.initialized RX9) := ⟨⟨List.mem_of_getElem? (i := 1922) (by decide +kernel), rfl⟩, ⟨List.mem_of_getElem? (i := 100) (by decide +kernel), rfl⟩⟩
theorem imX9_boundaryOf : xIn (.instanceMethod yX9_boundaryOf) := ⟨List.mem_of_getElem? (i := 1921) (by decide +kernel), rfl⟩
theorem seX9_boundaryOf : xIn (.selects RX9 yX9_boundaryOf yX9_boundaryOf) := ⟨List.mem_of_getElem? (i := 47) (by decide +kernel), rfl⟩
theorem okX9_on : xIn (.code yX9_on cX9_on 4 (some .int)) ∧ xIn (.initialized RX9) := ⟨⟨List.mem_of_getElem? (i := 1934) (by decide +kernel), rfl⟩, ⟨List.mem_of_getElem? (i := 100) (by decide +kernel), rfl⟩⟩
theorem imX9_on : xIn (.instanceMethod yX9_on) := ⟨List.mem_of_getElem? (i := 1933) (by decide +kernel), rfl⟩
theorem seX9_on : xIn (.selects RX9 yX9_on yX9_on) := ⟨List.mem_of_getElem? (i := 49) (by decide +kernel), rfl⟩
theorem okX9_up : xIn (.code yX9_up cX9_up 4 (some .int)) ∧ xIn (.initialized RX9) := ⟨⟨List.mem_of_getElem? (i := 1954) (by decide +kernel), rfl⟩, ⟨List.mem_of_getElem? (i := 100) (by decide +kernel), rfl⟩⟩
theorem imX9_up : xIn (.instanceMethod yX9_up) := ⟨List.mem_of_getElem? (i := 1953) (by decide +kernel), rfl⟩
theorem seX9_up : xIn (.selects RX9 yX9_up yX9_up) := ⟨List.mem_of_getElem? (i := 53) (by decide +kernel), rfl⟩
theorem okX9_down : xIn (.code yX9_down cX9_down 4 (some .int)) ∧ xIn (.initialized RX9) := ⟨⟨List.mem_of_getElem? (i := 1958) (by decide +kernel), rfl⟩, ⟨List.mem_of_getElem? (i := 100) (by decide +kernel), rfl⟩⟩
theorem imX9_down : xIn (.instanceMethod yX9_down) := ⟨List.mem_of_getElem? (i := 1957) (by decide +kernel), rfl⟩
theorem seX9_down : xIn (.selects RX9 yX9_down yX9_down) := ⟨List.mem_of_getElem? (i := 54) (by decide +kernel), rfl⟩
theorem okX9_uppers : xIn (.code yX9_uppers cX9_uppers 2 (some .int)) ∧ xIn (.initialized RX9) := ⟨⟨List.mem_of_getElem? (i := 1950) (by decide +kernel), rfl⟩, ⟨List.mem_of_getElem? (i := 100) (by decide +kernel), rfl⟩⟩
theorem imX9_uppers : xIn (.instanceMethod yX9_uppers) := ⟨List.mem_of_getElem? (i := 1949) (by decide +kernel), rfl⟩
theorem seX9_uppers : xIn (.selects RX9 yX9_uppers yX9_uppers) := ⟨List.mem_of_getElem? (i := 52) (by decide +kernel), rfl⟩
theorem okX9_lowers : xIn (.code yX9_lowers cX9_lowers 2 (some .int)) ∧ xIn (.initialized RX9) := ⟨⟨List.mem_of_getElem? (i := 1966) (by decide +kernel), rfl⟩, ⟨List.mem_of_getElem? (i := 100) (by decide +kernel), rfl⟩⟩
theorem imX9_lowers : xIn (.instanceMethod yX9_lowers) := ⟨List.mem_of_getElem? (i := 1965) (by decide +kernel), rfl⟩
theorem seX9_lowers : xIn (.selects RX9 yX9_lowers yX9_lowers) := ⟨List.mem_of_getElem? (i := 56) (by decide +kernel), rfl⟩
theorem okX9_groupOf : xIn (.code yX9_groupOf cX9_groupOf 3 (some .int)) ∧ xIn (.initialized RX9) := ⟨⟨List.mem_of_getElem? (i := 1906) (by decide +kernel), rfl⟩, ⟨List.mem_of_getElem? (i := 100) (by decide +kernel), rfl⟩⟩
theorem imX9_groupOf : xIn (.instanceMethod yX9_groupOf) := ⟨List.mem_of_getElem? (i := 1904) (by decide +kernel), rfl⟩
theorem seX9_groupOf : xIn (.selects RX9 yX9_groupOf yX9_groupOf) := ⟨List.mem_of_getElem? (i := 1905) (by decide +kernel), rfl⟩
theorem okX9_boundary : xIn (.code yX9_boundary cX9_boundary 3 (some .int)) ∧ xIn (.initialized RX9) := ⟨⟨List.mem_of_getElem? (i := 1914) (by decide +kernel), rfl⟩, ⟨List.mem_of_getElem? (i := 100) (by decide +kernel), rfl⟩⟩
theorem imX9_boundary : xIn (.instanceMethod yX9_boundary) := ⟨List.mem_of_getElem? (i := 1912) (by decide +kernel), rfl⟩
theorem seX9_boundary : xIn (.selects RX9 yX9_boundary yX9_boundary) := ⟨List.mem_of_getElem? (i := 1913) (by decide +kernel), rfl⟩
theorem okX9_act : xIn (.code yX9_act cX9_act 4 (some .int)) ∧ xIn (.initialized RX9) := ⟨⟨List.mem_of_getElem? (i := 1926) (by decide +kernel), rfl⟩, ⟨List.mem_of_getElem? (i := 100) (by decide +kernel), rfl⟩⟩
theorem imX9_act : xIn (.instanceMethod yX9_act) := ⟨List.mem_of_getElem? (i := 1924) (by decide +kernel), rfl⟩
theorem seX9_act : xIn (.selects RX9 yX9_act yX9_act) := ⟨List.mem_of_getElem? (i := 1925) (by decide +kernel), rfl⟩
theorem okX9_breaksProducts : xIn (.code yX9_breaksProducts cX9_breaksProducts 4 (some .boolean)) ∧ xIn (.initialized RX9) := ⟨⟨List.mem_of_getElem? (i := 1946) (by decide +kernel), rfl⟩, ⟨List.mem_of_getElem? (i := 100) (by decide +kernel), rfl⟩⟩
theorem imX9_breaksProducts : xIn (.instanceMethod yX9_breaksProducts) := ⟨List.mem_of_getElem? (i := 1945) (by decide +kernel), rfl⟩
theorem seX9_breaksProducts : xIn (.selects RX9 yX9_breaksProducts yX9_breaksProducts) := ⟨List.mem_of_getElem? (i := 51) (by decide +kernel), rfl⟩
theorem okX9_breaksMaps : xIn (.code yX9_breaksMaps cX9_breaksMaps 5 (some .boolean)) ∧ xIn (.initialized RX9) := ⟨⟨List.mem_of_getElem? (i := 1962) (by decide +kernel), rfl⟩, ⟨List.mem_of_getElem? (i := 100) (by decide +kernel), rfl⟩⟩
theorem imX9_breaksMaps : xIn (.instanceMethod yX9_breaksMaps) := ⟨List.mem_of_getElem? (i := 1961) (by decide +kernel), rfl⟩
theorem seX9_breaksMaps : xIn (.selects RX9 yX9_breaksMaps yX9_breaksMaps) := ⟨List.mem_of_getElem? (i := 55) (by decide +kernel), rfl⟩
theorem okX9_breaksActions : xIn (.code yX9_breaksActions cX9_breaksActions 5 (some .boolean)) ∧ xIn (.initialized RX9) := ⟨⟨List.mem_of_getElem? (i := 1970) (by decide +kernel), rfl⟩, ⟨List.mem_of_getElem? (i := 100) (by decide +kernel), rfl⟩⟩
theorem imX9_breaksActions : xIn (.instanceMethod yX9_breaksActions) := ⟨List.mem_of_getElem? (i := 1969) (by decide +kernel), rfl⟩
theorem seX9_breaksActions : xIn (.selects RX9 yX9_breaksActions yX9_breaksActions) := ⟨List.mem_of_getElem? (i := 57) (by decide +kernel), rfl⟩
theorem okX9_breaksBoundaries : xIn (.code yX9_breaksBoundaries cX9_breaksBoundaries 4 (some .boolean)) ∧ xIn (.initialized RX9) := ⟨⟨List.mem_of_getElem? (i := 1974) (by decide +kernel), rfl⟩, ⟨List.mem_of_getElem? (i := 100) (by decide +kernel), rfl⟩⟩
theorem imX9_breaksBoundaries : xIn (.instanceMethod yX9_breaksBoundaries) := ⟨List.mem_of_getElem? (i := 1973) (by decide +kernel), rfl⟩
theorem seX9_breaksBoundaries : xIn (.selects RX9 yX9_breaksBoundaries yX9_breaksBoundaries) := ⟨List.mem_of_getElem? (i := 58) (by decide +kernel), rfl⟩
theorem okX9_breaksConjugates : xIn (.code yX9_breaksConjugates cX9_breaksConjugates 4 (some .boolean)) ∧ xIn (.initialized RX9) := ⟨⟨List.mem_of_getElem? (i := 1978) (by decide +kernel), rfl⟩, ⟨List.mem_of_getElem? (i := 100) (by decide +kernel), rfl⟩⟩
theorem imX9_breaksConjugates : xIn (.instanceMethod yX9_breaksConjugates) := ⟨List.mem_of_getElem? (i := 1977) (by decide +kernel), rfl⟩
theorem seX9_breaksConjugates : xIn (.selects RX9 yX9_breaksConjugates yX9_breaksConjugates) := ⟨List.mem_of_getElem? (i := 59) (by decide +kernel), rfl⟩
theorem okX9_whyOf : xIn (.code yX9_whyOf cX9_whyOf 2 (some .int)) ∧ xIn (.initialized RX9) := ⟨⟨List.mem_of_getElem? (i := 1942) (by decide +kernel), rfl⟩, ⟨List.mem_of_getElem? (i := 100) (by decide +kernel), rfl⟩⟩
theorem imX9_whyOf : xIn (.instanceMethod yX9_whyOf) := ⟨List.mem_of_getElem? (i := 1941) (by decide +kernel), rfl⟩
theorem seX9_whyOf : xIn (.selects RX9 yX9_whyOf yX9_whyOf) := ⟨List.mem_of_getElem? (i := 50) (by decide +kernel), rfl⟩
theorem okX9_why : xIn (.code yX9_why cX9_why 2 (some .int)) ∧ xIn (.initialized RX9) := ⟨⟨List.mem_of_getElem? (i := 1938) (by decide +kernel), rfl⟩, ⟨List.mem_of_getElem? (i := 100) (by decide +kernel), rfl⟩⟩
theorem imX9_why : xIn (.instanceMethod yX9_why) := ⟨List.mem_of_getElem? (i := 1936) (by decide +kernel), rfl⟩
theorem seX9_why : xIn (.selects RX9 yX9_why yX9_why) := ⟨List.mem_of_getElem? (i := 1937) (by decide +kernel), rfl⟩
theorem okX9_lawfulNow : xIn (.code yX9_lawfulNow cX9_lawfulNow 3 (some .int)) ∧ xIn (.initialized RX9) := ⟨⟨List.mem_of_getElem? (i := 1986) (by decide +kernel), rfl⟩, ⟨List.mem_of_getElem? (i := 100) (by decide +kernel), rfl⟩⟩
theorem imX9_lawfulNow : xIn (.instanceMethod yX9_lawfulNow) := ⟨List.mem_of_getElem? (i := 1985) (by decide +kernel), rfl⟩
theorem seX9_lawfulNow : xIn (.selects RX9 yX9_lawfulNow yX9_lawfulNow) := ⟨List.mem_of_getElem? (i := 60) (by decide +kernel), rfl⟩
theorem okX9_lawful : xIn (.code yX9_lawful cX9_lawful 1 (some .int)) ∧ xIn (.initialized RX9) := ⟨⟨List.mem_of_getElem? (i := 1982) (by decide +kernel), rfl⟩, ⟨List.mem_of_getElem? (i := 100) (by decide +kernel), rfl⟩⟩
theorem imX9_lawful : xIn (.instanceMethod yX9_lawful) := ⟨List.mem_of_getElem? (i := 1980) (by decide +kernel), rfl⟩
theorem seX9_lawful : xIn (.selects RX9 yX9_lawful yX9_lawful) := ⟨List.mem_of_getElem? (i := 1981) (by decide +kernel), rfl⟩
theorem okX9_kernelOf : xIn (.code yX9_kernelOf cX9_kernelOf 4 (some .int)) ∧ xIn (.initialized RX9) := ⟨⟨List.mem_of_getElem? (i := 1994) (by decide +kernel), rfl⟩, ⟨List.mem_of_getElem? (i := 100) (by decide +kernel), rfl⟩⟩
theorem imX9_kernelOf : xIn (.instanceMethod yX9_kernelOf) := ⟨List.mem_of_getElem? (i := 1993) (by decide +kernel), rfl⟩
theorem seX9_kernelOf : xIn (.selects RX9 yX9_kernelOf yX9_kernelOf) := ⟨List.mem_of_getElem? (i := 61) (by decide +kernel), rfl⟩
theorem okX9_imageOf : xIn (.code yX9_imageOf cX9_imageOf 4 (some .int)) ∧ xIn (.initialized RX9) := ⟨⟨List.mem_of_getElem? (i := 2002) (by decide +kernel), rfl⟩, ⟨List.mem_of_getElem? (i := 100) (by decide +kernel), rfl⟩⟩
theorem imX9_imageOf : xIn (.instanceMethod yX9_imageOf) := ⟨List.mem_of_getElem? (i := 2001) (by decide +kernel), rfl⟩
theorem seX9_imageOf : xIn (.selects RX9 yX9_imageOf yX9_imageOf) := ⟨List.mem_of_getElem? (i := 62) (by decide +kernel), rfl⟩
theorem okX9_kernel : xIn (.code yX9_kernel cX9_kernel 2 (some .int)) ∧ xIn (.initialized RX9) := ⟨⟨List.mem_of_getElem? (i := 1990) (by decide +kernel), rfl⟩, ⟨List.mem_of_getElem? (i := 100) (by decide +kernel), rfl⟩⟩
theorem imX9_kernel : xIn (.instanceMethod yX9_kernel) := ⟨List.mem_of_getElem? (i := 1988) (by decide +kernel), rfl⟩
theorem seX9_kernel : xIn (.selects RX9 yX9_kernel yX9_kernel) := ⟨List.mem_of_getElem? (i := 1989) (by decide +kernel), rfl⟩
theorem okX9_image : xIn (.code yX9_image cX9_image 2 (some .int)) ∧ xIn (.initialized RX9) := ⟨⟨List.mem_of_getElem? (i := 1998) (by decide +kernel), rfl⟩, ⟨List.mem_of_getElem? (i := 100) (by decide +kernel), rfl⟩⟩
theorem imX9_image : xIn (.instanceMethod yX9_image) := ⟨List.mem_of_getElem? (i := 1996) (by decide +kernel), rfl⟩
theorem seX9_image : xIn (.selects RX9 yX9_image yX9_image) := ⟨List.mem_of_getElem? (i := 1997) (by decide +kernel), rfl⟩
theorem okX9_isCentral : xIn (.code yX9_isCentral cX9_isCentral 2 (some .boolean)) ∧ xIn (.initialized RX9) := ⟨⟨List.mem_of_getElem? (i := 2006) (by decide +kernel), rfl⟩, ⟨List.mem_of_getElem? (i := 100) (by decide +kernel), rfl⟩⟩
theorem imX9_isCentral : xIn (.instanceMethod yX9_isCentral) := ⟨List.mem_of_getElem? (i := 2004) (by decide +kernel), rfl⟩
theorem seX9_isCentral : xIn (.selects RX9 yX9_isCentral yX9_isCentral) := ⟨List.mem_of_getElem? (i := 2005) (by decide +kernel), rfl⟩
theorem okX9_fixed : xIn (.code yX9_fixed cX9_fixed 5 (some .int)) ∧ xIn (.initialized RX9) := ⟨⟨List.mem_of_getElem? (i := 2010) (by decide +kernel), rfl⟩, ⟨List.mem_of_getElem? (i := 100) (by decide +kernel), rfl⟩⟩
theorem imX9_fixed : xIn (.instanceMethod yX9_fixed) := ⟨List.mem_of_getElem? (i := 2008) (by decide +kernel), rfl⟩
theorem seX9_fixed : xIn (.selects RX9 yX9_fixed yX9_fixed) := ⟨List.mem_of_getElem? (i := 2009) (by decide +kernel), rfl⟩
theorem okX9_orbit : xIn (.code yX9_orbit cX9_orbit 5 (some .int)) ∧ xIn (.initialized RX9) := ⟨⟨List.mem_of_getElem? (i := 2014) (by decide +kernel), rfl⟩, ⟨List.mem_of_getElem? (i := 100) (by decide +kernel), rfl⟩⟩
theorem imX9_orbit : xIn (.instanceMethod yX9_orbit) := ⟨List.mem_of_getElem? (i := 2012) (by decide +kernel), rfl⟩
theorem seX9_orbit : xIn (.selects RX9 yX9_orbit yX9_orbit) := ⟨List.mem_of_getElem? (i := 2013) (by decide +kernel), rfl⟩
theorem okX9_laysClasses : xIn (.code yX9_laysClasses cX9_laysClasses 7 (some .int)) ∧ xIn (.initialized RX9) := ⟨⟨List.mem_of_getElem? (i := 2026) (by decide +kernel), rfl⟩, ⟨List.mem_of_getElem? (i := 100) (by decide +kernel), rfl⟩⟩
theorem imX9_laysClasses : xIn (.instanceMethod yX9_laysClasses) := ⟨List.mem_of_getElem? (i := 2025) (by decide +kernel), rfl⟩
theorem seX9_laysClasses : xIn (.selects RX9 yX9_laysClasses yX9_laysClasses) := ⟨List.mem_of_getElem? (i := 64) (by decide +kernel), rfl⟩
theorem okX9_notLawful : xIn (.code yX9_notLawful cX9_notLawful 2 (some .boolean)) ∧ xIn (.initialized RX9) := ⟨⟨List.mem_of_getElem? (i := 2022) (by decide +kernel), rfl⟩, ⟨List.mem_of_getElem? (i := 100) (by decide +kernel), rfl⟩⟩
theorem imX9_notLawful : xIn (.instanceMethod yX9_notLawful) := ⟨List.mem_of_getElem? (i := 2021) (by decide +kernel), rfl⟩
theorem seX9_notLawful : xIn (.selects RX9 yX9_notLawful yX9_notLawful) := ⟨List.mem_of_getElem? (i := 63) (by decide +kernel), rfl⟩
theorem okX9_classes : xIn (.code yX9_classes cX9_classes 2 (some .int)) ∧ xIn (.initialized RX9) := ⟨⟨List.mem_of_getElem? (i := 2018) (by decide +kernel), rfl⟩, ⟨List.mem_of_getElem? (i := 100) (by decide +kernel), rfl⟩⟩
theorem imX9_classes : xIn (.instanceMethod yX9_classes) := ⟨List.mem_of_getElem? (i := 2016) (by decide +kernel), rfl⟩
theorem seX9_classes : xIn (.selects RX9 yX9_classes yX9_classes) := ⟨List.mem_of_getElem? (i := 2017) (by decide +kernel), rfl⟩
theorem okX9_classOf : xIn (.code yX9_classOf cX9_classOf 4 (some .int)) ∧ xIn (.initialized RX9) := ⟨⟨List.mem_of_getElem? (i := 2030) (by decide +kernel), rfl⟩, ⟨List.mem_of_getElem? (i := 100) (by decide +kernel), rfl⟩⟩
theorem imX9_classOf : xIn (.instanceMethod yX9_classOf) := ⟨List.mem_of_getElem? (i := 2028) (by decide +kernel), rfl⟩
theorem seX9_classOf : xIn (.selects RX9 yX9_classOf yX9_classOf) := ⟨List.mem_of_getElem? (i := 2029) (by decide +kernel), rfl⟩
theorem okX9_classProduct : xIn (.code yX9_classProduct cX9_classProduct 4 (some .int)) ∧ xIn (.initialized RX9) := ⟨⟨List.mem_of_getElem? (i := 2038) (by decide +kernel), rfl⟩, ⟨List.mem_of_getElem? (i := 100) (by decide +kernel), rfl⟩⟩
theorem imX9_classProduct : xIn (.instanceMethod yX9_classProduct) := ⟨List.mem_of_getElem? (i := 2037) (by decide +kernel), rfl⟩
theorem seX9_classProduct : xIn (.selects RX9 yX9_classProduct yX9_classProduct) := ⟨List.mem_of_getElem? (i := 65) (by decide +kernel), rfl⟩
theorem okX9_classTimes : xIn (.code yX9_classTimes cX9_classTimes 5 (some .int)) ∧ xIn (.initialized RX9) := ⟨⟨List.mem_of_getElem? (i := 2034) (by decide +kernel), rfl⟩, ⟨List.mem_of_getElem? (i := 100) (by decide +kernel), rfl⟩⟩
theorem imX9_classTimes : xIn (.instanceMethod yX9_classTimes) := ⟨List.mem_of_getElem? (i := 2032) (by decide +kernel), rfl⟩
theorem seX9_classTimes : xIn (.selects RX9 yX9_classTimes yX9_classTimes) := ⟨List.mem_of_getElem? (i := 2033) (by decide +kernel), rfl⟩
theorem okX9_classAct : xIn (.code yX9_classAct cX9_classAct 5 (some .int)) ∧ xIn (.initialized RX9) := ⟨⟨List.mem_of_getElem? (i := 2042) (by decide +kernel), rfl⟩, ⟨List.mem_of_getElem? (i := 100) (by decide +kernel), rfl⟩⟩
theorem imX9_classAct : xIn (.instanceMethod yX9_classAct) := ⟨List.mem_of_getElem? (i := 2040) (by decide +kernel), rfl⟩
theorem seX9_classAct : xIn (.selects RX9 yX9_classAct yX9_classAct) := ⟨List.mem_of_getElem? (i := 2041) (by decide +kernel), rfl⟩
theorem okX9_profileOf : xIn (.code yX9_profileOf cX9_profileOf 9 (some .int)) ∧ xIn (.initialized RX9) := ⟨⟨List.mem_of_getElem? (i := 2050) (by decide +kernel), rfl⟩, ⟨List.mem_of_getElem? (i := 100) (by decide +kernel), rfl⟩⟩
theorem imX9_profileOf : xIn (.instanceMethod yX9_profileOf) := ⟨List.mem_of_getElem? (i := 2049) (by decide +kernel), rfl⟩
theorem seX9_profileOf : xIn (.selects RX9 yX9_profileOf yX9_profileOf) := ⟨List.mem_of_getElem? (i := 66) (by decide +kernel), rfl⟩
theorem okX9_profile : xIn (.code yX9_profile cX9_profile 4 (some .int)) ∧ xIn (.initialized RX9) := ⟨⟨List.mem_of_getElem? (i := 2046) (by decide +kernel), rfl⟩, ⟨List.mem_of_getElem? (i := 100) (by decide +kernel), rfl⟩⟩
theorem imX9_profile : xIn (.instanceMethod yX9_profile) := ⟨List.mem_of_getElem? (i := 2044) (by decide +kernel), rfl⟩
theorem seX9_profile : xIn (.selects RX9 yX9_profile yX9_profile) := ⟨List.mem_of_getElem? (i := 2045) (by decide +kernel), rfl⟩
theorem okX9_alike : xIn (.code yX9_alike cX9_alike 4 (some .boolean)) ∧ xIn (.initialized RX9) := ⟨⟨List.mem_of_getElem? (i := 2058) (by decide +kernel), rfl⟩, ⟨List.mem_of_getElem? (i := 100) (by decide +kernel), rfl⟩⟩
theorem imX9_alike : xIn (.instanceMethod yX9_alike) := ⟨List.mem_of_getElem? (i := 2057) (by decide +kernel), rfl⟩
theorem seX9_alike : xIn (.selects RX9 yX9_alike yX9_alike) := ⟨List.mem_of_getElem? (i := 67) (by decide +kernel), rfl⟩
theorem okX9_areAlike : xIn (.code yX9_areAlike cX9_areAlike 3 (some .boolean)) ∧ xIn (.initialized RX9) := ⟨⟨List.mem_of_getElem? (i := 2054) (by decide +kernel), rfl⟩, ⟨List.mem_of_getElem? (i := 100) (by decide +kernel), rfl⟩⟩
theorem imX9_areAlike : xIn (.instanceMethod yX9_areAlike) := ⟨List.mem_of_getElem? (i := 2052) (by decide +kernel), rfl⟩
theorem seX9_areAlike : xIn (.selects RX9 yX9_areAlike yX9_areAlike) := ⟨List.mem_of_getElem? (i := 2053) (by decide +kernel), rfl⟩
theorem okX9_firstLike : xIn (.code yX9_firstLike cX9_firstLike 3 (some .int)) ∧ xIn (.initialized RX9) := ⟨⟨List.mem_of_getElem? (i := 2066) (by decide +kernel), rfl⟩, ⟨List.mem_of_getElem? (i := 100) (by decide +kernel), rfl⟩⟩
theorem imX9_firstLike : xIn (.instanceMethod yX9_firstLike) := ⟨List.mem_of_getElem? (i := 2065) (by decide +kernel), rfl⟩
theorem seX9_firstLike : xIn (.selects RX9 yX9_firstLike yX9_firstLike) := ⟨List.mem_of_getElem? (i := 68) (by decide +kernel), rfl⟩
theorem okX9_kinds : xIn (.code yX9_kinds cX9_kinds 3 (some .int)) ∧ xIn (.initialized RX9) := ⟨⟨List.mem_of_getElem? (i := 2062) (by decide +kernel), rfl⟩, ⟨List.mem_of_getElem? (i := 100) (by decide +kernel), rfl⟩⟩
theorem imX9_kinds : xIn (.instanceMethod yX9_kinds) := ⟨List.mem_of_getElem? (i := 2060) (by decide +kernel), rfl⟩
theorem seX9_kinds : xIn (.selects RX9 yX9_kinds yX9_kinds) := ⟨List.mem_of_getElem? (i := 2061) (by decide +kernel), rfl⟩
theorem okX9_firstAlike : xIn (.code yX9_firstAlike cX9_firstAlike 2 (some .int)) ∧ xIn (.initialized RX9) := ⟨⟨List.mem_of_getElem? (i := 2070) (by decide +kernel), rfl⟩, ⟨List.mem_of_getElem? (i := 100) (by decide +kernel), rfl⟩⟩
theorem imX9_firstAlike : xIn (.instanceMethod yX9_firstAlike) := ⟨List.mem_of_getElem? (i := 2068) (by decide +kernel), rfl⟩
theorem seX9_firstAlike : xIn (.selects RX9 yX9_firstAlike yX9_firstAlike) := ⟨List.mem_of_getElem? (i := 2069) (by decide +kernel), rfl⟩
theorem okX9_noLarge : xIn (.code yX9_noLarge cX9_noLarge 3 (some .boolean)) ∧ xIn (.initialized RX9) := ⟨⟨List.mem_of_getElem? (i := 2078) (by decide +kernel), rfl⟩, ⟨List.mem_of_getElem? (i := 100) (by decide +kernel), rfl⟩⟩
theorem imX9_noLarge : xIn (.instanceMethod yX9_noLarge) := ⟨List.mem_of_getElem? (i := 2077) (by decide +kernel), rfl⟩
theorem seX9_noLarge : xIn (.selects RX9 yX9_noLarge yX9_noLarge) := ⟨List.mem_of_getElem? (i := 69) (by decide +kernel), rfl⟩
theorem okX9_large : xIn (.code yX9_large cX9_large 5 (some .int)) ∧ xIn (.initialized RX9) := ⟨⟨List.mem_of_getElem? (i := 2082) (by decide +kernel), rfl⟩, ⟨List.mem_of_getElem? (i := 100) (by decide +kernel), rfl⟩⟩
theorem imX9_large : xIn (.instanceMethod yX9_large) := ⟨List.mem_of_getElem? (i := 2081) (by decide +kernel), rfl⟩
theorem seX9_large : xIn (.selects RX9 yX9_large yX9_large) := ⟨List.mem_of_getElem? (i := 70) (by decide +kernel), rfl⟩
theorem okX9_largeTimes : xIn (.code yX9_largeTimes cX9_largeTimes 4 (some .int)) ∧ xIn (.initialized RX9) := ⟨⟨List.mem_of_getElem? (i := 2074) (by decide +kernel), rfl⟩, ⟨List.mem_of_getElem? (i := 100) (by decide +kernel), rfl⟩⟩
theorem imX9_largeTimes : xIn (.instanceMethod yX9_largeTimes) := ⟨List.mem_of_getElem? (i := 2072) (by decide +kernel), rfl⟩
theorem seX9_largeTimes : xIn (.selects RX9 yX9_largeTimes yX9_largeTimes) := ⟨List.mem_of_getElem? (i := 2073) (by decide +kernel), rfl⟩
theorem okX9_targetOf : xIn (.code yX9_targetOf cX9_targetOf 3 (some .int)) ∧ xIn (.initialized RX9) := ⟨⟨List.mem_of_getElem? (i := 2090) (by decide +kernel), rfl⟩, ⟨List.mem_of_getElem? (i := 100) (by decide +kernel), rfl⟩⟩
theorem imX9_targetOf : xIn (.instanceMethod yX9_targetOf) := ⟨List.mem_of_getElem? (i := 2089) (by decide +kernel), rfl⟩
theorem seX9_targetOf : xIn (.selects RX9 yX9_targetOf yX9_targetOf) := ⟨List.mem_of_getElem? (i := 71) (by decide +kernel), rfl⟩
theorem okX9_target : xIn (.code yX9_target cX9_target 3 (some .int)) ∧ xIn (.initialized RX9) := ⟨⟨List.mem_of_getElem? (i := 2086) (by decide +kernel), rfl⟩, ⟨List.mem_of_getElem? (i := 100) (by decide +kernel), rfl⟩⟩
theorem imX9_target : xIn (.instanceMethod yX9_target) := ⟨List.mem_of_getElem? (i := 2084) (by decide +kernel), rfl⟩
theorem seX9_target : xIn (.selects RX9 yX9_target yX9_target) := ⟨List.mem_of_getElem? (i := 2085) (by decide +kernel), rfl⟩
theorem okX9_largeOrder : xIn (.code yX9_largeOrder cX9_largeOrder 5 (some .int)) ∧ xIn (.initialized RX9) := ⟨⟨List.mem_of_getElem? (i := 2094) (by decide +kernel), rfl⟩, ⟨List.mem_of_getElem? (i := 100) (by decide +kernel), rfl⟩⟩
theorem imX9_largeOrder : xIn (.instanceMethod yX9_largeOrder) := ⟨List.mem_of_getElem? (i := 2092) (by decide +kernel), rfl⟩
theorem seX9_largeOrder : xIn (.selects RX9 yX9_largeOrder yX9_largeOrder) := ⟨List.mem_of_getElem? (i := 2093) (by decide +kernel), rfl⟩
theorem okX9_between : xIn (.code yX9_between cX9_between 6 (some .int)) ∧ xIn (.initialized RX9) := ⟨⟨List.mem_of_getElem? (i := 2098) (by decide +kernel), rfl⟩, ⟨List.mem_of_getElem? (i := 100) (by decide +kernel), rfl⟩⟩
theorem imX9_between : xIn (.instanceMethod yX9_between) := ⟨List.mem_of_getElem? (i := 2096) (by decide +kernel), rfl⟩
theorem seX9_between : xIn (.selects RX9 yX9_between yX9_between) := ⟨List.mem_of_getElem? (i := 2097) (by decide +kernel), rfl⟩
theorem okX9_noArrow : xIn (.code yX9_noArrow cX9_noArrow 2 (some .boolean)) ∧ xIn (.initialized RX9) := ⟨⟨List.mem_of_getElem? (i := 2106) (by decide +kernel), rfl⟩, ⟨List.mem_of_getElem? (i := 100) (by decide +kernel), rfl⟩⟩
theorem imX9_noArrow : xIn (.instanceMethod yX9_noArrow) := ⟨List.mem_of_getElem? (i := 2105) (by decide +kernel), rfl⟩
theorem seX9_noArrow : xIn (.selects RX9 yX9_noArrow yX9_noArrow) := ⟨List.mem_of_getElem? (i := 72) (by decide +kernel), rfl⟩
theorem okX9_topOf : xIn (.code yX9_topOf cX9_topOf 3 (some .int)) ∧ xIn (.initialized RX9) := ⟨⟨List.mem_of_getElem? (i := 2118) (by decide +kernel), rfl⟩, ⟨List.mem_of_getElem? (i := 100) (by decide +kernel), rfl⟩⟩
theorem imX9_topOf : xIn (.instanceMethod yX9_topOf) := ⟨List.mem_of_getElem? (i := 2117) (by decide +kernel), rfl⟩
theorem seX9_topOf : xIn (.selects RX9 yX9_topOf yX9_topOf) := ⟨List.mem_of_getElem? (i := 74) (by decide +kernel), rfl⟩
theorem okX9_bottomOf : xIn (.code yX9_bottomOf cX9_bottomOf 3 (some .int)) ∧ xIn (.initialized RX9) := ⟨⟨List.mem_of_getElem? (i := 2130) (by decide +kernel), rfl⟩, ⟨List.mem_of_getElem? (i := 100) (by decide +kernel), rfl⟩⟩
theorem imX9_bottomOf : xIn (.instanceMethod yX9_bottomOf) := ⟨List.mem_of_getElem? (i := 2129) (by decide +kernel), rfl⟩
theorem seX9_bottomOf : xIn (.selects RX9 yX9_bottomOf yX9_bottomOf) := ⟨List.mem_of_getElem? (i := 76) (by decide +kernel), rfl⟩
theorem okX9_end : xIn (.code yX9_end cX9_end 3 (some .int)) ∧ xIn (.initialized RX9) := ⟨⟨List.mem_of_getElem? (i := 2102) (by decide +kernel), rfl⟩, ⟨List.mem_of_getElem? (i := 100) (by decide +kernel), rfl⟩⟩
theorem imX9_end : xIn (.instanceMethod yX9_end) := ⟨List.mem_of_getElem? (i := 2100) (by decide +kernel), rfl⟩
theorem seX9_end : xIn (.selects RX9 yX9_end yX9_end) := ⟨List.mem_of_getElem? (i := 2101) (by decide +kernel), rfl⟩
theorem okX9_noTop : xIn (.code yX9_noTop cX9_noTop 3 (some .boolean)) ∧ xIn (.initialized RX9) := ⟨⟨List.mem_of_getElem? (i := 2114) (by decide +kernel), rfl⟩, ⟨List.mem_of_getElem? (i := 100) (by decide +kernel), rfl⟩⟩
theorem imX9_noTop : xIn (.instanceMethod yX9_noTop) := ⟨List.mem_of_getElem? (i := 2113) (by decide +kernel), rfl⟩
theorem seX9_noTop : xIn (.selects RX9 yX9_noTop yX9_noTop) := ⟨List.mem_of_getElem? (i := 73) (by decide +kernel), rfl⟩
theorem okX9_noBottom : xIn (.code yX9_noBottom cX9_noBottom 3 (some .boolean)) ∧ xIn (.initialized RX9) := ⟨⟨List.mem_of_getElem? (i := 2126) (by decide +kernel), rfl⟩, ⟨List.mem_of_getElem? (i := 100) (by decide +kernel), rfl⟩⟩
theorem imX9_noBottom : xIn (.instanceMethod yX9_noBottom) := ⟨List.mem_of_getElem? (i := 2125) (by decide +kernel), rfl⟩
theorem seX9_noBottom : xIn (.selects RX9 yX9_noBottom yX9_noBottom) := ⟨List.mem_of_getElem? (i := 75) (by decide +kernel), rfl⟩
theorem okX9_top : xIn (.code yX9_top cX9_top 3 (some .int)) ∧ xIn (.initialized RX9) := ⟨⟨List.mem_of_getElem? (i := 2110) (by decide +kernel), rfl⟩, ⟨List.mem_of_getElem? (i := 100) (by decide +kernel), rfl⟩⟩
theorem imX9_top : xIn (.instanceMethod yX9_top) := ⟨List.mem_of_getElem? (i := 2108) (by decide +kernel), rfl⟩
theorem seX9_top : xIn (.selects RX9 yX9_top yX9_top) := ⟨List.mem_of_getElem? (i := 2109) (by decide +kernel), rfl⟩
theorem okX9_bottom : xIn (.code yX9_bottom cX9_bottom 3 (some .int)) ∧ xIn (.initialized RX9) := ⟨⟨List.mem_of_getElem? (i := 2122) (by decide +kernel), rfl⟩, ⟨List.mem_of_getElem? (i := 100) (by decide +kernel), rfl⟩⟩
theorem imX9_bottom : xIn (.instanceMethod yX9_bottom) := ⟨List.mem_of_getElem? (i := 2120) (by decide +kernel), rfl⟩
theorem seX9_bottom : xIn (.selects RX9 yX9_bottom yX9_bottom) := ⟨List.mem_of_getElem? (i := 2121) (by decide +kernel), rfl⟩
theorem okX9_breaksTops : xIn (.code yX9_breaksTops cX9_breaksTops 6 (some .boolean)) ∧ xIn (.initialized RX9) := ⟨⟨List.mem_of_getElem? (i := 2142) (by decide +kernel), rfl⟩, ⟨List.mem_of_getElem? (i := 100) (by decide +kernel), rfl⟩⟩
theorem imX9_breaksTops : xIn (.instanceMethod yX9_breaksTops) := ⟨List.mem_of_getElem? (i := 2141) (by decide +kernel), rfl⟩
theorem seX9_breaksTops : xIn (.selects RX9 yX9_breaksTops yX9_breaksTops) := ⟨List.mem_of_getElem? (i := 78) (by decide +kernel), rfl⟩
theorem okX9_breaksBottoms : xIn (.code yX9_breaksBottoms cX9_breaksBottoms 6 (some .boolean)) ∧ xIn (.initialized RX9) := ⟨⟨List.mem_of_getElem? (i := 2146) (by decide +kernel), rfl⟩, ⟨List.mem_of_getElem? (i := 100) (by decide +kernel), rfl⟩⟩
theorem imX9_breaksBottoms : xIn (.instanceMethod yX9_breaksBottoms) := ⟨List.mem_of_getElem? (i := 2145) (by decide +kernel), rfl⟩
theorem seX9_breaksBottoms : xIn (.selects RX9 yX9_breaksBottoms yX9_breaksBottoms) := ⟨List.mem_of_getElem? (i := 79) (by decide +kernel), rfl⟩
theorem okX9_breaksSquare : xIn (.code yX9_breaksSquare cX9_breaksSquare 3 (some .boolean)) ∧ xIn (.initialized RX9) := ⟨⟨List.mem_of_getElem? (i := 2150) (by decide +kernel), rfl⟩, ⟨List.mem_of_getElem? (i := 100) (by decide +kernel), rfl⟩⟩
theorem imX9_breaksSquare : xIn (.instanceMethod yX9_breaksSquare) := ⟨List.mem_of_getElem? (i := 2149) (by decide +kernel), rfl⟩
theorem seX9_breaksSquare : xIn (.selects RX9 yX9_breaksSquare yX9_breaksSquare) := ⟨List.mem_of_getElem? (i := 80) (by decide +kernel), rfl⟩
theorem okX9_breaksOn : xIn (.code yX9_breaksOn cX9_breaksOn 4 (some .boolean)) ∧ xIn (.initialized RX9) := ⟨⟨List.mem_of_getElem? (i := 2154) (by decide +kernel), rfl⟩, ⟨List.mem_of_getElem? (i := 100) (by decide +kernel), rfl⟩⟩
theorem imX9_breaksOn : xIn (.instanceMethod yX9_breaksOn) := ⟨List.mem_of_getElem? (i := 2153) (by decide +kernel), rfl⟩
theorem seX9_breaksOn : xIn (.selects RX9 yX9_breaksOn yX9_breaksOn) := ⟨List.mem_of_getElem? (i := 81) (by decide +kernel), rfl⟩
theorem okX9_whyArrow : xIn (.code yX9_whyArrow cX9_whyArrow 2 (some .int)) ∧ xIn (.initialized RX9) := ⟨⟨List.mem_of_getElem? (i := 2138) (by decide +kernel), rfl⟩, ⟨List.mem_of_getElem? (i := 100) (by decide +kernel), rfl⟩⟩
theorem imX9_whyArrow : xIn (.instanceMethod yX9_whyArrow) := ⟨List.mem_of_getElem? (i := 2137) (by decide +kernel), rfl⟩
theorem seX9_whyArrow : xIn (.selects RX9 yX9_whyArrow yX9_whyArrow) := ⟨List.mem_of_getElem? (i := 77) (by decide +kernel), rfl⟩
theorem okX9_arrowWhy : xIn (.code yX9_arrowWhy cX9_arrowWhy 2 (some .int)) ∧ xIn (.initialized RX9) := ⟨⟨List.mem_of_getElem? (i := 2134) (by decide +kernel), rfl⟩, ⟨List.mem_of_getElem? (i := 100) (by decide +kernel), rfl⟩⟩
theorem imX9_arrowWhy : xIn (.instanceMethod yX9_arrowWhy) := ⟨List.mem_of_getElem? (i := 2132) (by decide +kernel), rfl⟩
theorem seX9_arrowWhy : xIn (.selects RX9 yX9_arrowWhy yX9_arrowWhy) := ⟨List.mem_of_getElem? (i := 2133) (by decide +kernel), rfl⟩
theorem okX9_isEqual : xIn (.code yX9_isEqual cX9_isEqual 9 (some .boolean)) ∧ xIn (.initialized RX9) := ⟨⟨List.mem_of_getElem? (i := 2162) (by decide +kernel), rfl⟩, ⟨List.mem_of_getElem? (i := 100) (by decide +kernel), rfl⟩⟩
theorem imX9_isEqual : xIn (.instanceMethod yX9_isEqual) := ⟨List.mem_of_getElem? (i := 2161) (by decide +kernel), rfl⟩
theorem seX9_isEqual : xIn (.selects RX9 yX9_isEqual yX9_isEqual) := ⟨List.mem_of_getElem? (i := 82) (by decide +kernel), rfl⟩
theorem okX9_isEquivalence : xIn (.code yX9_isEquivalence cX9_isEquivalence 2 (some .boolean)) ∧ xIn (.initialized RX9) := ⟨⟨List.mem_of_getElem? (i := 2158) (by decide +kernel), rfl⟩, ⟨List.mem_of_getElem? (i := 100) (by decide +kernel), rfl⟩⟩
theorem imX9_isEquivalence : xIn (.instanceMethod yX9_isEquivalence) := ⟨List.mem_of_getElem? (i := 2156) (by decide +kernel), rfl⟩
theorem seX9_isEquivalence : xIn (.selects RX9 yX9_isEquivalence yX9_isEquivalence) := ⟨List.mem_of_getElem? (i := 2157) (by decide +kernel), rfl⟩
theorem okX9_allEqual : xIn (.code yX9_allEqual cX9_allEqual 3 (some .int)) ∧ xIn (.initialized RX9) := ⟨⟨List.mem_of_getElem? (i := 2173) (by decide +kernel), rfl⟩, ⟨List.mem_of_getElem? (i := 100) (by decide +kernel), rfl⟩⟩
theorem imX9_allEqual : xIn (.instanceMethod yX9_allEqual) := ⟨List.mem_of_getElem? (i := 2172) (by decide +kernel), rfl⟩
theorem seX9_allEqual : xIn (.selects RX9 yX9_allEqual yX9_allEqual) := ⟨List.mem_of_getElem? (i := 83) (by decide +kernel), rfl⟩
theorem okX9_equivalences : xIn (.code yX9_equivalences cX9_equivalences 1 (some .int)) ∧ xIn (.initialized RX9) := ⟨⟨List.mem_of_getElem? (i := 2169) (by decide +kernel), rfl⟩, ⟨List.mem_of_getElem? (i := 100) (by decide +kernel), rfl⟩⟩
theorem imX9_equivalences : xIn (.instanceMethod yX9_equivalences) := ⟨List.mem_of_getElem? (i := 2167) (by decide +kernel), rfl⟩
theorem seX9_equivalences : xIn (.selects RX9 yX9_equivalences yX9_equivalences) := ⟨List.mem_of_getElem? (i := 2168) (by decide +kernel), rfl⟩
theorem okX9_onward : xIn (.code yX9_onward cX9_onward 5 (some .int)) ∧ xIn (.initialized RX9) := ⟨⟨List.mem_of_getElem? (i := 2181) (by decide +kernel), rfl⟩, ⟨List.mem_of_getElem? (i := 100) (by decide +kernel), rfl⟩⟩
theorem imX9_onward : xIn (.instanceMethod yX9_onward) := ⟨List.mem_of_getElem? (i := 2180) (by decide +kernel), rfl⟩
theorem seX9_onward : xIn (.selects RX9 yX9_onward yX9_onward) := ⟨List.mem_of_getElem? (i := 84) (by decide +kernel), rfl⟩
theorem okX9_ladder : xIn (.code yX9_ladder cX9_ladder 6 (some .int)) ∧ xIn (.initialized RX9) := ⟨⟨List.mem_of_getElem? (i := 2177) (by decide +kernel), rfl⟩, ⟨List.mem_of_getElem? (i := 100) (by decide +kernel), rfl⟩⟩
theorem imX9_ladder : xIn (.instanceMethod yX9_ladder) := ⟨List.mem_of_getElem? (i := 2175) (by decide +kernel), rfl⟩
theorem seX9_ladder : xIn (.selects RX9 yX9_ladder yX9_ladder) := ⟨List.mem_of_getElem? (i := 2176) (by decide +kernel), rfl⟩
theorem okX9_joined : xIn (.code yX9_joined cX9_joined 5 (some .int)) ∧ xIn (.initialized RX9) := ⟨⟨List.mem_of_getElem? (i := 2185) (by decide +kernel), rfl⟩, ⟨List.mem_of_getElem? (i := 100) (by decide +kernel), rfl⟩⟩
theorem imX9_joined : xIn (.instanceMethod yX9_joined) := ⟨List.mem_of_getElem? (i := 2183) (by decide +kernel), rfl⟩
theorem seX9_joined : xIn (.selects RX9 yX9_joined yX9_joined) := ⟨List.mem_of_getElem? (i := 2184) (by decide +kernel), rfl⟩
theorem okX9_through : xIn (.code yX9_through cX9_through 4 (some .int)) ∧ xIn (.initialized RX9) := ⟨⟨List.mem_of_getElem? (i := 2189) (by decide +kernel), rfl⟩, ⟨List.mem_of_getElem? (i := 100) (by decide +kernel), rfl⟩⟩
theorem imX9_through : xIn (.instanceMethod yX9_through) := ⟨List.mem_of_getElem? (i := 2187) (by decide +kernel), rfl⟩
theorem seX9_through : xIn (.selects RX9 yX9_through yX9_through) := ⟨List.mem_of_getElem? (i := 2188) (by decide +kernel), rfl⟩
theorem okX9_account : xIn (.code yX9_account cX9_account 2 (some .int)) ∧ xIn (.initialized RX9) := ⟨⟨List.mem_of_getElem? (i := 2193) (by decide +kernel), rfl⟩, ⟨List.mem_of_getElem? (i := 100) (by decide +kernel), rfl⟩⟩
theorem imX9_account : xIn (.instanceMethod yX9_account) := ⟨List.mem_of_getElem? (i := 2191) (by decide +kernel), rfl⟩
theorem seX9_account : xIn (.selects RX9 yX9_account yX9_account) := ⟨List.mem_of_getElem? (i := 2192) (by decide +kernel), rfl⟩
theorem okX9_says : xIn (.code yX9_says cX9_says 2 none) ∧ xIn (.initialized RX9) := ⟨⟨List.mem_of_getElem? (i := 2201) (by decide +kernel), rfl⟩, ⟨List.mem_of_getElem? (i := 100) (by decide +kernel), rfl⟩⟩
theorem imX9_says : xIn (.instanceMethod yX9_says) := ⟨List.mem_of_getElem? (i := 2200) (by decide +kernel), rfl⟩
theorem seX9_says : xIn (.selects RX9 yX9_says yX9_says) := ⟨List.mem_of_getElem? (i := 85) (by decide +kernel), rfl⟩
theorem okX9_writeModule : xIn (.code yX9_writeModule cX9_writeModule 3 (some .int)) ∧ xIn (.initialized RX9) := ⟨⟨List.mem_of_getElem? (i := 2197) (by decide +kernel), rfl⟩, ⟨List.mem_of_getElem? (i := 100) (by decide +kernel), rfl⟩⟩
theorem imX9_writeModule : xIn (.instanceMethod yX9_writeModule) := ⟨List.mem_of_getElem? (i := 2195) (by decide +kernel), rfl⟩
theorem seX9_writeModule : xIn (.selects RX9 yX9_writeModule yX9_writeModule) := ⟨List.mem_of_getElem? (i := 2196) (by decide +kernel), rfl⟩
theorem okX9_writeTable : xIn (.code yX9_writeTable cX9_writeTable 4 (some .int)) ∧ xIn (.initialized RX9) := ⟨⟨List.mem_of_getElem? (i := 2205) (by decide +kernel), rfl⟩, ⟨List.mem_of_getElem? (i := 100) (by decide +kernel), rfl⟩⟩
theorem imX9_writeTable : xIn (.instanceMethod yX9_writeTable) := ⟨List.mem_of_getElem? (i := 2203) (by decide +kernel), rfl⟩
theorem seX9_writeTable : xIn (.selects RX9 yX9_writeTable yX9_writeTable) := ⟨List.mem_of_getElem? (i := 2204) (by decide +kernel), rfl⟩
theorem okX9_textByte : xIn (.code yX9_textByte cX9_textByte 2 (some .int)) ∧ xIn (.initialized RX9) := ⟨⟨List.mem_of_getElem? (i := 2209) (by decide +kernel), rfl⟩, ⟨List.mem_of_getElem? (i := 100) (by decide +kernel), rfl⟩⟩
theorem imX9_textByte : xIn (.instanceMethod yX9_textByte) := ⟨List.mem_of_getElem? (i := 2207) (by decide +kernel), rfl⟩
theorem seX9_textByte : xIn (.selects RX9 yX9_textByte yX9_textByte) := ⟨List.mem_of_getElem? (i := 2208) (by decide +kernel), rfl⟩
theorem okX9_keeps : xIn (.code yX9_keeps cX9_keeps 3 none) ∧ xIn (.initialized RX9) := ⟨⟨List.mem_of_getElem? (i := 2225) (by decide +kernel), rfl⟩, ⟨List.mem_of_getElem? (i := 100) (by decide +kernel), rfl⟩⟩
theorem imX9_keeps : xIn (.instanceMethod yX9_keeps) := ⟨List.mem_of_getElem? (i := 2224) (by decide +kernel), rfl⟩
theorem seX9_keeps : xIn (.selects RX9 yX9_keeps yX9_keeps) := ⟨List.mem_of_getElem? (i := 88) (by decide +kernel), rfl⟩
theorem okX9_fetches : xIn (.code yX9_fetches cX9_fetches 3 none) ∧ xIn (.initialized RX9) := ⟨⟨List.mem_of_getElem? (i := 2261) (by decide +kernel), rfl⟩, ⟨List.mem_of_getElem? (i := 100) (by decide +kernel), rfl⟩⟩
theorem imX9_fetches : xIn (.instanceMethod yX9_fetches) := ⟨List.mem_of_getElem? (i := 2260) (by decide +kernel), rfl⟩
theorem seX9_fetches : xIn (.selects RX9 yX9_fetches yX9_fetches) := ⟨List.mem_of_getElem? (i := 91) (by decide +kernel), rfl⟩
theorem okX9_begins : xIn (.code yX9_begins cX9_begins 2 none) ∧ xIn (.initialized RX9) := ⟨⟨List.mem_of_getElem? (i := 2221) (by decide +kernel), rfl⟩, ⟨List.mem_of_getElem? (i := 100) (by decide +kernel), rfl⟩⟩
theorem imX9_begins : xIn (.instanceMethod yX9_begins) := ⟨List.mem_of_getElem? (i := 2220) (by decide +kernel), rfl⟩
theorem seX9_begins : xIn (.selects RX9 yX9_begins yX9_begins) := ⟨List.mem_of_getElem? (i := 87) (by decide +kernel), rfl⟩
theorem okX9_touches : xIn (.code yX9_touches cX9_touches 2 none) ∧ xIn (.initialized RX9) := ⟨⟨List.mem_of_getElem? (i := 2217) (by decide +kernel), rfl⟩, ⟨List.mem_of_getElem? (i := 100) (by decide +kernel), rfl⟩⟩
theorem imX9_touches : xIn (.instanceMethod yX9_touches) := ⟨List.mem_of_getElem? (i := 2216) (by decide +kernel), rfl⟩
theorem seX9_touches : xIn (.selects RX9 yX9_touches yX9_touches) := ⟨List.mem_of_getElem? (i := 86) (by decide +kernel), rfl⟩
theorem okX9_ends : xIn (.code yX9_ends cX9_ends 3 none) ∧ xIn (.initialized RX9) := ⟨⟨List.mem_of_getElem? (i := 2229) (by decide +kernel), rfl⟩, ⟨List.mem_of_getElem? (i := 100) (by decide +kernel), rfl⟩⟩
theorem imX9_ends : xIn (.instanceMethod yX9_ends) := ⟨List.mem_of_getElem? (i := 2228) (by decide +kernel), rfl⟩
theorem seX9_ends : xIn (.selects RX9 yX9_ends yX9_ends) := ⟨List.mem_of_getElem? (i := 89) (by decide +kernel), rfl⟩
theorem okX9_setBoundary : xIn (.code yX9_setBoundary cX9_setBoundary 5 (some .int)) ∧ xIn (.initialized RX9) := ⟨⟨List.mem_of_getElem? (i := 2213) (by decide +kernel), rfl⟩, ⟨List.mem_of_getElem? (i := 100) (by decide +kernel), rfl⟩⟩
theorem imX9_setBoundary : xIn (.instanceMethod yX9_setBoundary) := ⟨List.mem_of_getElem? (i := 2211) (by decide +kernel), rfl⟩
theorem seX9_setBoundary : xIn (.selects RX9 yX9_setBoundary yX9_setBoundary) := ⟨List.mem_of_getElem? (i := 2212) (by decide +kernel), rfl⟩
theorem okX9_setAct : xIn (.code yX9_setAct cX9_setAct 6 (some .int)) ∧ xIn (.initialized RX9) := ⟨⟨List.mem_of_getElem? (i := 2233) (by decide +kernel), rfl⟩, ⟨List.mem_of_getElem? (i := 100) (by decide +kernel), rfl⟩⟩
theorem imX9_setAct : xIn (.instanceMethod yX9_setAct) := ⟨List.mem_of_getElem? (i := 2231) (by decide +kernel), rfl⟩
theorem seX9_setAct : xIn (.selects RX9 yX9_setAct yX9_setAct) := ⟨List.mem_of_getElem? (i := 2232) (by decide +kernel), rfl⟩
theorem okX9_acts : xIn (.code yX9_acts cX9_acts 7 (some .int)) ∧ xIn (.initialized RX9) := ⟨⟨List.mem_of_getElem? (i := 2241) (by decide +kernel), rfl⟩, ⟨List.mem_of_getElem? (i := 100) (by decide +kernel), rfl⟩⟩
theorem imX9_acts : xIn (.instanceMethod yX9_acts) := ⟨List.mem_of_getElem? (i := 2240) (by decide +kernel), rfl⟩
theorem seX9_acts : xIn (.selects RX9 yX9_acts yX9_acts) := ⟨List.mem_of_getElem? (i := 90) (by decide +kernel), rfl⟩
theorem okX9_rest : xIn (.code yX9_rest cX9_rest 2 (some .int)) ∧ xIn (.initialized RX9) := ⟨⟨List.mem_of_getElem? (i := 2237) (by decide +kernel), rfl⟩, ⟨List.mem_of_getElem? (i := 100) (by decide +kernel), rfl⟩⟩
theorem imX9_rest : xIn (.instanceMethod yX9_rest) := ⟨List.mem_of_getElem? (i := 2235) (by decide +kernel), rfl⟩
theorem seX9_rest : xIn (.selects RX9 yX9_rest yX9_rest) := ⟨List.mem_of_getElem? (i := 2236) (by decide +kernel), rfl⟩
theorem okX9_conjugate : xIn (.code yX9_conjugate cX9_conjugate 2 (some .int)) ∧ xIn (.initialized RX9) := ⟨⟨List.mem_of_getElem? (i := 2245) (by decide +kernel), rfl⟩, ⟨List.mem_of_getElem? (i := 100) (by decide +kernel), rfl⟩⟩
theorem imX9_conjugate : xIn (.instanceMethod yX9_conjugate) := ⟨List.mem_of_getElem? (i := 2243) (by decide +kernel), rfl⟩
theorem seX9_conjugate : xIn (.selects RX9 yX9_conjugate yX9_conjugate) := ⟨List.mem_of_getElem? (i := 2244) (by decide +kernel), rfl⟩
theorem okX9_setTop : xIn (.code yX9_setTop cX9_setTop 5 (some .int)) ∧ xIn (.initialized RX9) := ⟨⟨List.mem_of_getElem? (i := 2249) (by decide +kernel), rfl⟩, ⟨List.mem_of_getElem? (i := 100) (by decide +kernel), rfl⟩⟩
theorem imX9_setTop : xIn (.instanceMethod yX9_setTop) := ⟨List.mem_of_getElem? (i := 2247) (by decide +kernel), rfl⟩
theorem seX9_setTop : xIn (.selects RX9 yX9_setTop yX9_setTop) := ⟨List.mem_of_getElem? (i := 2248) (by decide +kernel), rfl⟩
theorem okX9_setBottom : xIn (.code yX9_setBottom cX9_setBottom 5 (some .int)) ∧ xIn (.initialized RX9) := ⟨⟨List.mem_of_getElem? (i := 2253) (by decide +kernel), rfl⟩, ⟨List.mem_of_getElem? (i := 100) (by decide +kernel), rfl⟩⟩
theorem imX9_setBottom : xIn (.instanceMethod yX9_setBottom) := ⟨List.mem_of_getElem? (i := 2251) (by decide +kernel), rfl⟩
theorem seX9_setBottom : xIn (.selects RX9 yX9_setBottom yX9_setBottom) := ⟨List.mem_of_getElem? (i := 2252) (by decide +kernel), rfl⟩
theorem okX9_undo : xIn (.code yX9_undo cX9_undo 1 (some .int)) ∧ xIn (.initialized RX9) := ⟨⟨List.mem_of_getElem? (i := 2257) (by decide +kernel), rfl⟩, ⟨List.mem_of_getElem? (i := 100) (by decide +kernel), rfl⟩⟩
theorem imX9_undo : xIn (.instanceMethod yX9_undo) := ⟨List.mem_of_getElem? (i := 2255) (by decide +kernel), rfl⟩
theorem seX9_undo : xIn (.selects RX9 yX9_undo yX9_undo) := ⟨List.mem_of_getElem? (i := 2256) (by decide +kernel), rfl⟩
theorem okX9_undoable : xIn (.code yX9_undoable cX9_undoable 1 (some .int)) ∧ xIn (.initialized RX9) := ⟨⟨List.mem_of_getElem? (i := 2265) (by decide +kernel), rfl⟩, ⟨List.mem_of_getElem? (i := 100) (by decide +kernel), rfl⟩⟩
theorem imX9_undoable : xIn (.instanceMethod yX9_undoable) := ⟨List.mem_of_getElem? (i := 2263) (by decide +kernel), rfl⟩
theorem seX9_undoable : xIn (.selects RX9 yX9_undoable yX9_undoable) := ⟨List.mem_of_getElem? (i := 2264) (by decide +kernel), rfl⟩
theorem okX9_save : xIn (.code yX9_save cX9_save 2 (some .int)) ∧ xIn (.initialized RX9) := ⟨⟨List.mem_of_getElem? (i := 2269) (by decide +kernel), rfl⟩, ⟨List.mem_of_getElem? (i := 100) (by decide +kernel), rfl⟩⟩
theorem imX9_save : xIn (.instanceMethod yX9_save) := ⟨List.mem_of_getElem? (i := 2267) (by decide +kernel), rfl⟩
theorem seX9_save : xIn (.selects RX9 yX9_save yX9_save) := ⟨List.mem_of_getElem? (i := 2268) (by decide +kernel), rfl⟩
theorem okX9_restore : xIn (.code yX9_restore cX9_restore 2 (some .int)) ∧ xIn (.initialized RX9) := ⟨⟨List.mem_of_getElem? (i := 2273) (by decide +kernel), rfl⟩, ⟨List.mem_of_getElem? (i := 100) (by decide +kernel), rfl⟩⟩
theorem imX9_restore : xIn (.instanceMethod yX9_restore) := ⟨List.mem_of_getElem? (i := 2271) (by decide +kernel), rfl⟩
theorem seX9_restore : xIn (.selects RX9 yX9_restore yX9_restore) := ⟨List.mem_of_getElem? (i := 2272) (by decide +kernel), rfl⟩
theorem okJ6_bitCount_0f7a4 : xIn (.code yJ6_bitCount_0f7a4 cJ6_bitCount_0f7a4 1 (some .int)) ∧ xIn (.initialized RJ6) := ⟨⟨List.mem_of_getElem? (i := 1323) (by decide +kernel), rfl⟩, ⟨List.mem_of_getElem? (i := 115) (by decide +kernel), rfl⟩⟩
theorem stJ6_bitCount_0f7a4 : xIn (.static yJ6_bitCount_0f7a4) := ⟨List.mem_of_getElem? (i := 1322) (by decide +kernel), rfl⟩
theorem okJ9_floorDiv_7cf53 : xIn (.code yJ9_floorDiv_7cf53 cJ9_floorDiv_7cf53 3 (some .int)) ∧ xIn (.initialized RJ9) := ⟨⟨List.mem_of_getElem? (i := 706) (by decide +kernel), rfl⟩, ⟨List.mem_of_getElem? (i := 112) (by decide +kernel), rfl⟩⟩
theorem stJ9_floorDiv_7cf53 : xIn (.static yJ9_floorDiv_7cf53) := ⟨List.mem_of_getElem? (i := 705) (by decide +kernel), rfl⟩
theorem okJ9_floorMod_7cf53 : xIn (.code yJ9_floorMod_7cf53 cJ9_floorMod_7cf53 3 (some .int)) ∧ xIn (.initialized RJ9) := ⟨⟨List.mem_of_getElem? (i := 661) (by decide +kernel), rfl⟩, ⟨List.mem_of_getElem? (i := 112) (by decide +kernel), rfl⟩⟩
theorem stJ9_floorMod_7cf53 : xIn (.static yJ9_floorMod_7cf53) := ⟨List.mem_of_getElem? (i := 660) (by decide +kernel), rfl⟩
theorem okJ0_length_8abf5 : xIn (.code yJ0_length_8abf5 cJ0_length_8abf5 1 (some .int)) ∧ xIn (.initialized RJ0) := ⟨⟨List.mem_of_getElem? (i := 568) (by decide +kernel), rfl⟩, ⟨List.mem_of_getElem? (i := 108) (by decide +kernel), rfl⟩⟩
theorem imJ0_length_8abf5 : xIn (.instanceMethod yJ0_length_8abf5) := ⟨List.mem_of_getElem? (i := 566) (by decide +kernel), rfl⟩
theorem seJ0_length_8abf5 : xIn (.selects RJ0 yJ0_length_8abf5 yJ0_length_8abf5) := ⟨List.mem_of_getElem? (i := 567) (by decide +kernel), rfl⟩
theorem okJ0_charAt_5068e : xIn (.code yJ0_charAt_5068e cJ0_charAt_5068e 2 (some .char)) ∧ xIn (.initialized RJ0) := ⟨⟨List.mem_of_getElem? (i := 578) (by decide +kernel), rfl⟩, ⟨List.mem_of_getElem? (i := 108) (by decide +kernel), rfl⟩⟩
theorem imJ0_charAt_5068e : xIn (.instanceMethod yJ0_charAt_5068e) := ⟨List.mem_of_getElem? (i := 576) (by decide +kernel), rfl⟩
theorem seJ0_charAt_5068e : xIn (.selects RJ0 yJ0_charAt_5068e yJ0_charAt_5068e) := ⟨List.mem_of_getElem? (i := 577) (by decide +kernel), rfl⟩
theorem okJ0_coder_7d493 : xIn (.code yJ0_coder_7d493 cJ0_coder_7d493 1 (some .byte)) ∧ xIn (.initialized RJ0) := ⟨⟨List.mem_of_getElem? (i := 572) (by decide +kernel), rfl⟩, ⟨List.mem_of_getElem? (i := 108) (by decide +kernel), rfl⟩⟩
theorem imJ0_coder_7d493 : xIn (.instanceMethod yJ0_coder_7d493) := ⟨List.mem_of_getElem? (i := 570) (by decide +kernel), rfl⟩
theorem seJ0_coder_7d493 : xIn (.selects RJ0 yJ0_coder_7d493 yJ0_coder_7d493) := ⟨List.mem_of_getElem? (i := 571) (by decide +kernel), rfl⟩
theorem okJ0_isLatin1_aae02 : xIn (.code yJ0_isLatin1_aae02 cJ0_isLatin1_aae02 1 (some .boolean)) ∧ xIn (.initialized RJ0) := ⟨⟨List.mem_of_getElem? (i := 582) (by decide +kernel), rfl⟩, ⟨List.mem_of_getElem? (i := 108) (by decide +kernel), rfl⟩⟩
theorem imJ0_isLatin1_aae02 : xIn (.instanceMethod yJ0_isLatin1_aae02) := ⟨List.mem_of_getElem? (i := 580) (by decide +kernel), rfl⟩
theorem seJ0_isLatin1_aae02 : xIn (.selects RJ0 yJ0_isLatin1_aae02 yJ0_isLatin1_aae02) := ⟨List.mem_of_getElem? (i := 581) (by decide +kernel), rfl⟩
theorem okJ0_checkIndex_df160 : xIn (.code yJ0_checkIndex_df160 cJ0_checkIndex_df160 2 none) ∧ xIn (.initialized RJ0) := ⟨⟨List.mem_of_getElem? (i := 588) (by decide +kernel), rfl⟩, ⟨List.mem_of_getElem? (i := 108) (by decide +kernel), rfl⟩⟩
theorem stJ0_checkIndex_df160 : xIn (.static yJ0_checkIndex_df160) := ⟨List.mem_of_getElem? (i := 587) (by decide +kernel), rfl⟩
theorem okJ1_charAt_3b067 : xIn (.code yJ1_charAt_3b067 cJ1_charAt_3b067 2 (some .char)) ∧ xIn (.initialized RJ1) := ⟨⟨List.mem_of_getElem? (i := 585) (by decide +kernel), rfl⟩, ⟨List.mem_of_getElem? (i := 109) (by decide +kernel), rfl⟩⟩
theorem stJ1_charAt_3b067 : xIn (.static yJ1_charAt_3b067) := ⟨List.mem_of_getElem? (i := 584) (by decide +kernel), rfl⟩
theorem okJ2_getChar_3b067 : xIn (.code yJ2_getChar_3b067 cJ2_getChar_3b067 2 (some .char)) ∧ xIn (.initialized RJ2) := ⟨⟨List.mem_of_getElem? (i := 606) (by decide +kernel), rfl⟩, ⟨List.mem_of_getElem? (i := 111) (by decide +kernel), rfl⟩⟩
theorem stJ2_getChar_3b067 : xIn (.static yJ2_getChar_3b067) := ⟨List.mem_of_getElem? (i := 605) (by decide +kernel), rfl⟩
theorem okJ2_length_9d52b : xIn (.code yJ2_length_9d52b cJ2_length_9d52b 1 (some .int)) ∧ xIn (.initialized RJ2) := ⟨⟨List.mem_of_getElem? (i := 602) (by decide +kernel), rfl⟩, ⟨List.mem_of_getElem? (i := 111) (by decide +kernel), rfl⟩⟩
theorem stJ2_length_9d52b : xIn (.static yJ2_length_9d52b) := ⟨List.mem_of_getElem? (i := 601) (by decide +kernel), rfl⟩
theorem okJ2_charAt_3b067 : xIn (.code yJ2_charAt_3b067 cJ2_charAt_3b067 2 (some .char)) ∧ xIn (.initialized RJ2) := ⟨⟨List.mem_of_getElem? (i := 596) (by decide +kernel), rfl⟩, ⟨List.mem_of_getElem? (i := 111) (by decide +kernel), rfl⟩⟩
theorem stJ2_charAt_3b067 : xIn (.static yJ2_charAt_3b067) := ⟨List.mem_of_getElem? (i := 595) (by decide +kernel), rfl⟩
theorem okJ2_checkIndex_2214a : xIn (.code yJ2_checkIndex_2214a cJ2_checkIndex_2214a 2 none) ∧ xIn (.initialized RJ2) := ⟨⟨List.mem_of_getElem? (i := 599) (by decide +kernel), rfl⟩, ⟨List.mem_of_getElem? (i := 111) (by decide +kernel), rfl⟩⟩
theorem stJ2_checkIndex_2214a : xIn (.static yJ2_checkIndex_2214a) := ⟨List.mem_of_getElem? (i := 598) (by decide +kernel), rfl⟩
theorem okJ7_fill_53178 : xIn (.code yJ7_fill_53178 cJ7_fill_53178 4 none) ∧ xIn (.initialized RJ7) := ⟨⟨List.mem_of_getElem? (i := 478) (by decide +kernel), rfl⟩, ⟨List.mem_of_getElem? (i := 105) (by decide +kernel), rfl⟩⟩
theorem stJ7_fill_53178 : xIn (.static yJ7_fill_53178) := ⟨List.mem_of_getElem? (i := 477) (by decide +kernel), rfl⟩
theorem okJ3_checkIndex_8e157 : xIn (.code yJ3_checkIndex_8e157 cJ3_checkIndex_8e157 3 (some .int)) ∧ xIn (.initialized RJ3) := ⟨⟨List.mem_of_getElem? (i := 593) (by decide +kernel), rfl⟩, ⟨List.mem_of_getElem? (i := 110) (by decide +kernel), rfl⟩⟩
theorem stJ3_checkIndex_8e157 : xIn (.static yJ3_checkIndex_8e157) := ⟨List.mem_of_getElem? (i := 592) (by decide +kernel), rfl⟩
theorem okL_load : xIn (.codeWith yL_load cL_load 4 (some .int) [(0, 9, 12, 13), (0, 9, 15, 15)]) ∧ xIn (.initialized RL) := ⟨⟨List.mem_of_getElem? (i := 395) (by decide +kernel), rfl⟩, ⟨List.mem_of_getElem? (i := 92) (by decide +kernel), rfl⟩⟩
theorem stL_load : xIn (.static yL_load) := ⟨List.mem_of_getElem? (i := 394) (by decide +kernel), rfl⟩
theorem okL_count : xIn (.codeWith yL_count cL_count 4 (some .int) [(0, 9, 12, 20), (0, 9, 15, 15)]) ∧ xIn (.initialized RL) := ⟨⟨List.mem_of_getElem? (i := 823) (by decide +kernel), rfl⟩, ⟨List.mem_of_getElem? (i := 92) (by decide +kernel), rfl⟩⟩
theorem stL_count : xIn (.static yL_count) := ⟨List.mem_of_getElem? (i := 822) (by decide +kernel), rfl⟩
theorem okL_letter : xIn (.codeWith yL_letter cL_letter 6 (some .int) [(0, 12, 15, 20), (0, 12, 19, 13), (0, 12, 23, 15)]) ∧ xIn (.initialized RL) := ⟨⟨List.mem_of_getElem? (i := 855) (by decide +kernel), rfl⟩, ⟨List.mem_of_getElem? (i := 92) (by decide +kernel), rfl⟩⟩
theorem stL_letter : xIn (.static yL_letter) := ⟨List.mem_of_getElem? (i := 854) (by decide +kernel), rfl⟩
theorem okL_size : xIn (.codeWith yL_size cL_size 4 (some .int) [(0, 9, 12, 20), (0, 9, 15, 13)]) ∧ xIn (.initialized RL) := ⟨⟨List.mem_of_getElem? (i := 878) (by decide +kernel), rfl⟩, ⟨List.mem_of_getElem? (i := 92) (by decide +kernel), rfl⟩⟩
theorem stL_size : xIn (.static yL_size) := ⟨List.mem_of_getElem? (i := 877) (by decide +kernel), rfl⟩
theorem okL_times : xIn (.codeWith yL_times cL_times 6 (some .int) [(0, 12, 15, 20), (0, 12, 19, 13)]) ∧ xIn (.initialized RL) := ⟨⟨List.mem_of_getElem? (i := 889) (by decide +kernel), rfl⟩, ⟨List.mem_of_getElem? (i := 92) (by decide +kernel), rfl⟩⟩
theorem stL_times : xIn (.static yL_times) := ⟨List.mem_of_getElem? (i := 888) (by decide +kernel), rfl⟩
theorem okL_inverse : xIn (.codeWith yL_inverse cL_inverse 5 (some .int) [(0, 10, 13, 20), (0, 10, 17, 13)]) ∧ xIn (.initialized RL) := ⟨⟨List.mem_of_getElem? (i := 901) (by decide +kernel), rfl⟩, ⟨List.mem_of_getElem? (i := 92) (by decide +kernel), rfl⟩⟩
theorem stL_inverse : xIn (.static yL_inverse) := ⟨List.mem_of_getElem? (i := 900) (by decide +kernel), rfl⟩
theorem okL_orderOf : xIn (.codeWith yL_orderOf cL_orderOf 5 (some .int) [(0, 10, 13, 20), (0, 10, 17, 13)]) ∧ xIn (.initialized RL) := ⟨⟨List.mem_of_getElem? (i := 909) (by decide +kernel), rfl⟩, ⟨List.mem_of_getElem? (i := 92) (by decide +kernel), rfl⟩⟩
theorem stL_orderOf : xIn (.static yL_orderOf) := ⟨List.mem_of_getElem? (i := 908) (by decide +kernel), rfl⟩
theorem okL_centre : xIn (.codeWith yL_centre cL_centre 4 (some .int) [(0, 9, 12, 20), (0, 9, 15, 13)]) ∧ xIn (.initialized RL) := ⟨⟨List.mem_of_getElem? (i := 920) (by decide +kernel), rfl⟩, ⟨List.mem_of_getElem? (i := 92) (by decide +kernel), rfl⟩⟩
theorem stL_centre : xIn (.static yL_centre) := ⟨List.mem_of_getElem? (i := 919) (by decide +kernel), rfl⟩
theorem okL_conjugacy : xIn (.codeWith yL_conjugacy cL_conjugacy 4 (some .int) [(0, 9, 12, 20), (0, 9, 15, 13)]) ∧ xIn (.initialized RL) := ⟨⟨List.mem_of_getElem? (i := 931) (by decide +kernel), rfl⟩, ⟨List.mem_of_getElem? (i := 92) (by decide +kernel), rfl⟩⟩
theorem stL_conjugacy : xIn (.static yL_conjugacy) := ⟨List.mem_of_getElem? (i := 930) (by decide +kernel), rfl⟩
theorem okL_generated : xIn (.codeWith yL_generated cL_generated 5 (some .int) [(0, 10, 13, 20), (0, 10, 17, 13), (0, 10, 21, 15)]) ∧ xIn (.initialized RL) := ⟨⟨List.mem_of_getElem? (i := 948) (by decide +kernel), rfl⟩, ⟨List.mem_of_getElem? (i := 92) (by decide +kernel), rfl⟩⟩
theorem stL_generated : xIn (.static yL_generated) := ⟨List.mem_of_getElem? (i := 947) (by decide +kernel), rfl⟩
theorem okL_normal : xIn (.codeWith yL_normal cL_normal 5 (some .int) [(0, 10, 13, 20), (0, 10, 17, 13), (0, 10, 21, 15)]) ∧ xIn (.initialized RL) := ⟨⟨List.mem_of_getElem? (i := 967) (by decide +kernel), rfl⟩, ⟨List.mem_of_getElem? (i := 92) (by decide +kernel), rfl⟩⟩
theorem stL_normal : xIn (.static yL_normal) := ⟨List.mem_of_getElem? (i := 966) (by decide +kernel), rfl⟩
theorem okL_groupOf : xIn (.codeWith yL_groupOf cL_groupOf 5 (some .int) [(0, 10, 13, 20), (0, 10, 17, 13)]) ∧ xIn (.initialized RL) := ⟨⟨List.mem_of_getElem? (i := 979) (by decide +kernel), rfl⟩, ⟨List.mem_of_getElem? (i := 92) (by decide +kernel), rfl⟩⟩
theorem stL_groupOf : xIn (.static yL_groupOf) := ⟨List.mem_of_getElem? (i := 978) (by decide +kernel), rfl⟩
theorem okL_boundary : xIn (.codeWith yL_boundary cL_boundary 5 (some .int) [(0, 10, 13, 20), (0, 10, 17, 13)]) ∧ xIn (.initialized RL) := ⟨⟨List.mem_of_getElem? (i := 990) (by decide +kernel), rfl⟩, ⟨List.mem_of_getElem? (i := 92) (by decide +kernel), rfl⟩⟩
theorem stL_boundary : xIn (.static yL_boundary) := ⟨List.mem_of_getElem? (i := 989) (by decide +kernel), rfl⟩
theorem okL_act : xIn (.codeWith yL_act cL_act 6 (some .int) [(0, 12, 15, 20), (0, 12, 19, 13)]) ∧ xIn (.initialized RL) := ⟨⟨List.mem_of_getElem? (i := 998) (by decide +kernel), rfl⟩, ⟨List.mem_of_getElem? (i := 92) (by decide +kernel), rfl⟩⟩
theorem stL_act : xIn (.static yL_act) := ⟨List.mem_of_getElem? (i := 997) (by decide +kernel), rfl⟩
theorem okL_why : xIn (.codeWith yL_why cL_why 4 (some .int) [(0, 9, 12, 20), (0, 9, 15, 13)]) ∧ xIn (.initialized RL) := ⟨⟨List.mem_of_getElem? (i := 1006) (by decide +kernel), rfl⟩, ⟨List.mem_of_getElem? (i := 92) (by decide +kernel), rfl⟩⟩
theorem stL_why : xIn (.static yL_why) := ⟨List.mem_of_getElem? (i := 1005) (by decide +kernel), rfl⟩
theorem okL_lawful : xIn (.codeWith yL_lawful cL_lawful 3 (some .int) [(0, 8, 11, 20)]) ∧ xIn (.initialized RL) := ⟨⟨List.mem_of_getElem? (i := 1013) (by decide +kernel), rfl⟩, ⟨List.mem_of_getElem? (i := 92) (by decide +kernel), rfl⟩⟩
theorem stL_lawful : xIn (.static yL_lawful) := ⟨List.mem_of_getElem? (i := 1012) (by decide +kernel), rfl⟩
theorem okL_kernel : xIn (.codeWith yL_kernel cL_kernel 4 (some .int) [(0, 9, 12, 20), (0, 9, 15, 13)]) ∧ xIn (.initialized RL) := ⟨⟨List.mem_of_getElem? (i := 1024) (by decide +kernel), rfl⟩, ⟨List.mem_of_getElem? (i := 92) (by decide +kernel), rfl⟩⟩
theorem stL_kernel : xIn (.static yL_kernel) := ⟨List.mem_of_getElem? (i := 1023) (by decide +kernel), rfl⟩
theorem okL_image : xIn (.codeWith yL_image cL_image 4 (some .int) [(0, 9, 12, 20), (0, 9, 15, 13)]) ∧ xIn (.initialized RL) := ⟨⟨List.mem_of_getElem? (i := 1035) (by decide +kernel), rfl⟩, ⟨List.mem_of_getElem? (i := 92) (by decide +kernel), rfl⟩⟩
theorem stL_image : xIn (.static yL_image) := ⟨List.mem_of_getElem? (i := 1034) (by decide +kernel), rfl⟩
theorem okL_isCentral : xIn (.codeWith yL_isCentral cL_isCentral 4 (some .int) [(0, 16, 19, 20), (0, 16, 22, 13)]) ∧ xIn (.initialized RL) := ⟨⟨List.mem_of_getElem? (i := 1046) (by decide +kernel), rfl⟩, ⟨List.mem_of_getElem? (i := 92) (by decide +kernel), rfl⟩⟩
theorem stL_isCentral : xIn (.static yL_isCentral) := ⟨List.mem_of_getElem? (i := 1045) (by decide +kernel), rfl⟩
theorem okL_fixed : xIn (.codeWith yL_fixed cL_fixed 5 (some .int) [(0, 10, 13, 20), (0, 10, 17, 13)]) ∧ xIn (.initialized RL) := ⟨⟨List.mem_of_getElem? (i := 1053) (by decide +kernel), rfl⟩, ⟨List.mem_of_getElem? (i := 92) (by decide +kernel), rfl⟩⟩
theorem stL_fixed : xIn (.static yL_fixed) := ⟨List.mem_of_getElem? (i := 1052) (by decide +kernel), rfl⟩
theorem okL_orbit : xIn (.codeWith yL_orbit cL_orbit 5 (some .int) [(0, 10, 13, 20), (0, 10, 17, 13)]) ∧ xIn (.initialized RL) := ⟨⟨List.mem_of_getElem? (i := 1064) (by decide +kernel), rfl⟩, ⟨List.mem_of_getElem? (i := 92) (by decide +kernel), rfl⟩⟩
theorem stL_orbit : xIn (.static yL_orbit) := ⟨List.mem_of_getElem? (i := 1063) (by decide +kernel), rfl⟩
theorem okL_classes : xIn (.codeWith yL_classes cL_classes 4 (some .int) [(0, 9, 12, 20), (0, 9, 15, 13), (0, 9, 18, 15)]) ∧ xIn (.initialized RL) := ⟨⟨List.mem_of_getElem? (i := 1075) (by decide +kernel), rfl⟩, ⟨List.mem_of_getElem? (i := 92) (by decide +kernel), rfl⟩⟩
theorem stL_classes : xIn (.static yL_classes) := ⟨List.mem_of_getElem? (i := 1074) (by decide +kernel), rfl⟩
theorem okL_classOf : xIn (.codeWith yL_classOf cL_classOf 5 (some .int) [(0, 10, 13, 20), (0, 10, 17, 13), (0, 10, 21, 15)]) ∧ xIn (.initialized RL) := ⟨⟨List.mem_of_getElem? (i := 1119) (by decide +kernel), rfl⟩, ⟨List.mem_of_getElem? (i := 92) (by decide +kernel), rfl⟩⟩
theorem stL_classOf : xIn (.static yL_classOf) := ⟨List.mem_of_getElem? (i := 1118) (by decide +kernel), rfl⟩
theorem okL_classTimes : xIn (.codeWith yL_classTimes cL_classTimes 6 (some .int) [(0, 12, 15, 20), (0, 12, 19, 13), (0, 12, 23, 15)]) ∧ xIn (.initialized RL) := ⟨⟨List.mem_of_getElem? (i := 1127) (by decide +kernel), rfl⟩, ⟨List.mem_of_getElem? (i := 92) (by decide +kernel), rfl⟩⟩
theorem stL_classTimes : xIn (.static yL_classTimes) := ⟨List.mem_of_getElem? (i := 1126) (by decide +kernel), rfl⟩
theorem okL_classAct : xIn (.codeWith yL_classAct cL_classAct 6 (some .int) [(0, 12, 15, 20), (0, 12, 19, 13), (0, 12, 23, 15)]) ∧ xIn (.initialized RL) := ⟨⟨List.mem_of_getElem? (i := 1139) (by decide +kernel), rfl⟩, ⟨List.mem_of_getElem? (i := 92) (by decide +kernel), rfl⟩⟩
theorem stL_classAct : xIn (.static yL_classAct) := ⟨List.mem_of_getElem? (i := 1138) (by decide +kernel), rfl⟩
theorem okL_profile : xIn (.codeWith yL_profile cL_profile 6 (some .int) [(0, 12, 15, 20), (0, 12, 19, 13), (0, 12, 23, 15)]) ∧ xIn (.initialized RL) := ⟨⟨List.mem_of_getElem? (i := 1150) (by decide +kernel), rfl⟩, ⟨List.mem_of_getElem? (i := 92) (by decide +kernel), rfl⟩⟩
theorem stL_profile : xIn (.static yL_profile) := ⟨List.mem_of_getElem? (i := 1149) (by decide +kernel), rfl⟩
theorem okL_areAlike : xIn (.codeWith yL_areAlike cL_areAlike 5 (some .int) [(0, 17, 20, 20), (0, 17, 24, 13), (0, 17, 28, 15)]) ∧ xIn (.initialized RL) := ⟨⟨List.mem_of_getElem? (i := 1158) (by decide +kernel), rfl⟩, ⟨List.mem_of_getElem? (i := 92) (by decide +kernel), rfl⟩⟩
theorem stL_areAlike : xIn (.static yL_areAlike) := ⟨List.mem_of_getElem? (i := 1157) (by decide +kernel), rfl⟩
theorem okL_kinds : xIn (.codeWith yL_kinds cL_kinds 3 (some .int) [(0, 8, 11, 20)]) ∧ xIn (.initialized RL) := ⟨⟨List.mem_of_getElem? (i := 1169) (by decide +kernel), rfl⟩, ⟨List.mem_of_getElem? (i := 92) (by decide +kernel), rfl⟩⟩
theorem stL_kinds : xIn (.static yL_kinds) := ⟨List.mem_of_getElem? (i := 1168) (by decide +kernel), rfl⟩
theorem okL_firstAlike : xIn (.codeWith yL_firstAlike cL_firstAlike 4 (some .int) [(0, 9, 12, 20), (0, 9, 15, 13), (0, 9, 18, 15)]) ∧ xIn (.initialized RL) := ⟨⟨List.mem_of_getElem? (i := 1182) (by decide +kernel), rfl⟩, ⟨List.mem_of_getElem? (i := 92) (by decide +kernel), rfl⟩⟩
theorem stL_firstAlike : xIn (.static yL_firstAlike) := ⟨List.mem_of_getElem? (i := 1181) (by decide +kernel), rfl⟩
theorem okL_largeTimes : xIn (.codeWith yL_largeTimes cL_largeTimes 6 (some .int) [(0, 12, 15, 20), (0, 12, 19, 13), (0, 12, 23, 15)]) ∧ xIn (.initialized RL) := ⟨⟨List.mem_of_getElem? (i := 1189) (by decide +kernel), rfl⟩, ⟨List.mem_of_getElem? (i := 92) (by decide +kernel), rfl⟩⟩
theorem stL_largeTimes : xIn (.static yL_largeTimes) := ⟨List.mem_of_getElem? (i := 1188) (by decide +kernel), rfl⟩
theorem okL_target : xIn (.codeWith yL_target cL_target 5 (some .int) [(0, 10, 13, 20), (0, 10, 17, 13), (0, 10, 21, 15)]) ∧ xIn (.initialized RL) := ⟨⟨List.mem_of_getElem? (i := 1212) (by decide +kernel), rfl⟩, ⟨List.mem_of_getElem? (i := 92) (by decide +kernel), rfl⟩⟩
theorem stL_target : xIn (.static yL_target) := ⟨List.mem_of_getElem? (i := 1211) (by decide +kernel), rfl⟩
theorem okL_largeOrder : xIn (.codeWith yL_largeOrder cL_largeOrder 5 (some .int) [(0, 10, 13, 20), (0, 10, 17, 13), (0, 10, 21, 15)]) ∧ xIn (.initialized RL) := ⟨⟨List.mem_of_getElem? (i := 1225) (by decide +kernel), rfl⟩, ⟨List.mem_of_getElem? (i := 92) (by decide +kernel), rfl⟩⟩
theorem stL_largeOrder : xIn (.static yL_largeOrder) := ⟨List.mem_of_getElem? (i := 1224) (by decide +kernel), rfl⟩
theorem okL_between : xIn (.codeWith yL_between cL_between 6 (some .int) [(0, 12, 15, 20), (0, 12, 19, 13), (0, 12, 23, 15)]) ∧ xIn (.initialized RL) := ⟨⟨List.mem_of_getElem? (i := 1237) (by decide +kernel), rfl⟩, ⟨List.mem_of_getElem? (i := 92) (by decide +kernel), rfl⟩⟩
theorem stL_between : xIn (.static yL_between) := ⟨List.mem_of_getElem? (i := 1236) (by decide +kernel), rfl⟩
theorem okL_end : xIn (.codeWith yL_end cL_end 5 (some .int) [(0, 10, 13, 20), (0, 10, 17, 13)]) ∧ xIn (.initialized RL) := ⟨⟨List.mem_of_getElem? (i := 1249) (by decide +kernel), rfl⟩, ⟨List.mem_of_getElem? (i := 92) (by decide +kernel), rfl⟩⟩
theorem stL_end : xIn (.static yL_end) := ⟨List.mem_of_getElem? (i := 1248) (by decide +kernel), rfl⟩
theorem okL_top : xIn (.codeWith yL_top cL_top 5 (some .int) [(0, 10, 13, 20), (0, 10, 17, 13)]) ∧ xIn (.initialized RL) := ⟨⟨List.mem_of_getElem? (i := 1260) (by decide +kernel), rfl⟩, ⟨List.mem_of_getElem? (i := 92) (by decide +kernel), rfl⟩⟩
theorem stL_top : xIn (.static yL_top) := ⟨List.mem_of_getElem? (i := 1259) (by decide +kernel), rfl⟩
theorem okL_bottom : xIn (.codeWith yL_bottom cL_bottom 5 (some .int) [(0, 10, 13, 20), (0, 10, 17, 13)]) ∧ xIn (.initialized RL) := ⟨⟨List.mem_of_getElem? (i := 1272) (by decide +kernel), rfl⟩, ⟨List.mem_of_getElem? (i := 92) (by decide +kernel), rfl⟩⟩
theorem stL_bottom : xIn (.static yL_bottom) := ⟨List.mem_of_getElem? (i := 1271) (by decide +kernel), rfl⟩
theorem okL_arrowWhy : xIn (.codeWith yL_arrowWhy cL_arrowWhy 4 (some .int) [(0, 9, 12, 20), (0, 9, 15, 13)]) ∧ xIn (.initialized RL) := ⟨⟨List.mem_of_getElem? (i := 1283) (by decide +kernel), rfl⟩, ⟨List.mem_of_getElem? (i := 92) (by decide +kernel), rfl⟩⟩
theorem stL_arrowWhy : xIn (.static yL_arrowWhy) := ⟨List.mem_of_getElem? (i := 1282) (by decide +kernel), rfl⟩
theorem okL_isEquivalence : xIn (.codeWith yL_isEquivalence cL_isEquivalence 4 (some .int) [(0, 16, 19, 20), (0, 16, 22, 13)]) ∧ xIn (.initialized RL) := ⟨⟨List.mem_of_getElem? (i := 1310) (by decide +kernel), rfl⟩, ⟨List.mem_of_getElem? (i := 92) (by decide +kernel), rfl⟩⟩
theorem stL_isEquivalence : xIn (.static yL_isEquivalence) := ⟨List.mem_of_getElem? (i := 1309) (by decide +kernel), rfl⟩
theorem okL_equivalences : xIn (.codeWith yL_equivalences cL_equivalences 3 (some .int) [(0, 8, 11, 20)]) ∧ xIn (.initialized RL) := ⟨⟨List.mem_of_getElem? (i := 1340) (by decide +kernel), rfl⟩, ⟨List.mem_of_getElem? (i := 92) (by decide +kernel), rfl⟩⟩
theorem stL_equivalences : xIn (.static yL_equivalences) := ⟨List.mem_of_getElem? (i := 1339) (by decide +kernel), rfl⟩
theorem okL_ladder : xIn (.codeWith yL_ladder cL_ladder 5 (some .int) [(0, 10, 13, 20), (0, 10, 17, 13)]) ∧ xIn (.initialized RL) := ⟨⟨List.mem_of_getElem? (i := 1352) (by decide +kernel), rfl⟩, ⟨List.mem_of_getElem? (i := 92) (by decide +kernel), rfl⟩⟩
theorem stL_ladder : xIn (.static yL_ladder) := ⟨List.mem_of_getElem? (i := 1351) (by decide +kernel), rfl⟩
theorem okL_joined : xIn (.codeWith yL_joined cL_joined 4 (some .int) [(0, 9, 12, 20), (0, 9, 15, 13)]) ∧ xIn (.initialized RL) := ⟨⟨List.mem_of_getElem? (i := 1368) (by decide +kernel), rfl⟩, ⟨List.mem_of_getElem? (i := 92) (by decide +kernel), rfl⟩⟩
theorem stL_joined : xIn (.static yL_joined) := ⟨List.mem_of_getElem? (i := 1367) (by decide +kernel), rfl⟩
theorem okL_through : xIn (.codeWith yL_through cL_through 6 (some .int) [(0, 12, 15, 20), (0, 12, 19, 13), (0, 12, 23, 15)]) ∧ xIn (.initialized RL) := ⟨⟨List.mem_of_getElem? (i := 1379) (by decide +kernel), rfl⟩, ⟨List.mem_of_getElem? (i := 92) (by decide +kernel), rfl⟩⟩
theorem stL_through : xIn (.static yL_through) := ⟨List.mem_of_getElem? (i := 1378) (by decide +kernel), rfl⟩
theorem okL_account : xIn (.codeWith yL_account cL_account 4 (some .int) [(0, 9, 12, 20), (0, 9, 15, 15)]) ∧ xIn (.initialized RL) := ⟨⟨List.mem_of_getElem? (i := 1386) (by decide +kernel), rfl⟩, ⟨List.mem_of_getElem? (i := 92) (by decide +kernel), rfl⟩⟩
theorem stL_account : xIn (.static yL_account) := ⟨List.mem_of_getElem? (i := 1385) (by decide +kernel), rfl⟩
theorem okL_writeModule : xIn (.codeWith yL_writeModule cL_writeModule 4 (some .int) [(0, 9, 12, 20), (0, 9, 15, 13)]) ∧ xIn (.initialized RL) := ⟨⟨List.mem_of_getElem? (i := 1393) (by decide +kernel), rfl⟩, ⟨List.mem_of_getElem? (i := 92) (by decide +kernel), rfl⟩⟩
theorem stL_writeModule : xIn (.static yL_writeModule) := ⟨List.mem_of_getElem? (i := 1392) (by decide +kernel), rfl⟩
theorem okL_writeTable : xIn (.codeWith yL_writeTable cL_writeTable 4 (some .int) [(0, 9, 12, 20), (0, 9, 15, 13)]) ∧ xIn (.initialized RL) := ⟨⟨List.mem_of_getElem? (i := 1404) (by decide +kernel), rfl⟩, ⟨List.mem_of_getElem? (i := 92) (by decide +kernel), rfl⟩⟩
theorem stL_writeTable : xIn (.static yL_writeTable) := ⟨List.mem_of_getElem? (i := 1403) (by decide +kernel), rfl⟩
theorem okL_textByte : xIn (.codeWith yL_textByte cL_textByte 4 (some .int) [(0, 9, 12, 13)]) ∧ xIn (.initialized RL) := ⟨⟨List.mem_of_getElem? (i := 1411) (by decide +kernel), rfl⟩, ⟨List.mem_of_getElem? (i := 92) (by decide +kernel), rfl⟩⟩
theorem stL_textByte : xIn (.static yL_textByte) := ⟨List.mem_of_getElem? (i := 1410) (by decide +kernel), rfl⟩
theorem okL_setBoundary : xIn (.codeWith yL_setBoundary cL_setBoundary 6 (some .int) [(0, 12, 15, 20), (0, 12, 19, 13)]) ∧ xIn (.initialized RL) := ⟨⟨List.mem_of_getElem? (i := 1418) (by decide +kernel), rfl⟩, ⟨List.mem_of_getElem? (i := 92) (by decide +kernel), rfl⟩⟩
theorem stL_setBoundary : xIn (.static yL_setBoundary) := ⟨List.mem_of_getElem? (i := 1417) (by decide +kernel), rfl⟩
theorem okL_setAct : xIn (.codeWith yL_setAct cL_setAct 7 (some .int) [(0, 14, 17, 20), (0, 14, 21, 13)]) ∧ xIn (.initialized RL) := ⟨⟨List.mem_of_getElem? (i := 1453) (by decide +kernel), rfl⟩, ⟨List.mem_of_getElem? (i := 92) (by decide +kernel), rfl⟩⟩
theorem stL_setAct : xIn (.static yL_setAct) := ⟨List.mem_of_getElem? (i := 1452) (by decide +kernel), rfl⟩
theorem okL_rest : xIn (.codeWith yL_rest cL_rest 4 (some .int) [(0, 9, 12, 20), (0, 9, 15, 13)]) ∧ xIn (.initialized RL) := ⟨⟨List.mem_of_getElem? (i := 1460) (by decide +kernel), rfl⟩, ⟨List.mem_of_getElem? (i := 92) (by decide +kernel), rfl⟩⟩
theorem stL_rest : xIn (.static yL_rest) := ⟨List.mem_of_getElem? (i := 1459) (by decide +kernel), rfl⟩
theorem okL_conjugate : xIn (.codeWith yL_conjugate cL_conjugate 4 (some .int) [(0, 9, 12, 20), (0, 9, 15, 13), (0, 9, 18, 15)]) ∧ xIn (.initialized RL) := ⟨⟨List.mem_of_getElem? (i := 1476) (by decide +kernel), rfl⟩, ⟨List.mem_of_getElem? (i := 92) (by decide +kernel), rfl⟩⟩
theorem stL_conjugate : xIn (.static yL_conjugate) := ⟨List.mem_of_getElem? (i := 1475) (by decide +kernel), rfl⟩
theorem okL_setTop : xIn (.codeWith yL_setTop cL_setTop 6 (some .int) [(0, 12, 15, 20), (0, 12, 19, 13)]) ∧ xIn (.initialized RL) := ⟨⟨List.mem_of_getElem? (i := 1487) (by decide +kernel), rfl⟩, ⟨List.mem_of_getElem? (i := 92) (by decide +kernel), rfl⟩⟩
theorem stL_setTop : xIn (.static yL_setTop) := ⟨List.mem_of_getElem? (i := 1486) (by decide +kernel), rfl⟩
theorem okL_setBottom : xIn (.codeWith yL_setBottom cL_setBottom 6 (some .int) [(0, 12, 15, 20), (0, 12, 19, 13)]) ∧ xIn (.initialized RL) := ⟨⟨List.mem_of_getElem? (i := 1494) (by decide +kernel), rfl⟩, ⟨List.mem_of_getElem? (i := 92) (by decide +kernel), rfl⟩⟩
theorem stL_setBottom : xIn (.static yL_setBottom) := ⟨List.mem_of_getElem? (i := 1493) (by decide +kernel), rfl⟩
theorem okL_undo : xIn (.codeWith yL_undo cL_undo 3 (some .int) [(0, 8, 11, 20)]) ∧ xIn (.initialized RL) := ⟨⟨List.mem_of_getElem? (i := 1501) (by decide +kernel), rfl⟩, ⟨List.mem_of_getElem? (i := 92) (by decide +kernel), rfl⟩⟩
theorem stL_undo : xIn (.static yL_undo) := ⟨List.mem_of_getElem? (i := 1500) (by decide +kernel), rfl⟩
theorem okL_save : xIn (.codeWith yL_save cL_save 4 (some .int) [(0, 9, 12, 20), (0, 9, 15, 13)]) ∧ xIn (.initialized RL) := ⟨⟨List.mem_of_getElem? (i := 1513) (by decide +kernel), rfl⟩, ⟨List.mem_of_getElem? (i := 92) (by decide +kernel), rfl⟩⟩
theorem stL_save : xIn (.static yL_save) := ⟨List.mem_of_getElem? (i := 1512) (by decide +kernel), rfl⟩
theorem okL_restore : xIn (.codeWith yL_restore cL_restore 4 (some .int) [(0, 9, 12, 13), (0, 9, 15, 20)]) ∧ xIn (.initialized RL) := ⟨⟨List.mem_of_getElem? (i := 1521) (by decide +kernel), rfl⟩, ⟨List.mem_of_getElem? (i := 92) (by decide +kernel), rfl⟩⟩
theorem stL_restore : xIn (.static yL_restore) := ⟨List.mem_of_getElem? (i := 1520) (by decide +kernel), rfl⟩
