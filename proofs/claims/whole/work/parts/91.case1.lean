/-! The law's cases 1. -/
set_option linter.unusedVariables false
section LC
variable {E : XG} {k u : Nat} {h : XH} {X Y O i : Nat} {Z : ZD} {x5 x6 : Option Value}
theorem calL_groupOf : xcalH mL_groupOf (0, 10, 13, 20) [(0, 10, 17, 13)] 4 := ⟨okL_groupOf.1, okL_groupOf.2, by decide +kernel, by decide +kernel, rfl⟩
theorem LC_15 (j : JJ h X Y O Z) (ha : i + 6 ≤ eN E) (hN : eN E < 2 ^ 31) (kk : ∀ h2 Z' y5 y6, JJ h2 X Y O Z' → XV E mL_law k u 4038 (Lw E X Y O i y5 y6) [] h2 QT) : XV E mL_law (3 + k) (17 + u) 1120 (Lw E X Y O i x5 x6) [] h QT := by
  refine V_aload_1 1120 dL_law_1120 ?_
  refine V_arg 1121 i 1 ha hN (by decide) (by decide) dL_law_1121 dL_law_1122 dL_law_1124 dL_law_1125 dL_law_1126 ?_
  refine V_arg 1127 i 2 ha hN (by decide) (by decide) dL_law_1127 dL_law_1128 dL_law_1130 dL_law_1131 dL_law_1132 ?_
  refine V_bool 1133 dL_law_1133 dL_law_1136 dL_law_1137 dL_law_1140 ?_
  refine V_aload_3 1141 dL_law_1141 ?_
  obtain ⟨r, h1, e1, kX, hO, hc, hM⟩ := JJ_call j (AGw_z (AGz_x j (ag_groupOf j (eX E (i + 1)) (if eX E (i + 2) = 0 then (0 : Int32) else 1))))
  refine V_less (k' := (0 + ek r) + k) (u' := (0 + es r) + u) (by have := ek_le r; omega) (by have := es_le r; omega) ?_
  refine V_callSH (k := k) (u := u) (k' := 0 + ek r) (u' := 0 + es r) 1142 (As := [.ref X, .int (eX E (i + 1)), .int (if eX E (i + 2) = 0 then (0 : Int32) else 1), .ref O]) calL_groupOf stL_groupOf mkL_251 rfl rfl rfl rfl rfl dL_law_1142 (CL_groupOf E X O (eX E (i + 1)) (if eX E (i + 2) = 0 then (0 : Int32) else 1) h e1 kX hO hc) (fun ec h3 q => LQ_no q) (fun v h3 q => ?_)
  obtain ⟨c, h', b, h2, Z', q0, m1, k1, j2, k2, t2, c2, v2⟩ := hM _ q
  cases q0
  refine V_istore_5 1145 dL_law_1145 rfl ?_
  refine V_aload_2 1147 dL_law_1147 ?_
  refine V_arg 1148 i 1 ha hN (by decide) (by decide) dL_law_1148 dL_law_1149 dL_law_1151 dL_law_1152 dL_law_1153 ?_
  refine V_arg 1154 i 2 ha hN (by decide) (by decide) dL_law_1154 dL_law_1155 dL_law_1157 dL_law_1158 dL_law_1159 ?_
  refine V_bool 1160 dL_law_1160 dL_law_1163 dL_law_1164 dL_law_1167 ?_
  exact V_tail (b := b) (args := [.int (eX E (i + 1)), .int (if eX E (i + 2) = 0 then (0 : Int32) else 1)]) 1168 calX9_groupOf imX9_groupOf seX9_groupOf mkL_254 rfl rfl rfl (CX9_groupOf E Y (eX E (i + 1)) (if eX E (i + 2) = 0 then (0 : Int32) else 1) _ (.inl b) h2 m1) k1 k2 j2.2.2.1 t2 c2 (fun q => (v2 q).1) dL_law_1168 dL_law_1171 dL_law_1173 dL_law_1174 dL_law_1177 dL_law_1179 dL_law_1184 dL_law_1186 dL_law_1189 dL_law_1190 dL_law_1191 dL_law_1192 dL_law_1194 dL_law_1195 dL_law_1196 dL_law_1201 (by decide) (kk h2 Z' _ _ j2)
theorem calL_boundary : xcalH mL_boundary (0, 10, 13, 20) [(0, 10, 17, 13)] 4 := ⟨okL_boundary.1, okL_boundary.2, by decide +kernel, by decide +kernel, rfl⟩
theorem LC_16 (j : JJ h X Y O Z) (ha : i + 6 ≤ eN E) (hN : eN E < 2 ^ 31) (kk : ∀ h2 Z' y5 y6, JJ h2 X Y O Z' → XV E mL_law k u 4038 (Lw E X Y O i y5 y6) [] h2 QT) : XV E mL_law (3 + k) (17 + u) 1204 (Lw E X Y O i x5 x6) [] h QT := by
  refine V_aload_1 1204 dL_law_1204 ?_
  refine V_arg 1205 i 1 ha hN (by decide) (by decide) dL_law_1205 dL_law_1206 dL_law_1208 dL_law_1209 dL_law_1210 ?_
  refine V_arg 1211 i 2 ha hN (by decide) (by decide) dL_law_1211 dL_law_1212 dL_law_1214 dL_law_1215 dL_law_1216 ?_
  refine V_aload_3 1217 dL_law_1217 ?_
  obtain ⟨r, h1, e1, kX, hO, hc, hM⟩ := JJ_call j (AGw_z (AGz_x j (ag_boundary j (eX E (i + 1)) (eX E (i + 2)))))
  refine V_less (k' := (0 + ek r) + k) (u' := (0 + es r) + u) (by have := ek_le r; omega) (by have := es_le r; omega) ?_
  refine V_callSH (k := k) (u := u) (k' := 0 + ek r) (u' := 0 + es r) 1218 (As := [.ref X, .int (eX E (i + 1)), .int (eX E (i + 2)), .ref O]) calL_boundary stL_boundary mkL_255 rfl rfl rfl rfl rfl dL_law_1218 (CL_boundary E X O (eX E (i + 1)) (eX E (i + 2)) h e1 kX hO hc) (fun ec h3 q => LQ_no q) (fun v h3 q => ?_)
  obtain ⟨c, h', b, h2, Z', q0, m1, k1, j2, k2, t2, c2, v2⟩ := hM _ q
  cases q0
  refine V_istore_5 1221 dL_law_1221 rfl ?_
  refine V_aload_2 1223 dL_law_1223 ?_
  refine V_arg 1224 i 1 ha hN (by decide) (by decide) dL_law_1224 dL_law_1225 dL_law_1227 dL_law_1228 dL_law_1229 ?_
  refine V_arg 1230 i 2 ha hN (by decide) (by decide) dL_law_1230 dL_law_1231 dL_law_1233 dL_law_1234 dL_law_1235 ?_
  exact V_tail (b := b) (args := [.int (eX E (i + 1)), .int (eX E (i + 2))]) 1236 calX9_boundary imX9_boundary seX9_boundary mkL_257 rfl rfl rfl (CX9_boundary E Y (eX E (i + 1)) (eX E (i + 2)) _ (.inl b) h2 m1) k1 k2 j2.2.2.1 t2 c2 (fun q => (v2 q).1) dL_law_1236 dL_law_1239 dL_law_1241 dL_law_1242 dL_law_1245 dL_law_1247 dL_law_1252 dL_law_1254 dL_law_1257 dL_law_1258 dL_law_1259 dL_law_1260 dL_law_1262 dL_law_1263 dL_law_1264 dL_law_1269 (by decide) (kk h2 Z' _ _ j2)
theorem calL_act : xcalH mL_act (0, 12, 15, 20) [(0, 12, 19, 13)] 5 := ⟨okL_act.1, okL_act.2, by decide +kernel, by decide +kernel, rfl⟩
theorem LC_17 (j : JJ h X Y O Z) (ha : i + 6 ≤ eN E) (hN : eN E < 2 ^ 31) (kk : ∀ h2 Z' y5 y6, JJ h2 X Y O Z' → XV E mL_law k u 4038 (Lw E X Y O i y5 y6) [] h2 QT) : XV E mL_law (3 + k) (17 + u) 1272 (Lw E X Y O i x5 x6) [] h QT := by
  refine V_aload_1 1272 dL_law_1272 ?_
  refine V_arg 1273 i 1 ha hN (by decide) (by decide) dL_law_1273 dL_law_1274 dL_law_1276 dL_law_1277 dL_law_1278 ?_
  refine V_arg 1279 i 2 ha hN (by decide) (by decide) dL_law_1279 dL_law_1280 dL_law_1282 dL_law_1283 dL_law_1284 ?_
  refine V_arg 1285 i 3 ha hN (by decide) (by decide) dL_law_1285 dL_law_1286 dL_law_1288 dL_law_1289 dL_law_1290 ?_
  refine V_aload_3 1291 dL_law_1291 ?_
  obtain ⟨r, h1, e1, kX, hO, hc, hM⟩ := JJ_call j (AGw_z (AGz_x j (ag_act j (eX E (i + 1)) (eX E (i + 2)) (eX E (i + 3)))))
  refine V_less (k' := (0 + ek r) + k) (u' := (0 + es r) + u) (by have := ek_le r; omega) (by have := es_le r; omega) ?_
  refine V_callSH (k := k) (u := u) (k' := 0 + ek r) (u' := 0 + es r) 1292 (As := [.ref X, .int (eX E (i + 1)), .int (eX E (i + 2)), .int (eX E (i + 3)), .ref O]) calL_act stL_act mkL_258 rfl rfl rfl rfl rfl dL_law_1292 (CL_act E X O (eX E (i + 1)) (eX E (i + 2)) (eX E (i + 3)) h e1 kX hO hc) (fun ec h3 q => LQ_no q) (fun v h3 q => ?_)
  obtain ⟨c, h', b, h2, Z', q0, m1, k1, j2, k2, t2, c2, v2⟩ := hM _ q
  cases q0
  refine V_istore_5 1295 dL_law_1295 rfl ?_
  refine V_aload_2 1297 dL_law_1297 ?_
  refine V_arg 1298 i 1 ha hN (by decide) (by decide) dL_law_1298 dL_law_1299 dL_law_1301 dL_law_1302 dL_law_1303 ?_
  refine V_arg 1304 i 2 ha hN (by decide) (by decide) dL_law_1304 dL_law_1305 dL_law_1307 dL_law_1308 dL_law_1309 ?_
  refine V_arg 1310 i 3 ha hN (by decide) (by decide) dL_law_1310 dL_law_1311 dL_law_1313 dL_law_1314 dL_law_1315 ?_
  exact V_tail (b := b) (args := [.int (eX E (i + 1)), .int (eX E (i + 2)), .int (eX E (i + 3))]) 1316 calX9_act imX9_act seX9_act mkL_260 rfl rfl rfl (CX9_act E Y (eX E (i + 1)) (eX E (i + 2)) (eX E (i + 3)) _ (.inl b) h2 m1) k1 k2 j2.2.2.1 t2 c2 (fun q => (v2 q).1) dL_law_1316 dL_law_1319 dL_law_1321 dL_law_1322 dL_law_1325 dL_law_1327 dL_law_1332 dL_law_1334 dL_law_1337 dL_law_1338 dL_law_1339 dL_law_1340 dL_law_1342 dL_law_1343 dL_law_1344 dL_law_1349 (by decide) (kk h2 Z' _ _ j2)
theorem calL_why : xcalH mL_why (0, 9, 12, 20) [(0, 9, 15, 13)] 3 := ⟨okL_why.1, okL_why.2, by decide +kernel, by decide +kernel, rfl⟩
theorem LC_18 (j : JJ h X Y O Z) (ha : i + 6 ≤ eN E) (hN : eN E < 2 ^ 31) (kk : ∀ h2 Z' y5 y6, JJ h2 X Y O Z' → XV E mL_law k u 4038 (Lw E X Y O i y5 y6) [] h2 QT) : XV E mL_law (3 + k) (17 + u) 1352 (Lw E X Y O i x5 x6) [] h QT := by
  refine V_aload_1 1352 dL_law_1352 ?_
  refine V_arg 1353 i 1 ha hN (by decide) (by decide) dL_law_1353 dL_law_1354 dL_law_1356 dL_law_1357 dL_law_1358 ?_
  refine V_aload_3 1359 dL_law_1359 ?_
  obtain ⟨r, h1, e1, kX, hO, hc, hM⟩ := JJ_call j (AGw_z (AGz_x j (ag_why j (eX E (i + 1)))))
  refine V_less (k' := (0 + ek r) + k) (u' := (0 + es r) + u) (by have := ek_le r; omega) (by have := es_le r; omega) ?_
  refine V_callSH (k := k) (u := u) (k' := 0 + ek r) (u' := 0 + es r) 1360 (As := [.ref X, .int (eX E (i + 1)), .ref O]) calL_why stL_why mkL_261 rfl rfl rfl rfl rfl dL_law_1360 (CL_why E X O (eX E (i + 1)) h e1 kX hO hc) (fun ec h3 q => LQ_no q) (fun v h3 q => ?_)
  obtain ⟨c, h', b, h2, Z', q0, m1, k1, j2, k2, t2, c2, v2⟩ := hM _ q
  cases q0
  refine V_istore_5 1363 dL_law_1363 rfl ?_
  refine V_aload_2 1365 dL_law_1365 ?_
  refine V_arg 1366 i 1 ha hN (by decide) (by decide) dL_law_1366 dL_law_1367 dL_law_1369 dL_law_1370 dL_law_1371 ?_
  exact V_tail (b := b) (args := [.int (eX E (i + 1))]) 1372 calX9_why imX9_why seX9_why mkL_263 rfl rfl rfl (CX9_why E Y (eX E (i + 1)) _ (.inl b) h2 m1) k1 k2 j2.2.2.1 t2 c2 (fun q => (v2 q).1) dL_law_1372 dL_law_1375 dL_law_1377 dL_law_1378 dL_law_1381 dL_law_1383 dL_law_1388 dL_law_1390 dL_law_1393 dL_law_1394 dL_law_1395 dL_law_1396 dL_law_1398 dL_law_1399 dL_law_1400 dL_law_1405 (by decide) (kk h2 Z' _ _ j2)
theorem calL_lawful : xcalH mL_lawful (0, 8, 11, 20) [] 2 := ⟨okL_lawful.1, okL_lawful.2, by decide +kernel, by decide +kernel, rfl⟩
theorem LC_19 (j : JJ h X Y O Z) (ha : i + 6 ≤ eN E) (hN : eN E < 2 ^ 31) (kk : ∀ h2 Z' y5 y6, JJ h2 X Y O Z' → XV E mL_law k u 4038 (Lw E X Y O i y5 y6) [] h2 QT) : XV E mL_law (3 + k) (17 + u) 1408 (Lw E X Y O i x5 x6) [] h QT := by
  refine V_aload_1 1408 dL_law_1408 ?_
  refine V_aload_3 1409 dL_law_1409 ?_
  obtain ⟨r, h1, e1, kX, hO, hc, hM⟩ := JJ_call j (AGw_z (AGz_x j (ag_lawful j)))
  refine V_less (k' := (0 + ek r) + k) (u' := (0 + es r) + u) (by have := ek_le r; omega) (by have := es_le r; omega) ?_
  refine V_callSH (k := k) (u := u) (k' := 0 + ek r) (u' := 0 + es r) 1410 (As := [.ref X, .ref O]) calL_lawful stL_lawful mkL_264 rfl rfl rfl rfl rfl dL_law_1410 (CL_lawful E X O h e1 kX hO hc) (fun ec h3 q => LQ_no q) (fun v h3 q => ?_)
  obtain ⟨c, h', b, h2, Z', q0, m1, k1, j2, k2, t2, c2, v2⟩ := hM _ q
  cases q0
  refine V_istore_5 1413 dL_law_1413 rfl ?_
  refine V_aload_2 1415 dL_law_1415 ?_
  exact V_tail (b := b) (args := []) 1416 calX9_lawful imX9_lawful seX9_lawful mkL_267 rfl rfl rfl (CX9_lawful E Y _ (.inl b) h2 m1) k1 k2 j2.2.2.1 t2 c2 (fun q => (v2 q).1) dL_law_1416 dL_law_1419 dL_law_1421 dL_law_1422 dL_law_1425 dL_law_1427 dL_law_1432 dL_law_1434 dL_law_1437 dL_law_1438 dL_law_1439 dL_law_1440 dL_law_1442 dL_law_1443 dL_law_1444 dL_law_1449 (by decide) (kk h2 Z' _ _ j2)
theorem calL_kernel : xcalH mL_kernel (0, 9, 12, 20) [(0, 9, 15, 13)] 3 := ⟨okL_kernel.1, okL_kernel.2, by decide +kernel, by decide +kernel, rfl⟩
theorem LC_20 (j : JJ h X Y O Z) (ha : i + 6 ≤ eN E) (hN : eN E < 2 ^ 31) (kk : ∀ h2 Z' y5 y6, JJ h2 X Y O Z' → XV E mL_law k u 4038 (Lw E X Y O i y5 y6) [] h2 QT) : XV E mL_law (3 + k) (17 + u) 1452 (Lw E X Y O i x5 x6) [] h QT := by
  refine V_aload_1 1452 dL_law_1452 ?_
  refine V_arg 1453 i 1 ha hN (by decide) (by decide) dL_law_1453 dL_law_1454 dL_law_1456 dL_law_1457 dL_law_1458 ?_
  refine V_aload_3 1459 dL_law_1459 ?_
  obtain ⟨r, h1, e1, kX, hO, hc, hM⟩ := JJ_call j (AGw_z (AGz_x j (ag_kernel j (eX E (i + 1)))))
  refine V_less (k' := (0 + ek r) + k) (u' := (0 + es r) + u) (by have := ek_le r; omega) (by have := es_le r; omega) ?_
  refine V_callSH (k := k) (u := u) (k' := 0 + ek r) (u' := 0 + es r) 1460 (As := [.ref X, .int (eX E (i + 1)), .ref O]) calL_kernel stL_kernel mkL_268 rfl rfl rfl rfl rfl dL_law_1460 (CL_kernel E X O (eX E (i + 1)) h e1 kX hO hc) (fun ec h3 q => LQ_no q) (fun v h3 q => ?_)
  obtain ⟨c, h', b, h2, Z', q0, m1, k1, j2, k2, t2, c2, v2⟩ := hM _ q
  cases q0
  refine V_istore_5 1463 dL_law_1463 rfl ?_
  refine V_aload_2 1465 dL_law_1465 ?_
  refine V_arg 1466 i 1 ha hN (by decide) (by decide) dL_law_1466 dL_law_1467 dL_law_1469 dL_law_1470 dL_law_1471 ?_
  exact V_tail (b := b) (args := [.int (eX E (i + 1))]) 1472 calX9_kernel imX9_kernel seX9_kernel mkL_270 rfl rfl rfl (CX9_kernel E Y (eX E (i + 1)) _ (.inl b) h2 m1) k1 k2 j2.2.2.1 t2 c2 (fun q => (v2 q).1) dL_law_1472 dL_law_1475 dL_law_1477 dL_law_1478 dL_law_1481 dL_law_1483 dL_law_1488 dL_law_1490 dL_law_1493 dL_law_1494 dL_law_1495 dL_law_1496 dL_law_1498 dL_law_1499 dL_law_1500 dL_law_1505 (by decide) (kk h2 Z' _ _ j2)
theorem calL_image : xcalH mL_image (0, 9, 12, 20) [(0, 9, 15, 13)] 3 := ⟨okL_image.1, okL_image.2, by decide +kernel, by decide +kernel, rfl⟩
theorem LC_21 (j : JJ h X Y O Z) (ha : i + 6 ≤ eN E) (hN : eN E < 2 ^ 31) (kk : ∀ h2 Z' y5 y6, JJ h2 X Y O Z' → XV E mL_law k u 4038 (Lw E X Y O i y5 y6) [] h2 QT) : XV E mL_law (3 + k) (17 + u) 1508 (Lw E X Y O i x5 x6) [] h QT := by
  refine V_aload_1 1508 dL_law_1508 ?_
  refine V_arg 1509 i 1 ha hN (by decide) (by decide) dL_law_1509 dL_law_1510 dL_law_1512 dL_law_1513 dL_law_1514 ?_
  refine V_aload_3 1515 dL_law_1515 ?_
  obtain ⟨r, h1, e1, kX, hO, hc, hM⟩ := JJ_call j (AGw_z (AGz_x j (ag_image j (eX E (i + 1)))))
  refine V_less (k' := (0 + ek r) + k) (u' := (0 + es r) + u) (by have := ek_le r; omega) (by have := es_le r; omega) ?_
  refine V_callSH (k := k) (u := u) (k' := 0 + ek r) (u' := 0 + es r) 1516 (As := [.ref X, .int (eX E (i + 1)), .ref O]) calL_image stL_image mkL_271 rfl rfl rfl rfl rfl dL_law_1516 (CL_image E X O (eX E (i + 1)) h e1 kX hO hc) (fun ec h3 q => LQ_no q) (fun v h3 q => ?_)
  obtain ⟨c, h', b, h2, Z', q0, m1, k1, j2, k2, t2, c2, v2⟩ := hM _ q
  cases q0
  refine V_istore_5 1519 dL_law_1519 rfl ?_
  refine V_aload_2 1521 dL_law_1521 ?_
  refine V_arg 1522 i 1 ha hN (by decide) (by decide) dL_law_1522 dL_law_1523 dL_law_1525 dL_law_1526 dL_law_1527 ?_
  exact V_tail (b := b) (args := [.int (eX E (i + 1))]) 1528 calX9_image imX9_image seX9_image mkL_273 rfl rfl rfl (CX9_image E Y (eX E (i + 1)) _ (.inl b) h2 m1) k1 k2 j2.2.2.1 t2 c2 (fun q => (v2 q).1) dL_law_1528 dL_law_1531 dL_law_1533 dL_law_1534 dL_law_1537 dL_law_1539 dL_law_1544 dL_law_1546 dL_law_1549 dL_law_1550 dL_law_1551 dL_law_1552 dL_law_1554 dL_law_1555 dL_law_1556 dL_law_1561 (by decide) (kk h2 Z' _ _ j2)
theorem calL_isCentral : xcalH mL_isCentral (0, 16, 19, 20) [(0, 16, 22, 13)] 3 := ⟨okL_isCentral.1, okL_isCentral.2, by decide +kernel, by decide +kernel, rfl⟩
theorem LC_22 (j : JJ h X Y O Z) (ha : i + 6 ≤ eN E) (hN : eN E < 2 ^ 31) (kk : ∀ h2 Z' y5 y6, JJ h2 X Y O Z' → XV E mL_law k u 4038 (Lw E X Y O i y5 y6) [] h2 QT) : XV E mL_law (3 + k) (17 + u) 1564 (Lw E X Y O i x5 x6) [] h QT := by
  refine V_aload_1 1564 dL_law_1564 ?_
  refine V_arg 1565 i 1 ha hN (by decide) (by decide) dL_law_1565 dL_law_1566 dL_law_1568 dL_law_1569 dL_law_1570 ?_
  refine V_aload_3 1571 dL_law_1571 ?_
  obtain ⟨r, h1, e1, kX, hO, hc, hM⟩ := JJ_call j (AGw_z (AGz_x j (ag_isCentral j (eX E (i + 1)))))
  refine V_less (k' := (0 + ek r) + k) (u' := (0 + es r) + u) (by have := ek_le r; omega) (by have := es_le r; omega) ?_
  refine V_callSH (k := k) (u := u) (k' := 0 + ek r) (u' := 0 + es r) 1572 (As := [.ref X, .int (eX E (i + 1)), .ref O]) calL_isCentral stL_isCentral mkL_274 rfl rfl rfl rfl rfl dL_law_1572 (CL_isCentral E X O (eX E (i + 1)) h e1 kX hO hc (fun v hv => bv_isCentral h (by rw [hv] at e1; exact e1))) (fun ec h3 q => LQ_no q) (fun v h3 q => ?_)
  obtain ⟨c, h', b, h2, Z', q0, m1, k1, j2, k2, t2, c2, v2⟩ := hM _ q
  cases q0
  refine V_istore_5 1575 dL_law_1575 rfl ?_
  refine V_aload_2 1577 dL_law_1577 ?_
  refine V_arg 1578 i 1 ha hN (by decide) (by decide) dL_law_1578 dL_law_1579 dL_law_1581 dL_law_1582 dL_law_1583 ?_
  exact V_tailZ (b := b) (args := [.int (eX E (i + 1))]) 1584 calX9_isCentral imX9_isCentral seX9_isCentral mkL_276 rfl rfl rfl (CX9_isCentral E Y (eX E (i + 1)) _ (.inl b) h2 m1) k1 k2 j2.2.2.1 t2 c2 (fun q => (v2 q).1) (fun q => bv_isCentral h (by rw [(v2 q).2] at e1; exact e1)) dL_law_1584 dL_law_1587 dL_law_1589 dL_law_1590 dL_law_1593 dL_law_1595 dL_law_1600 dL_law_1602 dL_law_1605 dL_law_1606 dL_law_1607 dL_law_1608 dL_law_1610 dL_law_1613 dL_law_1614 dL_law_1617 dL_law_1618 dL_law_1619 dL_law_1624 (by decide) (kk h2 Z' _ _ j2)
theorem calL_fixed : xcalH mL_fixed (0, 10, 13, 20) [(0, 10, 17, 13)] 4 := ⟨okL_fixed.1, okL_fixed.2, by decide +kernel, by decide +kernel, rfl⟩
theorem LC_23 (j : JJ h X Y O Z) (ha : i + 6 ≤ eN E) (hN : eN E < 2 ^ 31) (kk : ∀ h2 Z' y5 y6, JJ h2 X Y O Z' → XV E mL_law k u 4038 (Lw E X Y O i y5 y6) [] h2 QT) : XV E mL_law (3 + k) (17 + u) 1627 (Lw E X Y O i x5 x6) [] h QT := by
  refine V_aload_1 1627 dL_law_1627 ?_
  refine V_arg 1628 i 1 ha hN (by decide) (by decide) dL_law_1628 dL_law_1629 dL_law_1631 dL_law_1632 dL_law_1633 ?_
  refine V_arg 1634 i 2 ha hN (by decide) (by decide) dL_law_1634 dL_law_1635 dL_law_1637 dL_law_1638 dL_law_1639 ?_
  refine V_aload_3 1640 dL_law_1640 ?_
  obtain ⟨r, h1, e1, kX, hO, hc, hM⟩ := JJ_call j (AGw_z (AGz_x j (ag_fixed j (eX E (i + 1)) (eX E (i + 2)))))
  refine V_less (k' := (0 + ek r) + k) (u' := (0 + es r) + u) (by have := ek_le r; omega) (by have := es_le r; omega) ?_
  refine V_callSH (k := k) (u := u) (k' := 0 + ek r) (u' := 0 + es r) 1641 (As := [.ref X, .int (eX E (i + 1)), .int (eX E (i + 2)), .ref O]) calL_fixed stL_fixed mkL_277 rfl rfl rfl rfl rfl dL_law_1641 (CL_fixed E X O (eX E (i + 1)) (eX E (i + 2)) h e1 kX hO hc) (fun ec h3 q => LQ_no q) (fun v h3 q => ?_)
  obtain ⟨c, h', b, h2, Z', q0, m1, k1, j2, k2, t2, c2, v2⟩ := hM _ q
  cases q0
  refine V_istore_5 1644 dL_law_1644 rfl ?_
  refine V_aload_2 1646 dL_law_1646 ?_
  refine V_arg 1647 i 1 ha hN (by decide) (by decide) dL_law_1647 dL_law_1648 dL_law_1650 dL_law_1651 dL_law_1652 ?_
  refine V_arg 1653 i 2 ha hN (by decide) (by decide) dL_law_1653 dL_law_1654 dL_law_1656 dL_law_1657 dL_law_1658 ?_
  exact V_tail (b := b) (args := [.int (eX E (i + 1)), .int (eX E (i + 2))]) 1659 calX9_fixed imX9_fixed seX9_fixed mkL_279 rfl rfl rfl (CX9_fixed E Y (eX E (i + 1)) (eX E (i + 2)) _ (.inl b) h2 m1) k1 k2 j2.2.2.1 t2 c2 (fun q => (v2 q).1) dL_law_1659 dL_law_1662 dL_law_1664 dL_law_1665 dL_law_1668 dL_law_1670 dL_law_1675 dL_law_1677 dL_law_1680 dL_law_1681 dL_law_1682 dL_law_1683 dL_law_1685 dL_law_1686 dL_law_1687 dL_law_1692 (by decide) (kk h2 Z' _ _ j2)
theorem calL_orbit : xcalH mL_orbit (0, 10, 13, 20) [(0, 10, 17, 13)] 4 := ⟨okL_orbit.1, okL_orbit.2, by decide +kernel, by decide +kernel, rfl⟩
theorem LC_24 (j : JJ h X Y O Z) (ha : i + 6 ≤ eN E) (hN : eN E < 2 ^ 31) (kk : ∀ h2 Z' y5 y6, JJ h2 X Y O Z' → XV E mL_law k u 4038 (Lw E X Y O i y5 y6) [] h2 QT) : XV E mL_law (3 + k) (17 + u) 1695 (Lw E X Y O i x5 x6) [] h QT := by
  refine V_aload_1 1695 dL_law_1695 ?_
  refine V_arg 1696 i 1 ha hN (by decide) (by decide) dL_law_1696 dL_law_1697 dL_law_1699 dL_law_1700 dL_law_1701 ?_
  refine V_arg 1702 i 2 ha hN (by decide) (by decide) dL_law_1702 dL_law_1703 dL_law_1705 dL_law_1706 dL_law_1707 ?_
  refine V_aload_3 1708 dL_law_1708 ?_
  obtain ⟨r, h1, e1, kX, hO, hc, hM⟩ := JJ_call j (AGw_z (AGz_x j (ag_orbit j (eX E (i + 1)) (eX E (i + 2)))))
  refine V_less (k' := (0 + ek r) + k) (u' := (0 + es r) + u) (by have := ek_le r; omega) (by have := es_le r; omega) ?_
  refine V_callSH (k := k) (u := u) (k' := 0 + ek r) (u' := 0 + es r) 1709 (As := [.ref X, .int (eX E (i + 1)), .int (eX E (i + 2)), .ref O]) calL_orbit stL_orbit mkL_280 rfl rfl rfl rfl rfl dL_law_1709 (CL_orbit E X O (eX E (i + 1)) (eX E (i + 2)) h e1 kX hO hc) (fun ec h3 q => LQ_no q) (fun v h3 q => ?_)
  obtain ⟨c, h', b, h2, Z', q0, m1, k1, j2, k2, t2, c2, v2⟩ := hM _ q
  cases q0
  refine V_istore_5 1712 dL_law_1712 rfl ?_
  refine V_aload_2 1714 dL_law_1714 ?_
  refine V_arg 1715 i 1 ha hN (by decide) (by decide) dL_law_1715 dL_law_1716 dL_law_1718 dL_law_1719 dL_law_1720 ?_
  refine V_arg 1721 i 2 ha hN (by decide) (by decide) dL_law_1721 dL_law_1722 dL_law_1724 dL_law_1725 dL_law_1726 ?_
  exact V_tail (b := b) (args := [.int (eX E (i + 1)), .int (eX E (i + 2))]) 1727 calX9_orbit imX9_orbit seX9_orbit mkL_282 rfl rfl rfl (CX9_orbit E Y (eX E (i + 1)) (eX E (i + 2)) _ (.inl b) h2 m1) k1 k2 j2.2.2.1 t2 c2 (fun q => (v2 q).1) dL_law_1727 dL_law_1730 dL_law_1732 dL_law_1733 dL_law_1736 dL_law_1738 dL_law_1743 dL_law_1745 dL_law_1748 dL_law_1749 dL_law_1750 dL_law_1751 dL_law_1753 dL_law_1754 dL_law_1755 dL_law_1760 (by decide) (kk h2 Z' _ _ j2)
theorem calL_classes : xcalH mL_classes (0, 9, 12, 20) [(0, 9, 15, 13), (0, 9, 18, 15)] 3 := ⟨okL_classes.1, okL_classes.2, by decide +kernel, by decide +kernel, rfl⟩
theorem LC_25 (j : JJ h X Y O Z) (ha : i + 6 ≤ eN E) (hN : eN E < 2 ^ 31) (kk : ∀ h2 Z' y5 y6, JJ h2 X Y O Z' → XV E mL_law k u 4038 (Lw E X Y O i y5 y6) [] h2 QT) : XV E mL_law (3 + k) (17 + u) 1763 (Lw E X Y O i x5 x6) [] h QT := by
  refine V_aload_1 1763 dL_law_1763 ?_
  refine V_arg 1764 i 1 ha hN (by decide) (by decide) dL_law_1764 dL_law_1765 dL_law_1767 dL_law_1768 dL_law_1769 ?_
  refine V_aload_3 1770 dL_law_1770 ?_
  obtain ⟨r, h1, e1, kX, hO, hc, hM⟩ := JJ_call j (AGw_z (AGz_x j (ag_classes j (eX E (i + 1)))))
  refine V_less (k' := (0 + ek r) + k) (u' := (0 + es r) + u) (by have := ek_le r; omega) (by have := es_le r; omega) ?_
  refine V_callSH (k := k) (u := u) (k' := 0 + ek r) (u' := 0 + es r) 1771 (As := [.ref X, .int (eX E (i + 1)), .ref O]) calL_classes stL_classes mkL_283 rfl rfl rfl rfl rfl dL_law_1771 (CL_classes E X O (eX E (i + 1)) h e1 kX hO hc) (fun ec h3 q => LQ_no q) (fun v h3 q => ?_)
  obtain ⟨c, h', b, h2, Z', q0, m1, k1, j2, k2, t2, c2, v2⟩ := hM _ q
  cases q0
  refine V_istore_5 1774 dL_law_1774 rfl ?_
  refine V_aload_2 1776 dL_law_1776 ?_
  refine V_arg 1777 i 1 ha hN (by decide) (by decide) dL_law_1777 dL_law_1778 dL_law_1780 dL_law_1781 dL_law_1782 ?_
  exact V_tail (b := b) (args := [.int (eX E (i + 1))]) 1783 calX9_classes imX9_classes seX9_classes mkL_285 rfl rfl rfl (CX9_classes E Y (eX E (i + 1)) _ (.inl b) h2 m1) k1 k2 j2.2.2.1 t2 c2 (fun q => (v2 q).1) dL_law_1783 dL_law_1786 dL_law_1788 dL_law_1789 dL_law_1792 dL_law_1794 dL_law_1799 dL_law_1801 dL_law_1804 dL_law_1805 dL_law_1806 dL_law_1807 dL_law_1809 dL_law_1810 dL_law_1811 dL_law_1816 (by decide) (kk h2 Z' _ _ j2)
theorem calL_classOf : xcalH mL_classOf (0, 10, 13, 20) [(0, 10, 17, 13), (0, 10, 21, 15)] 4 := ⟨okL_classOf.1, okL_classOf.2, by decide +kernel, by decide +kernel, rfl⟩
theorem LC_26 (j : JJ h X Y O Z) (ha : i + 6 ≤ eN E) (hN : eN E < 2 ^ 31) (kk : ∀ h2 Z' y5 y6, JJ h2 X Y O Z' → XV E mL_law k u 4038 (Lw E X Y O i y5 y6) [] h2 QT) : XV E mL_law (3 + k) (17 + u) 1819 (Lw E X Y O i x5 x6) [] h QT := by
  refine V_aload_1 1819 dL_law_1819 ?_
  refine V_arg 1820 i 1 ha hN (by decide) (by decide) dL_law_1820 dL_law_1821 dL_law_1823 dL_law_1824 dL_law_1825 ?_
  refine V_arg 1826 i 2 ha hN (by decide) (by decide) dL_law_1826 dL_law_1827 dL_law_1829 dL_law_1830 dL_law_1831 ?_
  refine V_aload_3 1832 dL_law_1832 ?_
  obtain ⟨r, h1, e1, kX, hO, hc, hM⟩ := JJ_call j (AGw_z (AGz_x j (ag_classOf j (eX E (i + 1)) (eX E (i + 2)))))
  refine V_less (k' := (0 + ek r) + k) (u' := (0 + es r) + u) (by have := ek_le r; omega) (by have := es_le r; omega) ?_
  refine V_callSH (k := k) (u := u) (k' := 0 + ek r) (u' := 0 + es r) 1833 (As := [.ref X, .int (eX E (i + 1)), .int (eX E (i + 2)), .ref O]) calL_classOf stL_classOf mkL_286 rfl rfl rfl rfl rfl dL_law_1833 (CL_classOf E X O (eX E (i + 1)) (eX E (i + 2)) h e1 kX hO hc) (fun ec h3 q => LQ_no q) (fun v h3 q => ?_)
  obtain ⟨c, h', b, h2, Z', q0, m1, k1, j2, k2, t2, c2, v2⟩ := hM _ q
  cases q0
  refine V_istore_5 1836 dL_law_1836 rfl ?_
  refine V_aload_2 1838 dL_law_1838 ?_
  refine V_arg 1839 i 1 ha hN (by decide) (by decide) dL_law_1839 dL_law_1840 dL_law_1842 dL_law_1843 dL_law_1844 ?_
  refine V_arg 1845 i 2 ha hN (by decide) (by decide) dL_law_1845 dL_law_1846 dL_law_1848 dL_law_1849 dL_law_1850 ?_
  exact V_tail (b := b) (args := [.int (eX E (i + 1)), .int (eX E (i + 2))]) 1851 calX9_classOf imX9_classOf seX9_classOf mkL_288 rfl rfl rfl (CX9_classOf E Y (eX E (i + 1)) (eX E (i + 2)) _ (.inl b) h2 m1) k1 k2 j2.2.2.1 t2 c2 (fun q => (v2 q).1) dL_law_1851 dL_law_1854 dL_law_1856 dL_law_1857 dL_law_1860 dL_law_1862 dL_law_1867 dL_law_1869 dL_law_1872 dL_law_1873 dL_law_1874 dL_law_1875 dL_law_1877 dL_law_1878 dL_law_1879 dL_law_1884 (by decide) (kk h2 Z' _ _ j2)
theorem calL_classTimes : xcalH mL_classTimes (0, 12, 15, 20) [(0, 12, 19, 13), (0, 12, 23, 15)] 5 := ⟨okL_classTimes.1, okL_classTimes.2, by decide +kernel, by decide +kernel, rfl⟩
theorem LC_27 (j : JJ h X Y O Z) (ha : i + 6 ≤ eN E) (hN : eN E < 2 ^ 31) (kk : ∀ h2 Z' y5 y6, JJ h2 X Y O Z' → XV E mL_law k u 4038 (Lw E X Y O i y5 y6) [] h2 QT) : XV E mL_law (3 + k) (17 + u) 1887 (Lw E X Y O i x5 x6) [] h QT := by
  refine V_aload_1 1887 dL_law_1887 ?_
  refine V_arg 1888 i 1 ha hN (by decide) (by decide) dL_law_1888 dL_law_1889 dL_law_1891 dL_law_1892 dL_law_1893 ?_
  refine V_arg 1894 i 2 ha hN (by decide) (by decide) dL_law_1894 dL_law_1895 dL_law_1897 dL_law_1898 dL_law_1899 ?_
  refine V_arg 1900 i 3 ha hN (by decide) (by decide) dL_law_1900 dL_law_1901 dL_law_1903 dL_law_1904 dL_law_1905 ?_
  refine V_aload_3 1906 dL_law_1906 ?_
  obtain ⟨r, h1, e1, kX, hO, hc, hM⟩ := JJ_call j (AGw_z (AGz_x j (ag_classTimes j (eX E (i + 1)) (eX E (i + 2)) (eX E (i + 3)))))
  refine V_less (k' := (0 + ek r) + k) (u' := (0 + es r) + u) (by have := ek_le r; omega) (by have := es_le r; omega) ?_
  refine V_callSH (k := k) (u := u) (k' := 0 + ek r) (u' := 0 + es r) 1907 (As := [.ref X, .int (eX E (i + 1)), .int (eX E (i + 2)), .int (eX E (i + 3)), .ref O]) calL_classTimes stL_classTimes mkL_289 rfl rfl rfl rfl rfl dL_law_1907 (CL_classTimes E X O (eX E (i + 1)) (eX E (i + 2)) (eX E (i + 3)) h e1 kX hO hc) (fun ec h3 q => LQ_no q) (fun v h3 q => ?_)
  obtain ⟨c, h', b, h2, Z', q0, m1, k1, j2, k2, t2, c2, v2⟩ := hM _ q
  cases q0
  refine V_istore_5 1910 dL_law_1910 rfl ?_
  refine V_aload_2 1912 dL_law_1912 ?_
  refine V_arg 1913 i 1 ha hN (by decide) (by decide) dL_law_1913 dL_law_1914 dL_law_1916 dL_law_1917 dL_law_1918 ?_
  refine V_arg 1919 i 2 ha hN (by decide) (by decide) dL_law_1919 dL_law_1920 dL_law_1922 dL_law_1923 dL_law_1924 ?_
  refine V_arg 1925 i 3 ha hN (by decide) (by decide) dL_law_1925 dL_law_1926 dL_law_1928 dL_law_1929 dL_law_1930 ?_
  exact V_tail (b := b) (args := [.int (eX E (i + 1)), .int (eX E (i + 2)), .int (eX E (i + 3))]) 1931 calX9_classTimes imX9_classTimes seX9_classTimes mkL_291 rfl rfl rfl (CX9_classTimes E Y (eX E (i + 1)) (eX E (i + 2)) (eX E (i + 3)) _ (.inl b) h2 m1) k1 k2 j2.2.2.1 t2 c2 (fun q => (v2 q).1) dL_law_1931 dL_law_1934 dL_law_1936 dL_law_1937 dL_law_1940 dL_law_1942 dL_law_1947 dL_law_1949 dL_law_1952 dL_law_1953 dL_law_1954 dL_law_1955 dL_law_1957 dL_law_1958 dL_law_1959 dL_law_1964 (by decide) (kk h2 Z' _ _ j2)
theorem calL_classAct : xcalH mL_classAct (0, 12, 15, 20) [(0, 12, 19, 13), (0, 12, 23, 15)] 5 := ⟨okL_classAct.1, okL_classAct.2, by decide +kernel, by decide +kernel, rfl⟩
theorem LC_28 (j : JJ h X Y O Z) (ha : i + 6 ≤ eN E) (hN : eN E < 2 ^ 31) (kk : ∀ h2 Z' y5 y6, JJ h2 X Y O Z' → XV E mL_law k u 4038 (Lw E X Y O i y5 y6) [] h2 QT) : XV E mL_law (3 + k) (17 + u) 1967 (Lw E X Y O i x5 x6) [] h QT := by
  refine V_aload_1 1967 dL_law_1967 ?_
  refine V_arg 1968 i 1 ha hN (by decide) (by decide) dL_law_1968 dL_law_1969 dL_law_1971 dL_law_1972 dL_law_1973 ?_
  refine V_arg 1974 i 2 ha hN (by decide) (by decide) dL_law_1974 dL_law_1975 dL_law_1977 dL_law_1978 dL_law_1979 ?_
  refine V_arg 1980 i 3 ha hN (by decide) (by decide) dL_law_1980 dL_law_1981 dL_law_1983 dL_law_1984 dL_law_1985 ?_
  refine V_aload_3 1986 dL_law_1986 ?_
  obtain ⟨r, h1, e1, kX, hO, hc, hM⟩ := JJ_call j (AGw_z (AGz_x j (ag_classAct j (eX E (i + 1)) (eX E (i + 2)) (eX E (i + 3)))))
  refine V_less (k' := (0 + ek r) + k) (u' := (0 + es r) + u) (by have := ek_le r; omega) (by have := es_le r; omega) ?_
  refine V_callSH (k := k) (u := u) (k' := 0 + ek r) (u' := 0 + es r) 1987 (As := [.ref X, .int (eX E (i + 1)), .int (eX E (i + 2)), .int (eX E (i + 3)), .ref O]) calL_classAct stL_classAct mkL_292 rfl rfl rfl rfl rfl dL_law_1987 (CL_classAct E X O (eX E (i + 1)) (eX E (i + 2)) (eX E (i + 3)) h e1 kX hO hc) (fun ec h3 q => LQ_no q) (fun v h3 q => ?_)
  obtain ⟨c, h', b, h2, Z', q0, m1, k1, j2, k2, t2, c2, v2⟩ := hM _ q
  cases q0
  refine V_istore_5 1990 dL_law_1990 rfl ?_
  refine V_aload_2 1992 dL_law_1992 ?_
  refine V_arg 1993 i 1 ha hN (by decide) (by decide) dL_law_1993 dL_law_1994 dL_law_1996 dL_law_1997 dL_law_1998 ?_
  refine V_arg 1999 i 2 ha hN (by decide) (by decide) dL_law_1999 dL_law_2000 dL_law_2002 dL_law_2003 dL_law_2004 ?_
  refine V_arg 2005 i 3 ha hN (by decide) (by decide) dL_law_2005 dL_law_2006 dL_law_2008 dL_law_2009 dL_law_2010 ?_
  exact V_tail (b := b) (args := [.int (eX E (i + 1)), .int (eX E (i + 2)), .int (eX E (i + 3))]) 2011 calX9_classAct imX9_classAct seX9_classAct mkL_294 rfl rfl rfl (CX9_classAct E Y (eX E (i + 1)) (eX E (i + 2)) (eX E (i + 3)) _ (.inl b) h2 m1) k1 k2 j2.2.2.1 t2 c2 (fun q => (v2 q).1) dL_law_2011 dL_law_2014 dL_law_2016 dL_law_2017 dL_law_2020 dL_law_2022 dL_law_2027 dL_law_2029 dL_law_2032 dL_law_2033 dL_law_2034 dL_law_2035 dL_law_2037 dL_law_2038 dL_law_2039 dL_law_2044 (by decide) (kk h2 Z' _ _ j2)
theorem calL_profile : xcalH mL_profile (0, 12, 15, 20) [(0, 12, 19, 13), (0, 12, 23, 15)] 5 := ⟨okL_profile.1, okL_profile.2, by decide +kernel, by decide +kernel, rfl⟩
theorem LC_29 (j : JJ h X Y O Z) (ha : i + 6 ≤ eN E) (hN : eN E < 2 ^ 31) (kk : ∀ h2 Z' y5 y6, JJ h2 X Y O Z' → XV E mL_law k u 4038 (Lw E X Y O i y5 y6) [] h2 QT) : XV E mL_law (3 + k) (17 + u) 2047 (Lw E X Y O i x5 x6) [] h QT := by
  refine V_aload_1 2047 dL_law_2047 ?_
  refine V_arg 2048 i 1 ha hN (by decide) (by decide) dL_law_2048 dL_law_2049 dL_law_2051 dL_law_2052 dL_law_2053 ?_
  refine V_arg 2054 i 2 ha hN (by decide) (by decide) dL_law_2054 dL_law_2055 dL_law_2057 dL_law_2058 dL_law_2059 ?_
  refine V_bool 2060 dL_law_2060 dL_law_2063 dL_law_2064 dL_law_2067 ?_
  refine V_arg 2068 i 3 ha hN (by decide) (by decide) dL_law_2068 dL_law_2069 dL_law_2071 dL_law_2072 dL_law_2073 ?_
  refine V_aload_3 2074 dL_law_2074 ?_
  obtain ⟨r, h1, e1, kX, hO, hc, hM⟩ := JJ_call j (AGw_z (AGz_x j (ag_profile j (eX E (i + 1)) (if eX E (i + 2) = 0 then (0 : Int32) else 1) (eX E (i + 3)))))
  refine V_less (k' := (0 + ek r) + k) (u' := (0 + es r) + u) (by have := ek_le r; omega) (by have := es_le r; omega) ?_
  refine V_callSH (k := k) (u := u) (k' := 0 + ek r) (u' := 0 + es r) 2075 (As := [.ref X, .int (eX E (i + 1)), .int (if eX E (i + 2) = 0 then (0 : Int32) else 1), .int (eX E (i + 3)), .ref O]) calL_profile stL_profile mkL_295 rfl rfl rfl rfl rfl dL_law_2075 (CL_profile E X O (eX E (i + 1)) (if eX E (i + 2) = 0 then (0 : Int32) else 1) (eX E (i + 3)) h e1 kX hO hc) (fun ec h3 q => LQ_no q) (fun v h3 q => ?_)
  obtain ⟨c, h', b, h2, Z', q0, m1, k1, j2, k2, t2, c2, v2⟩ := hM _ q
  cases q0
  refine V_istore_5 2078 dL_law_2078 rfl ?_
  refine V_aload_2 2080 dL_law_2080 ?_
  refine V_arg 2081 i 1 ha hN (by decide) (by decide) dL_law_2081 dL_law_2082 dL_law_2084 dL_law_2085 dL_law_2086 ?_
  refine V_arg 2087 i 2 ha hN (by decide) (by decide) dL_law_2087 dL_law_2088 dL_law_2090 dL_law_2091 dL_law_2092 ?_
  refine V_bool 2093 dL_law_2093 dL_law_2096 dL_law_2097 dL_law_2100 ?_
  refine V_arg 2101 i 3 ha hN (by decide) (by decide) dL_law_2101 dL_law_2102 dL_law_2104 dL_law_2105 dL_law_2106 ?_
  exact V_tail (b := b) (args := [.int (eX E (i + 1)), .int (if eX E (i + 2) = 0 then (0 : Int32) else 1), .int (eX E (i + 3))]) 2107 calX9_profile imX9_profile seX9_profile mkL_298 rfl rfl rfl (CX9_profile E Y (eX E (i + 1)) (if eX E (i + 2) = 0 then (0 : Int32) else 1) (eX E (i + 3)) _ (.inl b) h2 m1) k1 k2 j2.2.2.1 t2 c2 (fun q => (v2 q).1) dL_law_2107 dL_law_2110 dL_law_2112 dL_law_2113 dL_law_2116 dL_law_2118 dL_law_2123 dL_law_2125 dL_law_2128 dL_law_2129 dL_law_2130 dL_law_2131 dL_law_2133 dL_law_2134 dL_law_2135 dL_law_2140 (by decide) (kk h2 Z' _ _ j2)
end LC
