set_option maxRecDepth 100000 in
theorem ki_163 : (List.range 95).all (am_cki mm_163) = true := by decide +kernel
theorem mo_163 : am_ok am_P mm_163 := am_ok_of ki_163 (fun _ h => am_hi _ _ h) (pf := pf_11) klf_11 (fun _ h => am_hi _ _ h) (pm := pm_11) klm_11 (fun _ h => am_hi _ _ h) (pc := pc_11) klc_11 (fun _ h => am_hi _ _ h) (px := px_11) klx_11 (fun _ h => am_hi _ _ h)
theorem kc_163 : am_okc mm_163 := am_ckc_ok (p0 := 1399) (p1 := 46) (p2 := 1397) (p3 := 1398) (by decide +kernel)
set_option maxRecDepth 100000 in
theorem ki_164 : (List.range 31).all (am_cki mm_164) = true := by decide +kernel
theorem mo_164 : am_ok am_P mm_164 := am_ok_of ki_164 (fun _ h => am_hi _ _ h) (pf := pf_11) klf_11 (fun _ h => am_hi _ _ h) (pm := pm_11) klm_11 (fun _ h => am_hi _ _ h) (pc := pc_11) klc_11 (fun _ h => am_hi _ _ h) (px := px_11) klx_11 (fun _ h => am_hi _ _ h)
theorem kc_164 : am_okc mm_164 := am_ckc_ok (p0 := 1403) (p1 := 46) (p2 := 1401) (p3 := 1402) (by decide +kernel)
set_option maxRecDepth 100000 in
theorem ki_165 : (List.range 11).all (am_cki mm_165) = true := by decide +kernel
theorem mo_165 : am_ok am_P mm_165 := am_ok_of ki_165 (fun _ h => am_hi _ _ h) (pf := pf_11) klf_11 (fun _ h => am_hi _ _ h) (pm := pm_11) klm_11 (fun _ h => am_hi _ _ h) (pc := pc_11) klc_11 (fun _ h => am_hi _ _ h) (px := px_11) klx_11 (fun _ h => am_hi _ _ h)
theorem kc_165 : am_okc mm_165 := am_ckc_ok (p0 := 1422) (p1 := 46) (p2 := 1421) (p3 := 0) (by decide +kernel)
set_option maxRecDepth 100000 in
theorem ki_166 : (List.range 220).all (am_cki mm_166) = true := by decide +kernel
theorem mo_166 : am_ok am_P mm_166 := am_ok_of ki_166 (fun _ h => am_hi _ _ h) (pf := pf_11) klf_11 (fun _ h => am_hi _ _ h) (pm := pm_11) klm_11 (fun _ h => am_hi _ _ h) (pc := pc_11) klc_11 (fun _ h => am_hi _ _ h) (px := px_11) klx_11 (fun _ h => am_hi _ _ h)
theorem kc_166 : am_okc mm_166 := am_ckc_ok (p0 := 1407) (p1 := 46) (p2 := 1405) (p3 := 1406) (by decide +kernel)
set_option maxRecDepth 100000 in
theorem ki_167 : (List.range 93).all (am_cki mm_167) = true := by decide +kernel
theorem mo_167 : am_ok am_P mm_167 := am_ok_of ki_167 (fun _ h => am_hi _ _ h) (pf := pf_11) klf_11 (fun _ h => am_hi _ _ h) (pm := pm_11) klm_11 (fun _ h => am_hi _ _ h) (pc := pc_11) klc_11 (fun _ h => am_hi _ _ h) (px := px_11) klx_11 (fun _ h => am_hi _ _ h)
theorem kc_167 : am_okc mm_167 := am_ckc_ok (p0 := 1415) (p1 := 46) (p2 := 1413) (p3 := 1414) (by decide +kernel)
set_option maxRecDepth 100000 in
theorem ki_168 : (List.range 107).all (am_cki mm_168) = true := by decide +kernel
theorem mo_168 : am_ok am_P mm_168 := am_ok_of ki_168 (fun _ h => am_hi _ _ h) (pf := pf_11) klf_11 (fun _ h => am_hi _ _ h) (pm := pm_11) klm_11 (fun _ h => am_hi _ _ h) (pc := pc_11) klc_11 (fun _ h => am_hi _ _ h) (px := px_11) klx_11 (fun _ h => am_hi _ _ h)
theorem kc_168 : am_okc mm_168 := am_ckc_ok (p0 := 1419) (p1 := 46) (p2 := 1417) (p3 := 1418) (by decide +kernel)
set_option maxRecDepth 100000 in
theorem ki_169 : (List.range 145).all (am_cki mm_169) = true := by decide +kernel
theorem mo_169 : am_ok am_P mm_169 := am_ok_of ki_169 (fun _ h => am_hi _ _ h) (pf := pf_11) klf_11 (fun _ h => am_hi _ _ h) (pm := pm_11) klm_11 (fun _ h => am_hi _ _ h) (pc := pc_11) klc_11 (fun _ h => am_hi _ _ h) (px := px_11) klx_11 (fun _ h => am_hi _ _ h)
theorem kc_169 : am_okc mm_169 := am_ckc_ok (p0 := 1426) (p1 := 46) (p2 := 1424) (p3 := 1425) (by decide +kernel)
set_option maxRecDepth 100000 in
theorem ki_170 : (List.range 16).all (am_cki mm_170) = true := by decide +kernel
theorem mo_170 : am_ok am_P mm_170 := am_ok_of ki_170 (fun _ h => am_hi _ _ h) (pf := pf_11) klf_11 (fun _ h => am_hi _ _ h) (pm := pm_11) klm_11 (fun _ h => am_hi _ _ h) (pc := pc_11) klc_11 (fun _ h => am_hi _ _ h) (px := px_11) klx_11 (fun _ h => am_hi _ _ h)
theorem kc_170 : am_okc mm_170 := am_ckc_ok (p0 := 1282) (p1 := 46) (p2 := 1281) (p3 := 0) (by decide +kernel)
set_option maxRecDepth 100000 in
theorem ki_171 : (List.range 36).all (am_cki mm_171) = true := by decide +kernel
theorem mo_171 : am_ok am_P mm_171 := am_ok_of ki_171 (fun _ h => am_hi _ _ h) (pf := pf_11) klf_11 (fun _ h => am_hi _ _ h) (pm := pm_11) klm_11 (fun _ h => am_hi _ _ h) (pc := pc_11) klc_11 (fun _ h => am_hi _ _ h) (px := px_11) klx_11 (fun _ h => am_hi _ _ h)
theorem kc_171 : am_okc mm_171 := am_ckc_ok (p0 := 1442) (p1 := 46) (p2 := 1441) (p3 := 18) (by decide +kernel)
set_option maxRecDepth 100000 in
theorem ki_172 : (List.range 309).all (am_cki mm_172) = true := by decide +kernel
theorem mo_172 : am_ok am_P mm_172 := am_ok_of ki_172 (fun _ h => am_hi _ _ h) (pf := pf_11) klf_11 (fun _ h => am_hi _ _ h) (pm := pm_11) klm_11 (fun _ h => am_hi _ _ h) (pc := pc_11) klc_11 (fun _ h => am_hi _ _ h) (px := px_11) klx_11 (fun _ h => am_hi _ _ h)
theorem kc_172 : am_okc mm_172 := am_ckc_ok (p0 := 1438) (p1 := 46) (p2 := 1437) (p3 := 17) (by decide +kernel)
set_option maxRecDepth 100000 in
theorem ki_173 : (List.range 29).all (am_cki mm_173) = true := by decide +kernel
theorem mo_173 : am_ok am_P mm_173 := am_ok_of ki_173 (fun _ h => am_hi _ _ h) (pf := pf_11) klf_11 (fun _ h => am_hi _ _ h) (pm := pm_11) klm_11 (fun _ h => am_hi _ _ h) (pc := pc_11) klc_11 (fun _ h => am_hi _ _ h) (px := px_11) klx_11 (fun _ h => am_hi _ _ h)
theorem kc_173 : am_okc mm_173 := am_ckc_ok (p0 := 1454) (p1 := 46) (p2 := 1453) (p3 := 21) (by decide +kernel)
set_option maxRecDepth 100000 in
theorem ki_174 : (List.range 13).all (am_cki mm_174) = true := by decide +kernel
theorem mo_174 : am_ok am_P mm_174 := am_ok_of ki_174 (fun _ h => am_hi _ _ h) (pf := pf_11) klf_11 (fun _ h => am_hi _ _ h) (pm := pm_11) klm_11 (fun _ h => am_hi _ _ h) (pc := pc_11) klc_11 (fun _ h => am_hi _ _ h) (px := px_11) klx_11 (fun _ h => am_hi _ _ h)
theorem kc_174 : am_okc mm_174 := am_ckc_ok (p0 := 1450) (p1 := 46) (p2 := 1449) (p3 := 20) (by decide +kernel)
set_option maxRecDepth 100000 in
theorem ki_175 : (List.range 70).all (am_cki mm_175) = true := by decide +kernel
theorem mo_175 : am_ok am_P mm_175 := am_ok_of ki_175 (fun _ h => am_hi _ _ h) (pf := pf_11) klf_11 (fun _ h => am_hi _ _ h) (pm := pm_11) klm_11 (fun _ h => am_hi _ _ h) (pc := pc_11) klc_11 (fun _ h => am_hi _ _ h) (px := px_11) klx_11 (fun _ h => am_hi _ _ h)
theorem kc_175 : am_okc mm_175 := am_ckc_ok (p0 := 1446) (p1 := 46) (p2 := 1445) (p3 := 19) (by decide +kernel)
set_option maxRecDepth 100000 in
theorem ki_176 : (List.range 48).all (am_cki mm_176) = true := by decide +kernel
theorem mo_176 : am_ok am_P mm_176 := am_ok_of ki_176 (fun _ h => am_hi _ _ h) (pf := pf_11) klf_11 (fun _ h => am_hi _ _ h) (pm := pm_11) klm_11 (fun _ h => am_hi _ _ h) (pc := pc_11) klc_11 (fun _ h => am_hi _ _ h) (px := px_11) klx_11 (fun _ h => am_hi _ _ h)
theorem kc_176 : am_okc mm_176 := am_ckc_ok (p0 := 1459) (p1 := 46) (p2 := 1458) (p3 := 22) (by decide +kernel)
set_option maxRecDepth 100000 in
theorem ki_177 : (List.range 105).all (am_cki mm_177) = true := by decide +kernel
theorem mo_177 : am_ok am_P mm_177 := am_ok_of ki_177 (fun _ h => am_hi _ _ h) (pf := pf_11) klf_11 (fun _ h => am_hi _ _ h) (pm := pm_11) klm_11 (fun _ h => am_hi _ _ h) (pc := pc_11) klc_11 (fun _ h => am_hi _ _ h) (px := px_11) klx_11 (fun _ h => am_hi _ _ h)
theorem kc_177 : am_okc mm_177 := am_ckc_ok (p0 := 1434) (p1 := 46) (p2 := 1433) (p3 := 16) (by decide +kernel)
set_option maxRecDepth 100000 in
theorem ki_178 : (List.range 49).all (am_cki mm_178) = true := by decide +kernel
theorem mo_178 : am_ok am_P mm_178 := am_ok_of ki_178 (fun _ h => am_hi _ _ h) (pf := pf_11) klf_11 (fun _ h => am_hi _ _ h) (pm := pm_11) klm_11 (fun _ h => am_hi _ _ h) (pc := pc_11) klc_11 (fun _ h => am_hi _ _ h) (px := px_11) klx_11 (fun _ h => am_hi _ _ h)
theorem kc_178 : am_okc mm_178 := am_ckc_ok (p0 := 1430) (p1 := 46) (p2 := 1428) (p3 := 1429) (by decide +kernel)
set_option maxRecDepth 100000 in
theorem ki_179 : (List.range 70).all (am_cki mm_179) = true := by decide +kernel
theorem mo_179 : am_ok am_P mm_179 := am_ok_of ki_179 (fun _ h => am_hi _ _ h) (pf := pf_11) klf_11 (fun _ h => am_hi _ _ h) (pm := pm_11) klm_11 (fun _ h => am_hi _ _ h) (pc := pc_11) klc_11 (fun _ h => am_hi _ _ h) (px := px_11) klx_11 (fun _ h => am_hi _ _ h)
theorem kc_179 : am_okc mm_179 := am_ckc_ok (p0 := 1463) (p1 := 46) (p2 := 1461) (p3 := 1462) (by decide +kernel)
set_option maxRecDepth 100000 in
theorem ki_180 : (List.range 41).all (am_cki mm_180) = true := by decide +kernel
theorem mo_180 : am_ok am_P mm_180 := am_ok_of ki_180 (fun _ h => am_hi _ _ h) (pf := pf_11) klf_11 (fun _ h => am_hi _ _ h) (pm := pm_11) klm_11 (fun _ h => am_hi _ _ h) (pc := pc_11) klc_11 (fun _ h => am_hi _ _ h) (px := px_11) klx_11 (fun _ h => am_hi _ _ h)
theorem kc_180 : am_okc mm_180 := am_ckc_ok (p0 := 1467) (p1 := 46) (p2 := 1465) (p3 := 1466) (by decide +kernel)
set_option maxRecDepth 100000 in
theorem ki_181 : (List.range 18).all (am_cki mm_181) = true := by decide +kernel
theorem mo_181 : am_ok am_P mm_181 := am_ok_of ki_181 (fun _ h => am_hi _ _ h) (pf := pf_11) klf_11 (fun _ h => am_hi _ _ h) (pm := pm_11) klm_11 (fun _ h => am_hi _ _ h) (pc := pc_11) klc_11 (fun _ h => am_hi _ _ h) (px := px_11) klx_11 (fun _ h => am_hi _ _ h)
theorem kc_181 : am_okc mm_181 := am_ckc_ok (p0 := 1295) (p1 := 46) (p2 := 1294) (p3 := 4) (by decide +kernel)
set_option maxRecDepth 100000 in
theorem ki_182 : (List.range 95).all (am_cki mm_182) = true := by decide +kernel
theorem mo_182 : am_ok am_P mm_182 := am_ok_of ki_182 (fun _ h => am_hi _ _ h) (pf := pf_11) klf_11 (fun _ h => am_hi _ _ h) (pm := pm_11) klm_11 (fun _ h => am_hi _ _ h) (pc := pc_11) klc_11 (fun _ h => am_hi _ _ h) (px := px_11) klx_11 (fun _ h => am_hi _ _ h)
theorem kc_182 : am_okc mm_182 := am_ckc_ok (p0 := 1471) (p1 := 46) (p2 := 1469) (p3 := 1470) (by decide +kernel)
set_option maxRecDepth 100000 in
theorem ki_183 : (List.range 127).all (am_cki mm_183) = true := by decide +kernel
theorem mo_183 : am_ok am_P mm_183 := am_ok_of ki_183 (fun _ h => am_hi _ _ h) (pf := pf_11) klf_11 (fun _ h => am_hi _ _ h) (pm := pm_11) klm_11 (fun _ h => am_hi _ _ h) (pc := pc_11) klc_11 (fun _ h => am_hi _ _ h) (px := px_11) klx_11 (fun _ h => am_hi _ _ h)
theorem kc_183 : am_okc mm_183 := am_ckc_ok (p0 := 1479) (p1 := 46) (p2 := 1478) (p3 := 23) (by decide +kernel)
set_option maxRecDepth 100000 in
theorem ki_184 : (List.range 162).all (am_cki mm_184) = true := by decide +kernel
theorem mo_184 : am_ok am_P mm_184 := am_ok_of ki_184 (fun _ h => am_hi _ _ h) (pf := pf_11) klf_11 (fun _ h => am_hi _ _ h) (pm := pm_11) klm_11 (fun _ h => am_hi _ _ h) (pc := pc_11) klc_11 (fun _ h => am_hi _ _ h) (px := px_11) klx_11 (fun _ h => am_hi _ _ h)
theorem kc_184 : am_okc mm_184 := am_ckc_ok (p0 := 1475) (p1 := 46) (p2 := 1473) (p3 := 1474) (by decide +kernel)
set_option maxRecDepth 100000 in
theorem ki_185 : (List.range 18).all (am_cki mm_185) = true := by decide +kernel
theorem mo_185 : am_ok am_P mm_185 := am_ok_of ki_185 (fun _ h => am_hi _ _ h) (pf := pf_11) klf_11 (fun _ h => am_hi _ _ h) (pm := pm_11) klm_11 (fun _ h => am_hi _ _ h) (pc := pc_11) klc_11 (fun _ h => am_hi _ _ h) (px := px_11) klx_11 (fun _ h => am_hi _ _ h)
theorem kc_185 : am_okc mm_185 := am_ckc_ok (p0 := 1491) (p1 := 46) (p2 := 1490) (p3 := 24) (by decide +kernel)
set_option maxRecDepth 100000 in
theorem ki_186 : (List.range 99).all (am_cki mm_186) = true := by decide +kernel
theorem mo_186 : am_ok am_P mm_186 := am_ok_of ki_186 (fun _ h => am_hi _ _ h) (pf := pf_11) klf_11 (fun _ h => am_hi _ _ h) (pm := pm_11) klm_11 (fun _ h => am_hi _ _ h) (pc := pc_11) klc_11 (fun _ h => am_hi _ _ h) (px := px_11) klx_11 (fun _ h => am_hi _ _ h)
theorem kc_186 : am_okc mm_186 := am_ckc_ok (p0 := 1483) (p1 := 46) (p2 := 1481) (p3 := 1482) (by decide +kernel)
set_option maxRecDepth 100000 in
theorem ki_187 : (List.range 65).all (am_cki mm_187) = true := by decide +kernel
theorem mo_187 : am_ok am_P mm_187 := am_ok_of ki_187 (fun _ h => am_hi _ _ h) (pf := pf_11) klf_11 (fun _ h => am_hi _ _ h) (pm := pm_11) klm_11 (fun _ h => am_hi _ _ h) (pc := pc_11) klc_11 (fun _ h => am_hi _ _ h) (px := px_11) klx_11 (fun _ h => am_hi _ _ h)
theorem kc_187 : am_okc mm_187 := am_ckc_ok (p0 := 1495) (p1 := 46) (p2 := 1494) (p3 := 25) (by decide +kernel)
set_option maxRecDepth 100000 in
theorem ki_188 : (List.range 233).all (am_cki mm_188) = true := by decide +kernel
theorem mo_188 : am_ok am_P mm_188 := am_ok_of ki_188 (fun _ h => am_hi _ _ h) (pf := pf_11) klf_11 (fun _ h => am_hi _ _ h) (pm := pm_11) klm_11 (fun _ h => am_hi _ _ h) (pc := pc_11) klc_11 (fun _ h => am_hi _ _ h) (px := px_11) klx_11 (fun _ h => am_hi _ _ h)
theorem kc_188 : am_okc mm_188 := am_ckc_ok (p0 := 1487) (p1 := 46) (p2 := 1485) (p3 := 1486) (by decide +kernel)
set_option maxRecDepth 100000 in
theorem ki_189 : (List.range 112).all (am_cki mm_189) = true := by decide +kernel
theorem mo_189 : am_ok am_P mm_189 := am_ok_of ki_189 (fun _ h => am_hi _ _ h) (pf := pf_11) klf_11 (fun _ h => am_hi _ _ h) (pm := pm_11) klm_11 (fun _ h => am_hi _ _ h) (pc := pc_11) klc_11 (fun _ h => am_hi _ _ h) (px := px_11) klx_11 (fun _ h => am_hi _ _ h)
theorem kc_189 : am_okc mm_189 := am_ckc_ok (p0 := 1499) (p1 := 46) (p2 := 1498) (p3 := 26) (by decide +kernel)
set_option maxRecDepth 100000 in
theorem ki_190 : (List.range 35).all (am_cki mm_190) = true := by decide +kernel
theorem mo_190 : am_ok am_P mm_190 := am_ok_of ki_190 (fun _ h => am_hi _ _ h) (pf := pf_11) klf_11 (fun _ h => am_hi _ _ h) (pm := pm_11) klm_11 (fun _ h => am_hi _ _ h) (pc := pc_11) klc_11 (fun _ h => am_hi _ _ h) (px := px_11) klx_11 (fun _ h => am_hi _ _ h)
theorem kc_190 : am_okc mm_190 := am_ckc_ok (p0 := 1503) (p1 := 46) (p2 := 1501) (p3 := 1502) (by decide +kernel)
set_option maxRecDepth 100000 in
theorem ki_191 : (List.range 116).all (am_cki mm_191) = true := by decide +kernel
theorem mo_191 : am_ok am_P mm_191 := am_ok_of ki_191 (fun _ h => am_hi _ _ h) (pf := pf_11) klf_11 (fun _ h => am_hi _ _ h) (pm := pm_11) klm_11 (fun _ h => am_hi _ _ h) (pc := pc_11) klc_11 (fun _ h => am_hi _ _ h) (px := px_11) klx_11 (fun _ h => am_hi _ _ h)
theorem kc_191 : am_okc mm_191 := am_ckc_ok (p0 := 1507) (p1 := 46) (p2 := 1505) (p3 := 1506) (by decide +kernel)
set_option maxRecDepth 100000 in
theorem ki_192 : (List.range 18).all (am_cki mm_192) = true := by decide +kernel
theorem mo_192 : am_ok am_P mm_192 := am_ok_of ki_192 (fun _ h => am_hi _ _ h) (pf := pf_11) klf_11 (fun _ h => am_hi _ _ h) (pm := pm_11) klm_11 (fun _ h => am_hi _ _ h) (pc := pc_11) klc_11 (fun _ h => am_hi _ _ h) (px := px_11) klx_11 (fun _ h => am_hi _ _ h)
theorem kc_192 : am_okc mm_192 := am_ckc_ok (p0 := 1351) (p1 := 46) (p2 := 1350) (p3 := 9) (by decide +kernel)
set_option maxRecDepth 100000 in
theorem ki_193 : (List.range 37).all (am_cki mm_193) = true := by decide +kernel
theorem mo_193 : am_ok am_P mm_193 := am_ok_of ki_193 (fun _ h => am_hi _ _ h) (pf := pf_11) klf_11 (fun _ h => am_hi _ _ h) (pm := pm_11) klm_11 (fun _ h => am_hi _ _ h) (pc := pc_11) klc_11 (fun _ h => am_hi _ _ h) (px := px_11) klx_11 (fun _ h => am_hi _ _ h)
theorem kc_193 : am_okc mm_193 := am_ckc_ok (p0 := 1511) (p1 := 46) (p2 := 1509) (p3 := 1510) (by decide +kernel)
set_option maxRecDepth 100000 in
theorem ki_194 : (List.range 18).all (am_cki mm_194) = true := by decide +kernel
theorem mo_194 : am_ok am_P mm_194 := am_ok_of ki_194 (fun _ h => am_hi _ _ h) (pf := pf_11) klf_11 (fun _ h => am_hi _ _ h) (pm := pm_11) klm_11 (fun _ h => am_hi _ _ h) (pc := pc_11) klc_11 (fun _ h => am_hi _ _ h) (px := px_11) klx_11 (fun _ h => am_hi _ _ h)
theorem kc_194 : am_okc mm_194 := am_ckc_ok (p0 := 1527) (p1 := 46) (p2 := 1526) (p3 := 27) (by decide +kernel)
set_option maxRecDepth 100000 in
theorem ki_195 : (List.range 143).all (am_cki mm_195) = true := by decide +kernel
theorem mo_195 : am_ok am_P mm_195 := am_ok_of ki_195 (fun _ h => am_hi _ _ h) (pf := pf_11) klf_11 (fun _ h => am_hi _ _ h) (pm := pm_11) klm_11 (fun _ h => am_hi _ _ h) (pc := pc_11) klc_11 (fun _ h => am_hi _ _ h) (px := px_11) klx_11 (fun _ h => am_hi _ _ h)
theorem kc_195 : am_okc mm_195 := am_ckc_ok (p0 := 1515) (p1 := 46) (p2 := 1513) (p3 := 1514) (by decide +kernel)
set_option maxRecDepth 100000 in
theorem ki_196 : (List.range 54).all (am_cki mm_196) = true := by decide +kernel
theorem mo_196 : am_ok am_P mm_196 := am_ok_of ki_196 (fun _ h => am_hi _ _ h) (pf := pf_11) klf_11 (fun _ h => am_hi _ _ h) (pm := pm_11) klm_11 (fun _ h => am_hi _ _ h) (pc := pc_11) klc_11 (fun _ h => am_hi _ _ h) (px := px_11) klx_11 (fun _ h => am_hi _ _ h)
theorem kc_196 : am_okc mm_196 := am_ckc_ok (p0 := 1519) (p1 := 46) (p2 := 1517) (p3 := 1518) (by decide +kernel)
set_option maxRecDepth 100000 in
theorem ki_197 : (List.range 56).all (am_cki mm_197) = true := by decide +kernel
theorem mo_197 : am_ok am_P mm_197 := am_ok_of ki_197 (fun _ h => am_hi _ _ h) (pf := pf_11) klf_11 (fun _ h => am_hi _ _ h) (pm := pm_11) klm_11 (fun _ h => am_hi _ _ h) (pc := pc_11) klc_11 (fun _ h => am_hi _ _ h) (px := px_11) klx_11 (fun _ h => am_hi _ _ h)
theorem kc_197 : am_okc mm_197 := am_ckc_ok (p0 := 1531) (p1 := 46) (p2 := 1530) (p3 := 28) (by decide +kernel)
set_option maxRecDepth 100000 in
theorem ki_198 : (List.range 22).all (am_cki mm_198) = true := by decide +kernel
theorem mo_198 : am_ok am_P mm_198 := am_ok_of ki_198 (fun _ h => am_hi _ _ h) (pf := pf_11) klf_11 (fun _ h => am_hi _ _ h) (pm := pm_11) klm_11 (fun _ h => am_hi _ _ h) (pc := pc_11) klc_11 (fun _ h => am_hi _ _ h) (px := px_11) klx_11 (fun _ h => am_hi _ _ h)
theorem kc_198 : am_okc mm_198 := am_ckc_ok (p0 := 1523) (p1 := 46) (p2 := 1521) (p3 := 1522) (by decide +kernel)
set_option maxRecDepth 100000 in
theorem ki_199 : (List.range 77).all (am_cki mm_199) = true := by decide +kernel
theorem mo_199 : am_ok am_P mm_199 := am_ok_of ki_199 (fun _ h => am_hi _ _ h) (pf := pf_11) klf_11 (fun _ h => am_hi _ _ h) (pm := pm_11) klm_11 (fun _ h => am_hi _ _ h) (pc := pc_11) klc_11 (fun _ h => am_hi _ _ h) (px := px_11) klx_11 (fun _ h => am_hi _ _ h)
theorem kc_199 : am_okc mm_199 := am_ckc_ok (p0 := 1535) (p1 := 46) (p2 := 1533) (p3 := 1534) (by decide +kernel)
set_option maxRecDepth 100000 in
theorem ki_200 : (List.range 18).all (am_cki mm_200) = true := by decide +kernel
theorem mo_200 : am_ok am_P mm_200 := am_ok_of ki_200 (fun _ h => am_hi _ _ h) (pf := pf_11) klf_11 (fun _ h => am_hi _ _ h) (pm := pm_11) klm_11 (fun _ h => am_hi _ _ h) (pc := pc_11) klc_11 (fun _ h => am_hi _ _ h) (px := px_11) klx_11 (fun _ h => am_hi _ _ h)
theorem kc_200 : am_okc mm_200 := am_ckc_ok (p0 := 1547) (p1 := 46) (p2 := 1546) (p3 := 29) (by decide +kernel)
set_option maxRecDepth 100000 in
theorem ki_201 : (List.range 69).all (am_cki mm_201) = true := by decide +kernel
theorem mo_201 : am_ok am_P mm_201 := am_ok_of ki_201 (fun _ h => am_hi _ _ h) (pf := pf_11) klf_11 (fun _ h => am_hi _ _ h) (pm := pm_11) klm_11 (fun _ h => am_hi _ _ h) (pc := pc_11) klc_11 (fun _ h => am_hi _ _ h) (px := px_11) klx_11 (fun _ h => am_hi _ _ h)
theorem kc_201 : am_okc mm_201 := am_ckc_ok (p0 := 1539) (p1 := 46) (p2 := 1537) (p3 := 1538) (by decide +kernel)
set_option maxRecDepth 100000 in
theorem ki_202 : (List.range 61).all (am_cki mm_202) = true := by decide +kernel
theorem mo_202 : am_ok am_P mm_202 := am_ok_of ki_202 (fun _ h => am_hi _ _ h) (pf := pf_11) klf_11 (fun _ h => am_hi _ _ h) (pm := pm_11) klm_11 (fun _ h => am_hi _ _ h) (pc := pc_11) klc_11 (fun _ h => am_hi _ _ h) (px := px_11) klx_11 (fun _ h => am_hi _ _ h)
theorem kc_202 : am_okc mm_202 := am_ckc_ok (p0 := 1543) (p1 := 46) (p2 := 1541) (p3 := 1542) (by decide +kernel)
