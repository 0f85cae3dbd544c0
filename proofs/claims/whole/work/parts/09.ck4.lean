set_option maxRecDepth 100000 in
theorem ki_203 : (List.range 18).all (am_cki mm_203) = true := by decide +kernel
theorem mo_203 : am_ok am_P mm_203 := am_ok_of ki_203 (fun _ h => am_hi _ _ h) (pf := pf_11) klf_11 (fun _ h => am_hi _ _ h) (pm := pm_11) klm_11 (fun _ h => am_hi _ _ h) (pc := pc_11) klc_11 (fun _ h => am_hi _ _ h) (px := px_11) klx_11 (fun _ h => am_hi _ _ h)
theorem kc_203 : am_okc mm_203 := am_ckc_ok (p0 := 1411) (p1 := 46) (p2 := 1410) (p3 := 15) (by decide +kernel)
set_option maxRecDepth 100000 in
theorem ki_204 : (List.range 42).all (am_cki mm_204) = true := by decide +kernel
theorem mo_204 : am_ok am_P mm_204 := am_ok_of ki_204 (fun _ h => am_hi _ _ h) (pf := pf_11) klf_11 (fun _ h => am_hi _ _ h) (pm := pm_11) klm_11 (fun _ h => am_hi _ _ h) (pc := pc_11) klc_11 (fun _ h => am_hi _ _ h) (px := px_11) klx_11 (fun _ h => am_hi _ _ h)
theorem kc_204 : am_okc mm_204 := am_ckc_ok (p0 := 1559) (p1 := 46) (p2 := 1558) (p3 := 31) (by decide +kernel)
set_option maxRecDepth 100000 in
theorem ki_205 : (List.range 47).all (am_cki mm_205) = true := by decide +kernel
theorem mo_205 : am_ok am_P mm_205 := am_ok_of ki_205 (fun _ h => am_hi _ _ h) (pf := pf_11) klf_11 (fun _ h => am_hi _ _ h) (pm := pm_11) klm_11 (fun _ h => am_hi _ _ h) (pc := pc_11) klc_11 (fun _ h => am_hi _ _ h) (px := px_11) klx_11 (fun _ h => am_hi _ _ h)
theorem kc_205 : am_okc mm_205 := am_ckc_ok (p0 := 1563) (p1 := 46) (p2 := 1562) (p3 := 32) (by decide +kernel)
set_option maxRecDepth 100000 in
theorem ki_206 : (List.range 170).all (am_cki mm_206) = true := by decide +kernel
theorem mo_206 : am_ok am_P mm_206 := am_ok_of ki_206 (fun _ h => am_hi _ _ h) (pf := pf_11) klf_11 (fun _ h => am_hi _ _ h) (pm := pm_11) klm_11 (fun _ h => am_hi _ _ h) (pc := pc_11) klc_11 (fun _ h => am_hi _ _ h) (px := px_11) klx_11 (fun _ h => am_hi _ _ h)
theorem kc_206 : am_okc mm_206 := am_ckc_ok (p0 := 1555) (p1 := 46) (p2 := 1554) (p3 := 30) (by decide +kernel)
set_option maxRecDepth 100000 in
theorem ki_207 : (List.range 139).all (am_cki mm_207) = true := by decide +kernel
theorem mo_207 : am_ok am_P mm_207 := am_ok_of ki_207 (fun _ h => am_hi _ _ h) (pf := pf_11) klf_11 (fun _ h => am_hi _ _ h) (pm := pm_11) klm_11 (fun _ h => am_hi _ _ h) (pc := pc_11) klc_11 (fun _ h => am_hi _ _ h) (px := px_11) klx_11 (fun _ h => am_hi _ _ h)
theorem kc_207 : am_okc mm_207 := am_ckc_ok (p0 := 1551) (p1 := 46) (p2 := 1549) (p3 := 1550) (by decide +kernel)
set_option maxRecDepth 100000 in
theorem ki_208 : (List.range 40).all (am_cki mm_208) = true := by decide +kernel
theorem mo_208 : am_ok am_P mm_208 := am_ok_of ki_208 (fun _ h => am_hi _ _ h) (pf := pf_11) klf_11 (fun _ h => am_hi _ _ h) (pm := pm_11) klm_11 (fun _ h => am_hi _ _ h) (pc := pc_11) klc_11 (fun _ h => am_hi _ _ h) (px := px_11) klx_11 (fun _ h => am_hi _ _ h)
theorem kc_208 : am_okc mm_208 := am_ckc_ok (p0 := 1567) (p1 := 46) (p2 := 1565) (p3 := 1566) (by decide +kernel)
set_option maxRecDepth 100000 in
theorem ki_209 : (List.range 57).all (am_cki mm_209) = true := by decide +kernel
theorem mo_209 : am_ok am_P mm_209 := am_ok_of ki_209 (fun _ h => am_hi _ _ h) (pf := pf_11) klf_11 (fun _ h => am_hi _ _ h) (pm := pm_11) klm_11 (fun _ h => am_hi _ _ h) (pc := pc_11) klc_11 (fun _ h => am_hi _ _ h) (px := px_11) klx_11 (fun _ h => am_hi _ _ h)
theorem kc_209 : am_okc mm_209 := am_ckc_ok (p0 := 1571) (p1 := 46) (p2 := 1569) (p3 := 1570) (by decide +kernel)
set_option maxRecDepth 100000 in
theorem ki_210 : (List.range 42).all (am_cki mm_210) = true := by decide +kernel
theorem mo_210 : am_ok am_P mm_210 := am_ok_of ki_210 (fun _ h => am_hi _ _ h) (pf := pf_11) klf_11 (fun _ h => am_hi _ _ h) (pm := pm_11) klm_11 (fun _ h => am_hi _ _ h) (pc := pc_11) klc_11 (fun _ h => am_hi _ _ h) (px := px_11) klx_11 (fun _ h => am_hi _ _ h)
theorem kc_210 : am_okc mm_210 := am_ckc_ok (p0 := 1579) (p1 := 46) (p2 := 1578) (p3 := 33) (by decide +kernel)
set_option maxRecDepth 100000 in
theorem ki_211 : (List.range 177).all (am_cki mm_211) = true := by decide +kernel
theorem mo_211 : am_ok am_P mm_211 := am_ok_of ki_211 (fun _ h => am_hi _ _ h) (pf := pf_11) klf_11 (fun _ h => am_hi _ _ h) (pm := pm_11) klm_11 (fun _ h => am_hi _ _ h) (pc := pc_11) klc_11 (fun _ h => am_hi _ _ h) (px := px_11) klx_11 (fun _ h => am_hi _ _ h)
theorem kc_211 : am_okc mm_211 := am_ckc_ok (p0 := 1575) (p1 := 46) (p2 := 1573) (p3 := 1574) (by decide +kernel)
set_option maxRecDepth 100000 in
theorem ki_212 : (List.range 24).all (am_cki mm_212) = true := by decide +kernel
theorem mo_212 : am_ok am_P mm_212 := am_ok_of ki_212 (fun _ h => am_hi _ _ h) (pf := pf_11) klf_11 (fun _ h => am_hi _ _ h) (pm := pm_11) klm_11 (fun _ h => am_hi _ _ h) (pc := pc_11) klc_11 (fun _ h => am_hi _ _ h) (px := px_11) klx_11 (fun _ h => am_hi _ _ h)
theorem kc_212 : am_okc mm_212 := am_ckc_ok (p0 := 1583) (p1 := 46) (p2 := 1581) (p3 := 1582) (by decide +kernel)
set_option maxRecDepth 100000 in
theorem ki_213 : (List.range 15).all (am_cki mm_213) = true := by decide +kernel
theorem mo_213 : am_ok am_P mm_213 := am_ok_of ki_213 (fun _ h => am_hi _ _ h) (pf := pf_11) klf_11 (fun _ h => am_hi _ _ h) (pm := pm_11) klm_11 (fun _ h => am_hi _ _ h) (pc := pc_11) klc_11 (fun _ h => am_hi _ _ h) (px := px_11) klx_11 (fun _ h => am_hi _ _ h)
theorem kc_213 : am_okc mm_213 := am_ckc_ok (p0 := 1306) (p1 := 46) (p2 := 1305) (p3 := 0) (by decide +kernel)
set_option maxRecDepth 100000 in
theorem ki_214 : (List.range 78).all (am_cki mm_214) = true := by decide +kernel
theorem mo_214 : am_ok am_P mm_214 := am_ok_of ki_214 (fun _ h => am_hi _ _ h) (pf := pf_11) klf_11 (fun _ h => am_hi _ _ h) (pm := pm_11) klm_11 (fun _ h => am_hi _ _ h) (pc := pc_11) klc_11 (fun _ h => am_hi _ _ h) (px := px_11) klx_11 (fun _ h => am_hi _ _ h)
theorem kc_214 : am_okc mm_214 := am_ckc_ok (p0 := 1279) (p1 := 46) (p2 := 1277) (p3 := 1278) (by decide +kernel)
set_option maxRecDepth 100000 in
theorem ki_215 : (List.range 127).all (am_cki mm_215) = true := by decide +kernel
theorem mo_215 : am_ok am_P mm_215 := am_ok_of ki_215 (fun _ h => am_hi _ _ h) (pf := pf_11) klf_11 (fun _ h => am_hi _ _ h) (pm := pm_11) klm_11 (fun _ h => am_hi _ _ h) (pc := pc_11) klc_11 (fun _ h => am_hi _ _ h) (px := px_11) klx_11 (fun _ h => am_hi _ _ h)
theorem kc_215 : am_okc mm_215 := am_ckc_ok (p0 := 1291) (p1 := 46) (p2 := 1289) (p3 := 1290) (by decide +kernel)
set_option maxRecDepth 100000 in
theorem ki_216 : (List.range 80).all (am_cki mm_216) = true := by decide +kernel
theorem mo_216 : am_ok am_P mm_216 := am_ok_of ki_216 (fun _ h => am_hi _ _ h) (pf := pf_13) klf_13 (fun _ h => am_hi _ _ h) (pm := pm_13) klm_13 (fun _ h => am_hi _ _ h) (pc := pc_13) klc_13 (fun _ h => am_hi _ _ h) (px := px_13) klx_13 (fun _ h => am_hi _ _ h)
theorem kc_216 : am_okc mm_216 := am_ckc_ok (p0 := 844) (p1 := 50) (p2 := 843) (p3 := 0) (by decide +kernel)
set_option maxRecDepth 100000 in
theorem ki_217 : (List.range 53).all (am_cki mm_217) = true := by decide +kernel
theorem mo_217 : am_ok am_P mm_217 := am_ok_of ki_217 (fun _ h => am_hi _ _ h) (pf := pf_13) klf_13 (fun _ h => am_hi _ _ h) (pm := pm_13) klm_13 (fun _ h => am_hi _ _ h) (pc := pc_13) klc_13 (fun _ h => am_hi _ _ h) (px := px_13) klx_13 (fun _ h => am_hi _ _ h)
theorem kc_217 : am_okc mm_217 := am_ckc_ok (p0 := 1021) (p1 := 50) (p2 := 1020) (p3 := 0) (by decide +kernel)
set_option maxRecDepth 100000 in
theorem ki_218 : (List.range 21).all (am_cki mm_218) = true := by decide +kernel
theorem mo_218 : am_ok am_P mm_218 := am_ok_of ki_218 (fun _ h => am_hi _ _ h) (pf := pf_14) klf_14 (fun _ h => am_hi _ _ h) (pm := pm_14) klm_14 (fun _ h => am_hi _ _ h) (pc := pc_14) klc_14 (fun _ h => am_hi _ _ h) (px := px_14) klx_14 (fun _ h => am_hi _ _ h)
theorem kc_218 : am_okc mm_218 := am_ckc_ok (p0 := 564) (p1 := 47) (p2 := 563) (p3 := 0) (by decide +kernel)
