set_option maxRecDepth 100000 in
theorem ki_124 : (List.range 85).all (am_cki mm_124) = true := by decide +kernel
theorem mo_124 : am_ok am_P mm_124 := am_ok_of ki_124 (fun _ h => am_hi _ _ h) (pf := pf_10) klf_10 (fun _ h => am_hi _ _ h) (pm := pm_10) klm_10 (fun _ h => am_hi _ _ h) (pc := pc_10) klc_10 (fun _ h => am_hi _ _ h) (px := px_10) klx_10 (fun _ h => am_hi _ _ h)
theorem kc_124 : am_okc mm_124 := am_ckc_ok (p0 := 1010) (p1 := 35) (p2 := 1008) (p3 := 1009) (by decide +kernel)
set_option maxRecDepth 100000 in
theorem ki_125 : (List.range 41).all (am_cki mm_125) = true := by decide +kernel
theorem mo_125 : am_ok am_P mm_125 := am_ok_of ki_125 (fun _ h => am_hi _ _ h) (pf := pf_10) klf_10 (fun _ h => am_hi _ _ h) (pm := pm_10) klm_10 (fun _ h => am_hi _ _ h) (pc := pc_10) klc_10 (fun _ h => am_hi _ _ h) (px := px_10) klx_10 (fun _ h => am_hi _ _ h)
theorem kc_125 : am_okc mm_125 := am_ckc_ok (p0 := 1045) (p1 := 35) (p2 := 1043) (p3 := 1044) (by decide +kernel)
set_option maxRecDepth 100000 in
theorem ki_126 : (List.range 68).all (am_cki mm_126) = true := by decide +kernel
theorem mo_126 : am_ok am_P mm_126 := am_ok_of ki_126 (fun _ h => am_hi _ _ h) (pf := pf_10) klf_10 (fun _ h => am_hi _ _ h) (pm := pm_10) klm_10 (fun _ h => am_hi _ _ h) (pc := pc_10) klc_10 (fun _ h => am_hi _ _ h) (px := px_10) klx_10 (fun _ h => am_hi _ _ h)
theorem kc_126 : am_okc mm_126 := am_ckc_ok (p0 := 1049) (p1 := 35) (p2 := 1047) (p3 := 1048) (by decide +kernel)
set_option maxRecDepth 100000 in
theorem ki_127 : (List.range 199).all (am_cki mm_127) = true := by decide +kernel
theorem mo_127 : am_ok am_P mm_127 := am_ok_of ki_127 (fun _ h => am_hi _ _ h) (pf := pf_10) klf_10 (fun _ h => am_hi _ _ h) (pm := pm_10) klm_10 (fun _ h => am_hi _ _ h) (pc := pc_10) klc_10 (fun _ h => am_hi _ _ h) (px := px_10) klx_10 (fun _ h => am_hi _ _ h)
theorem kc_127 : am_okc mm_127 := am_ckc_ok (p0 := 1053) (p1 := 35) (p2 := 1051) (p3 := 1052) (by decide +kernel)
set_option maxRecDepth 100000 in
theorem ki_128 : (List.range 24).all (am_cki mm_128) = true := by decide +kernel
theorem mo_128 : am_ok am_P mm_128 := am_ok_of ki_128 (fun _ h => am_hi _ _ h) (pf := pf_10) klf_10 (fun _ h => am_hi _ _ h) (pm := pm_10) klm_10 (fun _ h => am_hi _ _ h) (pc := pc_10) klc_10 (fun _ h => am_hi _ _ h) (px := px_10) klx_10 (fun _ h => am_hi _ _ h)
theorem kc_128 : am_okc mm_128 := am_ckc_ok (p0 := 1067) (p1 := 35) (p2 := 1065) (p3 := 1066) (by decide +kernel)
set_option maxRecDepth 100000 in
theorem ki_129 : (List.range 28).all (am_cki mm_129) = true := by decide +kernel
theorem mo_129 : am_ok am_P mm_129 := am_ok_of ki_129 (fun _ h => am_hi _ _ h) (pf := pf_10) klf_10 (fun _ h => am_hi _ _ h) (pm := pm_10) klm_10 (fun _ h => am_hi _ _ h) (pc := pc_10) klc_10 (fun _ h => am_hi _ _ h) (px := px_10) klx_10 (fun _ h => am_hi _ _ h)
theorem kc_129 : am_okc mm_129 := am_ckc_ok (p0 := 478) (p1 := 35) (p2 := 477) (p3 := 0) (by decide +kernel)
set_option maxRecDepth 100000 in
theorem ki_130 : (List.range 15).all (am_cki mm_130) = true := by decide +kernel
theorem mo_130 : am_ok am_P mm_130 := am_ok_of ki_130 (fun _ h => am_hi _ _ h) (pf := pf_10) klf_10 (fun _ h => am_hi _ _ h) (pm := pm_10) klm_10 (fun _ h => am_hi _ _ h) (pc := pc_10) klc_10 (fun _ h => am_hi _ _ h) (px := px_10) klx_10 (fun _ h => am_hi _ _ h)
theorem kc_130 : am_okc mm_130 := am_ckc_ok (p0 := 495) (p1 := 35) (p2 := 494) (p3 := 0) (by decide +kernel)
set_option maxRecDepth 100000 in
theorem ki_131 : (List.range 61).all (am_cki mm_131) = true := by decide +kernel
theorem mo_131 : am_ok am_P mm_131 := am_ok_of ki_131 (fun _ h => am_hi _ _ h) (pf := pf_10) klf_10 (fun _ h => am_hi _ _ h) (pm := pm_10) klm_10 (fun _ h => am_hi _ _ h) (pc := pc_10) klc_10 (fun _ h => am_hi _ _ h) (px := px_10) klx_10 (fun _ h => am_hi _ _ h)
theorem kc_131 : am_okc mm_131 := am_ckc_ok (p0 := 759) (p1 := 35) (p2 := 758) (p3 := 1) (by decide +kernel)
set_option maxRecDepth 100000 in
theorem ki_132 : (List.range 29).all (am_cki mm_132) = true := by decide +kernel
theorem mo_132 : am_ok am_P mm_132 := am_ok_of ki_132 (fun _ h => am_hi _ _ h) (pf := pf_10) klf_10 (fun _ h => am_hi _ _ h) (pm := pm_10) klm_10 (fun _ h => am_hi _ _ h) (pc := pc_10) klc_10 (fun _ h => am_hi _ _ h) (px := px_10) klx_10 (fun _ h => am_hi _ _ h)
theorem kc_132 : am_okc mm_132 := am_ckc_ok (p0 := 809) (p1 := 35) (p2 := 808) (p3 := 2) (by decide +kernel)
set_option maxRecDepth 100000 in
theorem ki_133 : (List.range 61).all (am_cki mm_133) = true := by decide +kernel
theorem mo_133 : am_ok am_P mm_133 := am_ok_of ki_133 (fun _ h => am_hi _ _ h) (pf := pf_10) klf_10 (fun _ h => am_hi _ _ h) (pm := pm_10) klm_10 (fun _ h => am_hi _ _ h) (pc := pc_10) klc_10 (fun _ h => am_hi _ _ h) (px := px_10) klx_10 (fun _ h => am_hi _ _ h)
theorem kc_133 : am_okc mm_133 := am_ckc_ok (p0 := 503) (p1 := 35) (p2 := 501) (p3 := 502) (by decide +kernel)
set_option maxRecDepth 100000 in
theorem ki_134 : (List.range 47).all (am_cki mm_134) = true := by decide +kernel
theorem mo_134 : am_ok am_P mm_134 := am_ok_of ki_134 (fun _ h => am_hi _ _ h) (pf := pf_10) klf_10 (fun _ h => am_hi _ _ h) (pm := pm_10) klm_10 (fun _ h => am_hi _ _ h) (pc := pc_10) klc_10 (fun _ h => am_hi _ _ h) (px := px_10) klx_10 (fun _ h => am_hi _ _ h)
theorem kc_134 : am_okc mm_134 := am_ckc_ok (p0 := 515) (p1 := 35) (p2 := 513) (p3 := 514) (by decide +kernel)
set_option maxRecDepth 100000 in
theorem ki_135 : (List.range 47).all (am_cki mm_135) = true := by decide +kernel
theorem mo_135 : am_ok am_P mm_135 := am_ok_of ki_135 (fun _ h => am_hi _ _ h) (pf := pf_10) klf_10 (fun _ h => am_hi _ _ h) (pm := pm_10) klm_10 (fun _ h => am_hi _ _ h) (pc := pc_10) klc_10 (fun _ h => am_hi _ _ h) (px := px_10) klx_10 (fun _ h => am_hi _ _ h)
theorem kc_135 : am_okc mm_135 := am_ckc_ok (p0 := 519) (p1 := 35) (p2 := 517) (p3 := 518) (by decide +kernel)
set_option maxRecDepth 100000 in
theorem ki_136 : (List.range 27).all (am_cki mm_136) = true := by decide +kernel
theorem mo_136 : am_ok am_P mm_136 := am_ok_of ki_136 (fun _ h => am_hi _ _ h) (pf := pf_10) klf_10 (fun _ h => am_hi _ _ h) (pm := pm_10) klm_10 (fun _ h => am_hi _ _ h) (pc := pc_10) klc_10 (fun _ h => am_hi _ _ h) (px := px_10) klx_10 (fun _ h => am_hi _ _ h)
theorem kc_136 : am_okc mm_136 := am_ckc_ok (p0 := 523) (p1 := 35) (p2 := 521) (p3 := 522) (by decide +kernel)
set_option maxRecDepth 100000 in
theorem ki_137 : (List.range 35).all (am_cki mm_137) = true := by decide +kernel
theorem mo_137 : am_ok am_P mm_137 := am_ok_of ki_137 (fun _ h => am_hi _ _ h) (pf := pf_10) klf_10 (fun _ h => am_hi _ _ h) (pm := pm_10) klm_10 (fun _ h => am_hi _ _ h) (pc := pc_10) klc_10 (fun _ h => am_hi _ _ h) (px := px_10) klx_10 (fun _ h => am_hi _ _ h)
theorem kc_137 : am_okc mm_137 := am_ckc_ok (p0 := 539) (p1 := 35) (p2 := 537) (p3 := 538) (by decide +kernel)
set_option maxRecDepth 100000 in
theorem ki_138 : (List.range 84).all (am_cki mm_138) = true := by decide +kernel
theorem mo_138 : am_ok am_P mm_138 := am_ok_of ki_138 (fun _ h => am_hi _ _ h) (pf := pf_10) klf_10 (fun _ h => am_hi _ _ h) (pm := pm_10) klm_10 (fun _ h => am_hi _ _ h) (pc := pc_10) klc_10 (fun _ h => am_hi _ _ h) (px := px_10) klx_10 (fun _ h => am_hi _ _ h)
theorem kc_138 : am_okc mm_138 := am_ckc_ok (p0 := 556) (p1 := 35) (p2 := 554) (p3 := 555) (by decide +kernel)
set_option maxRecDepth 100000 in
theorem ki_139 : (List.range 98).all (am_cki mm_139) = true := by decide +kernel
theorem mo_139 : am_ok am_P mm_139 := am_ok_of ki_139 (fun _ h => am_hi _ _ h) (pf := pf_11) klf_11 (fun _ h => am_hi _ _ h) (pm := pm_11) klm_11 (fun _ h => am_hi _ _ h) (pc := pc_11) klc_11 (fun _ h => am_hi _ _ h) (px := px_11) klx_11 (fun _ h => am_hi _ _ h)
theorem kc_139 : am_okc mm_139 := am_ckc_ok (p0 := 1299) (p1 := 46) (p2 := 1297) (p3 := 1298) (by decide +kernel)
set_option maxRecDepth 100000 in
theorem ki_140 : (List.range 37).all (am_cki mm_140) = true := by decide +kernel
theorem mo_140 : am_ok am_P mm_140 := am_ok_of ki_140 (fun _ h => am_hi _ _ h) (pf := pf_11) klf_11 (fun _ h => am_hi _ _ h) (pm := pm_11) klm_11 (fun _ h => am_hi _ _ h) (pc := pc_11) klc_11 (fun _ h => am_hi _ _ h) (px := px_11) klx_11 (fun _ h => am_hi _ _ h)
theorem kc_140 : am_okc mm_140 := am_ckc_ok (p0 := 1303) (p1 := 46) (p2 := 1301) (p3 := 1302) (by decide +kernel)
set_option maxRecDepth 100000 in
theorem ki_141 : (List.range 37).all (am_cki mm_141) = true := by decide +kernel
theorem mo_141 : am_ok am_P mm_141 := am_ok_of ki_141 (fun _ h => am_hi _ _ h) (pf := pf_11) klf_11 (fun _ h => am_hi _ _ h) (pm := pm_11) klm_11 (fun _ h => am_hi _ _ h) (pc := pc_11) klc_11 (fun _ h => am_hi _ _ h) (px := px_11) klx_11 (fun _ h => am_hi _ _ h)
theorem kc_141 : am_okc mm_141 := am_ckc_ok (p0 := 1310) (p1 := 46) (p2 := 1308) (p3 := 1309) (by decide +kernel)
set_option maxRecDepth 100000 in
theorem ki_142 : (List.range 117).all (am_cki mm_142) = true := by decide +kernel
theorem mo_142 : am_ok am_P mm_142 := am_ok_of ki_142 (fun _ h => am_hi _ _ h) (pf := pf_11) klf_11 (fun _ h => am_hi _ _ h) (pm := pm_11) klm_11 (fun _ h => am_hi _ _ h) (pc := pc_11) klc_11 (fun _ h => am_hi _ _ h) (px := px_11) klx_11 (fun _ h => am_hi _ _ h)
theorem kc_142 : am_okc mm_142 := am_ckc_ok (p0 := 1322) (p1 := 46) (p2 := 1321) (p3 := 6) (by decide +kernel)
set_option maxRecDepth 100000 in
theorem ki_143 : (List.range 46).all (am_cki mm_143) = true := by decide +kernel
theorem mo_143 : am_ok am_P mm_143 := am_ok_of ki_143 (fun _ h => am_hi _ _ h) (pf := pf_11) klf_11 (fun _ h => am_hi _ _ h) (pm := pm_11) klm_11 (fun _ h => am_hi _ _ h) (pc := pc_11) klc_11 (fun _ h => am_hi _ _ h) (px := px_11) klx_11 (fun _ h => am_hi _ _ h)
theorem kc_143 : am_okc mm_143 := am_ckc_ok (p0 := 1318) (p1 := 46) (p2 := 1317) (p3 := 5) (by decide +kernel)
set_option maxRecDepth 100000 in
theorem ki_144 : (List.range 22).all (am_cki mm_144) = true := by decide +kernel
theorem mo_144 : am_ok am_P mm_144 := am_ok_of ki_144 (fun _ h => am_hi _ _ h) (pf := pf_11) klf_11 (fun _ h => am_hi _ _ h) (pm := pm_11) klm_11 (fun _ h => am_hi _ _ h) (pc := pc_11) klc_11 (fun _ h => am_hi _ _ h) (px := px_11) klx_11 (fun _ h => am_hi _ _ h)
theorem kc_144 : am_okc mm_144 := am_ckc_ok (p0 := 1314) (p1 := 46) (p2 := 1312) (p3 := 1313) (by decide +kernel)
set_option maxRecDepth 100000 in
theorem ki_145 : (List.range 177).all (am_cki mm_145) = true := by decide +kernel
theorem mo_145 : am_ok am_P mm_145 := am_ok_of ki_145 (fun _ h => am_hi _ _ h) (pf := pf_11) klf_11 (fun _ h => am_hi _ _ h) (pm := pm_11) klm_11 (fun _ h => am_hi _ _ h) (pc := pc_11) klc_11 (fun _ h => am_hi _ _ h) (px := px_11) klx_11 (fun _ h => am_hi _ _ h)
theorem kc_145 : am_okc mm_145 := am_ckc_ok (p0 := 1330) (p1 := 46) (p2 := 1329) (p3 := 7) (by decide +kernel)
set_option maxRecDepth 100000 in
theorem ki_146 : (List.range 28).all (am_cki mm_146) = true := by decide +kernel
theorem mo_146 : am_ok am_P mm_146 := am_ok_of ki_146 (fun _ h => am_hi _ _ h) (pf := pf_11) klf_11 (fun _ h => am_hi _ _ h) (pm := pm_11) klm_11 (fun _ h => am_hi _ _ h) (pc := pc_11) klc_11 (fun _ h => am_hi _ _ h) (px := px_11) klx_11 (fun _ h => am_hi _ _ h)
theorem kc_146 : am_okc mm_146 := am_ckc_ok (p0 := 1326) (p1 := 46) (p2 := 1324) (p3 := 1325) (by decide +kernel)
set_option maxRecDepth 100000 in
theorem ki_147 : (List.range 264).all (am_cki mm_147) = true := by decide +kernel
theorem mo_147 : am_ok am_P mm_147 := am_ok_of ki_147 (fun _ h => am_hi _ _ h) (pf := pf_11) klf_11 (fun _ h => am_hi _ _ h) (pm := pm_11) klm_11 (fun _ h => am_hi _ _ h) (pc := pc_11) klc_11 (fun _ h => am_hi _ _ h) (px := px_11) klx_11 (fun _ h => am_hi _ _ h)
theorem kc_147 : am_okc mm_147 := am_ckc_ok (p0 := 1338) (p1 := 46) (p2 := 1337) (p3 := 8) (by decide +kernel)
set_option maxRecDepth 100000 in
theorem ki_148 : (List.range 81).all (am_cki mm_148) = true := by decide +kernel
theorem mo_148 : am_ok am_P mm_148 := am_ok_of ki_148 (fun _ h => am_hi _ _ h) (pf := pf_11) klf_11 (fun _ h => am_hi _ _ h) (pm := pm_11) klm_11 (fun _ h => am_hi _ _ h) (pc := pc_11) klc_11 (fun _ h => am_hi _ _ h) (px := px_11) klx_11 (fun _ h => am_hi _ _ h)
theorem kc_148 : am_okc mm_148 := am_ckc_ok (p0 := 1334) (p1 := 46) (p2 := 1332) (p3 := 1333) (by decide +kernel)
set_option maxRecDepth 100000 in
theorem ki_149 : (List.range 84).all (am_cki mm_149) = true := by decide +kernel
theorem mo_149 : am_ok am_P mm_149 := am_ok_of ki_149 (fun _ h => am_hi _ _ h) (pf := pf_11) klf_11 (fun _ h => am_hi _ _ h) (pm := pm_11) klm_11 (fun _ h => am_hi _ _ h) (pc := pc_11) klc_11 (fun _ h => am_hi _ _ h) (px := px_11) klx_11 (fun _ h => am_hi _ _ h)
theorem kc_149 : am_okc mm_149 := am_ckc_ok (p0 := 1343) (p1 := 46) (p2 := 1341) (p3 := 1342) (by decide +kernel)
set_option maxRecDepth 100000 in
theorem ki_150 : (List.range 38).all (am_cki mm_150) = true := by decide +kernel
theorem mo_150 : am_ok am_P mm_150 := am_ok_of ki_150 (fun _ h => am_hi _ _ h) (pf := pf_11) klf_11 (fun _ h => am_hi _ _ h) (pm := pm_11) klm_11 (fun _ h => am_hi _ _ h) (pc := pc_11) klc_11 (fun _ h => am_hi _ _ h) (px := px_11) klx_11 (fun _ h => am_hi _ _ h)
theorem kc_150 : am_okc mm_150 := am_ckc_ok (p0 := 1347) (p1 := 46) (p2 := 1345) (p3 := 1346) (by decide +kernel)
set_option maxRecDepth 100000 in
theorem ki_151 : (List.range 58).all (am_cki mm_151) = true := by decide +kernel
theorem mo_151 : am_ok am_P mm_151 := am_ok_of ki_151 (fun _ h => am_hi _ _ h) (pf := pf_11) klf_11 (fun _ h => am_hi _ _ h) (pm := pm_11) klm_11 (fun _ h => am_hi _ _ h) (pc := pc_11) klc_11 (fun _ h => am_hi _ _ h) (px := px_11) klx_11 (fun _ h => am_hi _ _ h)
theorem kc_151 : am_okc mm_151 := am_ckc_ok (p0 := 1355) (p1 := 46) (p2 := 1353) (p3 := 1354) (by decide +kernel)
set_option maxRecDepth 100000 in
theorem ki_152 : (List.range 49).all (am_cki mm_152) = true := by decide +kernel
theorem mo_152 : am_ok am_P mm_152 := am_ok_of ki_152 (fun _ h => am_hi _ _ h) (pf := pf_11) klf_11 (fun _ h => am_hi _ _ h) (pm := pm_11) klm_11 (fun _ h => am_hi _ _ h) (pc := pc_11) klc_11 (fun _ h => am_hi _ _ h) (px := px_11) klx_11 (fun _ h => am_hi _ _ h)
theorem kc_152 : am_okc mm_152 := am_ckc_ok (p0 := 1359) (p1 := 46) (p2 := 1357) (p3 := 1358) (by decide +kernel)
set_option maxRecDepth 100000 in
theorem ki_153 : (List.range 562).all (am_cki mm_153) = true := by decide +kernel
theorem mo_153 : am_ok am_P mm_153 := am_ok_of ki_153 (fun _ h => am_hi _ _ h) (pf := pf_11) klf_11 (fun _ h => am_hi _ _ h) (pm := pm_11) klm_11 (fun _ h => am_hi _ _ h) (pc := pc_11) klc_11 (fun _ h => am_hi _ _ h) (px := px_11) klx_11 (fun _ h => am_hi _ _ h)
theorem kc_153 : am_okc mm_153 := am_ckc_ok (p0 := 1371) (p1 := 46) (p2 := 1370) (p3 := 11) (by decide +kernel)
set_option maxRecDepth 100000 in
theorem ki_154 : (List.range 66).all (am_cki mm_154) = true := by decide +kernel
theorem mo_154 : am_ok am_P mm_154 := am_ok_of ki_154 (fun _ h => am_hi _ _ h) (pf := pf_11) klf_11 (fun _ h => am_hi _ _ h) (pm := pm_11) klm_11 (fun _ h => am_hi _ _ h) (pc := pc_11) klc_11 (fun _ h => am_hi _ _ h) (px := px_11) klx_11 (fun _ h => am_hi _ _ h)
theorem kc_154 : am_okc mm_154 := am_ckc_ok (p0 := 1375) (p1 := 46) (p2 := 1374) (p3 := 12) (by decide +kernel)
set_option maxRecDepth 100000 in
theorem ki_155 : (List.range 19).all (am_cki mm_155) = true := by decide +kernel
theorem mo_155 : am_ok am_P mm_155 := am_ok_of ki_155 (fun _ h => am_hi _ _ h) (pf := pf_11) klf_11 (fun _ h => am_hi _ _ h) (pm := pm_11) klm_11 (fun _ h => am_hi _ _ h) (pc := pc_11) klc_11 (fun _ h => am_hi _ _ h) (px := px_11) klx_11 (fun _ h => am_hi _ _ h)
theorem kc_155 : am_okc mm_155 := am_ckc_ok (p0 := 1367) (p1 := 46) (p2 := 1366) (p3 := 10) (by decide +kernel)
set_option maxRecDepth 100000 in
theorem ki_156 : (List.range 165).all (am_cki mm_156) = true := by decide +kernel
theorem mo_156 : am_ok am_P mm_156 := am_ok_of ki_156 (fun _ h => am_hi _ _ h) (pf := pf_11) klf_11 (fun _ h => am_hi _ _ h) (pm := pm_11) klm_11 (fun _ h => am_hi _ _ h) (pc := pc_11) klc_11 (fun _ h => am_hi _ _ h) (px := px_11) klx_11 (fun _ h => am_hi _ _ h)
theorem kc_156 : am_okc mm_156 := am_ckc_ok (p0 := 1379) (p1 := 46) (p2 := 1378) (p3 := 13) (by decide +kernel)
set_option maxRecDepth 100000 in
theorem ki_157 : (List.range 67).all (am_cki mm_157) = true := by decide +kernel
theorem mo_157 : am_ok am_P mm_157 := am_ok_of ki_157 (fun _ h => am_hi _ _ h) (pf := pf_11) klf_11 (fun _ h => am_hi _ _ h) (pm := pm_11) klm_11 (fun _ h => am_hi _ _ h) (pc := pc_11) klc_11 (fun _ h => am_hi _ _ h) (px := px_11) klx_11 (fun _ h => am_hi _ _ h)
theorem kc_157 : am_okc mm_157 := am_ckc_ok (p0 := 1363) (p1 := 46) (p2 := 1361) (p3 := 1362) (by decide +kernel)
set_option maxRecDepth 100000 in
theorem ki_158 : (List.range 92).all (am_cki mm_158) = true := by decide +kernel
theorem mo_158 : am_ok am_P mm_158 := am_ok_of ki_158 (fun _ h => am_hi _ _ h) (pf := pf_11) klf_11 (fun _ h => am_hi _ _ h) (pm := pm_11) klm_11 (fun _ h => am_hi _ _ h) (pc := pc_11) klc_11 (fun _ h => am_hi _ _ h) (px := px_11) klx_11 (fun _ h => am_hi _ _ h)
theorem kc_158 : am_okc mm_158 := am_ckc_ok (p0 := 1383) (p1 := 46) (p2 := 1381) (p3 := 1382) (by decide +kernel)
set_option maxRecDepth 100000 in
theorem ki_159 : (List.range 15).all (am_cki mm_159) = true := by decide +kernel
theorem mo_159 : am_ok am_P mm_159 := am_ok_of ki_159 (fun _ h => am_hi _ _ h) (pf := pf_11) klf_11 (fun _ h => am_hi _ _ h) (pm := pm_11) klm_11 (fun _ h => am_hi _ _ h) (pc := pc_11) klc_11 (fun _ h => am_hi _ _ h) (px := px_11) klx_11 (fun _ h => am_hi _ _ h)
theorem kc_159 : am_okc mm_159 := am_ckc_ok (p0 := 1286) (p1 := 46) (p2 := 1285) (p3 := 3) (by decide +kernel)
set_option maxRecDepth 100000 in
theorem ki_160 : (List.range 80).all (am_cki mm_160) = true := by decide +kernel
theorem mo_160 : am_ok am_P mm_160 := am_ok_of ki_160 (fun _ h => am_hi _ _ h) (pf := pf_11) klf_11 (fun _ h => am_hi _ _ h) (pm := pm_11) klm_11 (fun _ h => am_hi _ _ h) (pc := pc_11) klc_11 (fun _ h => am_hi _ _ h) (px := px_11) klx_11 (fun _ h => am_hi _ _ h)
theorem kc_160 : am_okc mm_160 := am_ckc_ok (p0 := 1387) (p1 := 46) (p2 := 1385) (p3 := 1386) (by decide +kernel)
set_option maxRecDepth 100000 in
theorem ki_161 : (List.range 77).all (am_cki mm_161) = true := by decide +kernel
theorem mo_161 : am_ok am_P mm_161 := am_ok_of ki_161 (fun _ h => am_hi _ _ h) (pf := pf_11) klf_11 (fun _ h => am_hi _ _ h) (pm := pm_11) klm_11 (fun _ h => am_hi _ _ h) (pc := pc_11) klc_11 (fun _ h => am_hi _ _ h) (px := px_11) klx_11 (fun _ h => am_hi _ _ h)
theorem kc_161 : am_okc mm_161 := am_ckc_ok (p0 := 1395) (p1 := 46) (p2 := 1394) (p3 := 14) (by decide +kernel)
set_option maxRecDepth 100000 in
theorem ki_162 : (List.range 175).all (am_cki mm_162) = true := by decide +kernel
theorem mo_162 : am_ok am_P mm_162 := am_ok_of ki_162 (fun _ h => am_hi _ _ h) (pf := pf_11) klf_11 (fun _ h => am_hi _ _ h) (pm := pm_11) klm_11 (fun _ h => am_hi _ _ h) (pc := pc_11) klc_11 (fun _ h => am_hi _ _ h) (px := px_11) klx_11 (fun _ h => am_hi _ _ h)
theorem kc_162 : am_okc mm_162 := am_ckc_ok (p0 := 1391) (p1 := 46) (p2 := 1389) (p3 := 1390) (by decide +kernel)
