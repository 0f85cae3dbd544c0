set_option maxRecDepth 100000 in
theorem ki_0 : (List.range 18).all (am_cki mm_0) = true := by decide +kernel
theorem mo_0 : am_ok am_P mm_0 := am_ok_of ki_0 (fun _ h => am_hi _ _ h) (pf := pf_0) klf_0 (fun _ h => am_hi _ _ h) (pm := pm_0) klm_0 (fun _ h => am_hi _ _ h) (pc := pc_0) klc_0 (fun _ h => am_hi _ _ h) (px := px_0) klx_0 (fun _ h => am_hi _ _ h)
theorem kc_0 : am_okc mm_0 := am_ckc_ok (p0 := 972) (p1 := 44) (p2 := 970) (p3 := 971) (by decide +kernel)
set_option maxRecDepth 100000 in
theorem ki_1 : (List.range 58).all (am_cki mm_1) = true := by decide +kernel
theorem mo_1 : am_ok am_P mm_1 := am_ok_of ki_1 (fun _ h => am_hi _ _ h) (pf := pf_0) klf_0 (fun _ h => am_hi _ _ h) (pm := pm_0) klm_0 (fun _ h => am_hi _ _ h) (pc := pc_0) klc_0 (fun _ h => am_hi _ _ h) (px := px_0) klx_0 (fun _ h => am_hi _ _ h)
theorem kc_1 : am_okc mm_1 := am_ckc_ok (p0 := 960) (p1 := 44) (p2 := 958) (p3 := 959) (by decide +kernel)
set_option maxRecDepth 100000 in
theorem ki_2 : (List.range 54).all (am_cki mm_2) = true := by decide +kernel
theorem mo_2 : am_ok am_P mm_2 := am_ok_of ki_2 (fun _ h => am_hi _ _ h) (pf := pf_0) klf_0 (fun _ h => am_hi _ _ h) (pm := pm_0) klm_0 (fun _ h => am_hi _ _ h) (pc := pc_0) klc_0 (fun _ h => am_hi _ _ h) (px := px_0) klx_0 (fun _ h => am_hi _ _ h)
theorem kc_2 : am_okc mm_2 := am_ckc_ok (p0 := 976) (p1 := 44) (p2 := 974) (p3 := 975) (by decide +kernel)
set_option maxRecDepth 100000 in
theorem ki_3 : (List.range 27).all (am_cki mm_3) = true := by decide +kernel
theorem mo_3 : am_ok am_P mm_3 := am_ok_of ki_3 (fun _ h => am_hi _ _ h) (pf := pf_1) klf_1 (fun _ h => am_hi _ _ h) (pm := pm_1) klm_1 (fun _ h => am_hi _ _ h) (pc := pc_1) klc_1 (fun _ h => am_hi _ _ h) (px := px_1) klx_1 (fun _ h => am_hi _ _ h)
theorem kc_3 : am_okc mm_3 := am_ckc_ok (p0 := 829) (p1 := 40) (p2 := 827) (p3 := 828) (by decide +kernel)
set_option maxRecDepth 100000 in
theorem ki_4 : (List.range 18).all (am_cki mm_4) = true := by decide +kernel
theorem mo_4 : am_ok am_P mm_4 := am_ok_of ki_4 (fun _ h => am_hi _ _ h) (pf := pf_1) klf_1 (fun _ h => am_hi _ _ h) (pm := pm_1) klm_1 (fun _ h => am_hi _ _ h) (pc := pc_1) klc_1 (fun _ h => am_hi _ _ h) (px := px_1) klx_1 (fun _ h => am_hi _ _ h)
theorem kc_4 : am_okc mm_4 := am_ckc_ok (p0 := 753) (p1 := 40) (p2 := 752) (p3 := 0) (by decide +kernel)
set_option maxRecDepth 100000 in
theorem ki_5 : (List.range 40).all (am_cki mm_5) = true := by decide +kernel
theorem mo_5 : am_ok am_P mm_5 := am_ok_of ki_5 (fun _ h => am_hi _ _ h) (pf := pf_1) klf_1 (fun _ h => am_hi _ _ h) (pm := pm_1) klm_1 (fun _ h => am_hi _ _ h) (pc := pc_1) klc_1 (fun _ h => am_hi _ _ h) (px := px_1) klx_1 (fun _ h => am_hi _ _ h)
theorem kc_5 : am_okc mm_5 := am_ckc_ok (p0 := 762) (p1 := 40) (p2 := 761) (p3 := 0) (by decide +kernel)
set_option maxRecDepth 100000 in
theorem ki_6 : (List.range 18).all (am_cki mm_6) = true := by decide +kernel
theorem mo_6 : am_ok am_P mm_6 := am_ok_of ki_6 (fun _ h => am_hi _ _ h) (pf := pf_1) klf_1 (fun _ h => am_hi _ _ h) (pm := pm_1) klm_1 (fun _ h => am_hi _ _ h) (pc := pc_1) klc_1 (fun _ h => am_hi _ _ h) (px := px_1) klx_1 (fun _ h => am_hi _ _ h)
theorem kc_6 : am_okc mm_6 := am_ckc_ok (p0 := 767) (p1 := 40) (p2 := 765) (p3 := 766) (by decide +kernel)
set_option maxRecDepth 100000 in
theorem ki_7 : (List.range 11).all (am_cki mm_7) = true := by decide +kernel
theorem mo_7 : am_ok am_P mm_7 := am_ok_of ki_7 (fun _ h => am_hi _ _ h) (pf := pf_1) klf_1 (fun _ h => am_hi _ _ h) (pm := pm_1) klm_1 (fun _ h => am_hi _ _ h) (pc := pc_1) klc_1 (fun _ h => am_hi _ _ h) (px := px_1) klx_1 (fun _ h => am_hi _ _ h)
theorem kc_7 : am_okc mm_7 := am_ckc_ok (p0 := 771) (p1 := 40) (p2 := 769) (p3 := 770) (by decide +kernel)
set_option maxRecDepth 100000 in
theorem ki_8 : (List.range 47).all (am_cki mm_8) = true := by decide +kernel
theorem mo_8 : am_ok am_P mm_8 := am_ok_of ki_8 (fun _ h => am_hi _ _ h) (pf := pf_1) klf_1 (fun _ h => am_hi _ _ h) (pm := pm_1) klm_1 (fun _ h => am_hi _ _ h) (pc := pc_1) klc_1 (fun _ h => am_hi _ _ h) (px := px_1) klx_1 (fun _ h => am_hi _ _ h)
theorem kc_8 : am_okc mm_8 := am_ckc_ok (p0 := 776) (p1 := 40) (p2 := 774) (p3 := 775) (by decide +kernel)
set_option maxRecDepth 100000 in
theorem ki_9 : (List.range 35).all (am_cki mm_9) = true := by decide +kernel
theorem mo_9 : am_ok am_P mm_9 := am_ok_of ki_9 (fun _ h => am_hi _ _ h) (pf := pf_1) klf_1 (fun _ h => am_hi _ _ h) (pm := pm_1) klm_1 (fun _ h => am_hi _ _ h) (pc := pc_1) klc_1 (fun _ h => am_hi _ _ h) (px := px_1) klx_1 (fun _ h => am_hi _ _ h)
theorem kc_9 : am_okc mm_9 := am_ckc_ok (p0 := 789) (p1 := 40) (p2 := 787) (p3 := 788) (by decide +kernel)
set_option maxRecDepth 100000 in
theorem ki_10 : (List.range 20).all (am_cki mm_10) = true := by decide +kernel
theorem mo_10 : am_ok am_P mm_10 := am_ok_of ki_10 (fun _ h => am_hi _ _ h) (pf := pf_1) klf_1 (fun _ h => am_hi _ _ h) (pm := pm_1) klm_1 (fun _ h => am_hi _ _ h) (pc := pc_1) klc_1 (fun _ h => am_hi _ _ h) (px := px_1) klx_1 (fun _ h => am_hi _ _ h)
theorem kc_10 : am_okc mm_10 := am_ckc_ok (p0 := 801) (p1 := 40) (p2 := 799) (p3 := 800) (by decide +kernel)
set_option maxRecDepth 100000 in
theorem ki_11 : (List.range 12).all (am_cki mm_11) = true := by decide +kernel
theorem mo_11 : am_ok am_P mm_11 := am_ok_of ki_11 (fun _ h => am_hi _ _ h) (pf := pf_1) klf_1 (fun _ h => am_hi _ _ h) (pm := pm_1) klm_1 (fun _ h => am_hi _ _ h) (pc := pc_1) klc_1 (fun _ h => am_hi _ _ h) (px := px_1) klx_1 (fun _ h => am_hi _ _ h)
theorem kc_11 : am_okc mm_11 := am_ckc_ok (p0 := 805) (p1 := 40) (p2 := 803) (p3 := 804) (by decide +kernel)
set_option maxRecDepth 100000 in
theorem ki_12 : (List.range 16).all (am_cki mm_12) = true := by decide +kernel
theorem mo_12 : am_ok am_P mm_12 := am_ok_of ki_12 (fun _ h => am_hi _ _ h) (pf := pf_2) klf_2 (fun _ h => am_hi _ _ h) (pm := pm_2) klm_2 (fun _ h => am_hi _ _ h) (pc := pc_2) klc_2 (fun _ h => am_hi _ _ h) (px := px_2) klx_2 (fun _ h => am_hi _ _ h)
theorem kc_12 : am_okc mm_12 := am_ckc_ok (p0 := 610) (p1 := 38) (p2 := 608) (p3 := 609) (by decide +kernel)
set_option maxRecDepth 100000 in
theorem ki_13 : (List.range 16).all (am_cki mm_13) = true := by decide +kernel
theorem mo_13 : am_ok am_P mm_13 := am_ok_of ki_13 (fun _ h => am_hi _ _ h) (pf := pf_2) klf_2 (fun _ h => am_hi _ _ h) (pm := pm_2) klm_2 (fun _ h => am_hi _ _ h) (pc := pc_2) klc_2 (fun _ h => am_hi _ _ h) (px := px_2) klx_2 (fun _ h => am_hi _ _ h)
theorem kc_13 : am_okc mm_13 := am_ckc_ok (p0 := 605) (p1 := 38) (p2 := 603) (p3 := 604) (by decide +kernel)
set_option maxRecDepth 100000 in
theorem ki_14 : (List.range 76).all (am_cki mm_14) = true := by decide +kernel
theorem mo_14 : am_ok am_P mm_14 := am_ok_of ki_14 (fun _ h => am_hi _ _ h) (pf := pf_2) klf_2 (fun _ h => am_hi _ _ h) (pm := pm_2) klm_2 (fun _ h => am_hi _ _ h) (pc := pc_2) klc_2 (fun _ h => am_hi _ _ h) (px := px_2) klx_2 (fun _ h => am_hi _ _ h)
theorem kc_14 : am_okc mm_14 := am_ckc_ok (p0 := 648) (p1 := 38) (p2 := 646) (p3 := 647) (by decide +kernel)
set_option maxRecDepth 100000 in
theorem ki_15 : (List.range 62).all (am_cki mm_15) = true := by decide +kernel
theorem mo_15 : am_ok am_P mm_15 := am_ok_of ki_15 (fun _ h => am_hi _ _ h) (pf := pf_2) klf_2 (fun _ h => am_hi _ _ h) (pm := pm_2) klm_2 (fun _ h => am_hi _ _ h) (pc := pc_2) klc_2 (fun _ h => am_hi _ _ h) (px := px_2) klx_2 (fun _ h => am_hi _ _ h)
theorem kc_15 : am_okc mm_15 := am_ckc_ok (p0 := 721) (p1 := 38) (p2 := 719) (p3 := 720) (by decide +kernel)
set_option maxRecDepth 100000 in
theorem ki_16 : (List.range 44).all (am_cki mm_16) = true := by decide +kernel
theorem mo_16 : am_ok am_P mm_16 := am_ok_of ki_16 (fun _ h => am_hi _ _ h) (pf := pf_3) klf_3 (fun _ h => am_hi _ _ h) (pm := pm_3) klm_3 (fun _ h => am_hi _ _ h) (pc := pc_3) klc_3 (fun _ h => am_hi _ _ h) (px := px_3) klx_3 (fun _ h => am_hi _ _ h)
theorem kc_16 : am_okc mm_16 := am_ckc_ok (p0 := 527) (p1 := 36) (p2 := 525) (p3 := 526) (by decide +kernel)
set_option maxRecDepth 100000 in
theorem ki_17 : (List.range 49).all (am_cki mm_17) = true := by decide +kernel
theorem mo_17 : am_ok am_P mm_17 := am_ok_of ki_17 (fun _ h => am_hi _ _ h) (pf := pf_3) klf_3 (fun _ h => am_hi _ _ h) (pm := pm_3) klm_3 (fun _ h => am_hi _ _ h) (pc := pc_3) klc_3 (fun _ h => am_hi _ _ h) (px := px_3) klx_3 (fun _ h => am_hi _ _ h)
theorem kc_17 : am_okc mm_17 := am_ckc_ok (p0 := 543) (p1 := 36) (p2 := 541) (p3 := 542) (by decide +kernel)
set_option maxRecDepth 100000 in
theorem ki_18 : (List.range 31).all (am_cki mm_18) = true := by decide +kernel
theorem mo_18 : am_ok am_P mm_18 := am_ok_of ki_18 (fun _ h => am_hi _ _ h) (pf := pf_3) klf_3 (fun _ h => am_hi _ _ h) (pm := pm_3) klm_3 (fun _ h => am_hi _ _ h) (pc := pc_3) klc_3 (fun _ h => am_hi _ _ h) (px := px_3) klx_3 (fun _ h => am_hi _ _ h)
theorem kc_18 : am_okc mm_18 := am_ckc_ok (p0 := 1057) (p1 := 36) (p2 := 1055) (p3 := 1056) (by decide +kernel)
set_option maxRecDepth 100000 in
theorem ki_19 : (List.range 35).all (am_cki mm_19) = true := by decide +kernel
theorem mo_19 : am_ok am_P mm_19 := am_ok_of ki_19 (fun _ h => am_hi _ _ h) (pf := pf_3) klf_3 (fun _ h => am_hi _ _ h) (pm := pm_3) klm_3 (fun _ h => am_hi _ _ h) (pc := pc_3) klc_3 (fun _ h => am_hi _ _ h) (px := px_3) klx_3 (fun _ h => am_hi _ _ h)
theorem kc_19 : am_okc mm_19 := am_ckc_ok (p0 := 548) (p1 := 36) (p2 := 546) (p3 := 547) (by decide +kernel)
set_option maxRecDepth 100000 in
theorem ki_20 : (List.range 94).all (am_cki mm_20) = true := by decide +kernel
theorem mo_20 : am_ok am_P mm_20 := am_ok_of ki_20 (fun _ h => am_hi _ _ h) (pf := pf_3) klf_3 (fun _ h => am_hi _ _ h) (pm := pm_3) klm_3 (fun _ h => am_hi _ _ h) (pc := pc_3) klc_3 (fun _ h => am_hi _ _ h) (px := px_3) klx_3 (fun _ h => am_hi _ _ h)
theorem kc_20 : am_okc mm_20 := am_ckc_ok (p0 := 552) (p1 := 36) (p2 := 550) (p3 := 551) (by decide +kernel)
set_option maxRecDepth 100000 in
theorem ki_21 : (List.range 44).all (am_cki mm_21) = true := by decide +kernel
theorem mo_21 : am_ok am_P mm_21 := am_ok_of ki_21 (fun _ h => am_hi _ _ h) (pf := pf_3) klf_3 (fun _ h => am_hi _ _ h) (pm := pm_3) klm_3 (fun _ h => am_hi _ _ h) (pc := pc_3) klc_3 (fun _ h => am_hi _ _ h) (px := px_3) klx_3 (fun _ h => am_hi _ _ h)
theorem kc_21 : am_okc mm_21 := am_ckc_ok (p0 := 560) (p1 := 36) (p2 := 558) (p3 := 559) (by decide +kernel)
set_option maxRecDepth 100000 in
theorem ki_22 : (List.range 149).all (am_cki mm_22) = true := by decide +kernel
theorem mo_22 : am_ok am_P mm_22 := am_ok_of ki_22 (fun _ h => am_hi _ _ h) (pf := pf_3) klf_3 (fun _ h => am_hi _ _ h) (pm := pm_3) klm_3 (fun _ h => am_hi _ _ h) (pc := pc_3) klc_3 (fun _ h => am_hi _ _ h) (px := px_3) klx_3 (fun _ h => am_hi _ _ h)
theorem kc_22 : am_okc mm_22 := am_ckc_ok (p0 := 568) (p1 := 36) (p2 := 566) (p3 := 567) (by decide +kernel)
set_option maxRecDepth 100000 in
theorem ki_23 : (List.range 55).all (am_cki mm_23) = true := by decide +kernel
theorem mo_23 : am_ok am_P mm_23 := am_ok_of ki_23 (fun _ h => am_hi _ _ h) (pf := pf_3) klf_3 (fun _ h => am_hi _ _ h) (pm := pm_3) klm_3 (fun _ h => am_hi _ _ h) (pc := pc_3) klc_3 (fun _ h => am_hi _ _ h) (px := px_3) klx_3 (fun _ h => am_hi _ _ h)
theorem kc_23 : am_okc mm_23 := am_ckc_ok (p0 := 889) (p1 := 36) (p2 := 887) (p3 := 888) (by decide +kernel)
set_option maxRecDepth 100000 in
theorem ki_24 : (List.range 81).all (am_cki mm_24) = true := by decide +kernel
theorem mo_24 : am_ok am_P mm_24 := am_ok_of ki_24 (fun _ h => am_hi _ _ h) (pf := pf_3) klf_3 (fun _ h => am_hi _ _ h) (pm := pm_3) klm_3 (fun _ h => am_hi _ _ h) (pc := pc_3) klc_3 (fun _ h => am_hi _ _ h) (px := px_3) klx_3 (fun _ h => am_hi _ _ h)
theorem kc_24 : am_okc mm_24 := am_ckc_ok (p0 := 934) (p1 := 36) (p2 := 932) (p3 := 933) (by decide +kernel)
set_option maxRecDepth 100000 in
theorem ki_25 : (List.range 38).all (am_cki mm_25) = true := by decide +kernel
theorem mo_25 : am_ok am_P mm_25 := am_ok_of ki_25 (fun _ h => am_hi _ _ h) (pf := pf_3) klf_3 (fun _ h => am_hi _ _ h) (pm := pm_3) klm_3 (fun _ h => am_hi _ _ h) (pc := pc_3) klc_3 (fun _ h => am_hi _ _ h) (px := px_3) klx_3 (fun _ h => am_hi _ _ h)
theorem kc_25 : am_okc mm_25 := am_ckc_ok (p0 := 938) (p1 := 36) (p2 := 936) (p3 := 937) (by decide +kernel)
set_option maxRecDepth 100000 in
theorem ki_26 : (List.range 16).all (am_cki mm_26) = true := by decide +kernel
theorem mo_26 : am_ok am_P mm_26 := am_ok_of ki_26 (fun _ h => am_hi _ _ h) (pf := pf_3) klf_3 (fun _ h => am_hi _ _ h) (pm := pm_3) klm_3 (fun _ h => am_hi _ _ h) (pc := pc_3) klc_3 (fun _ h => am_hi _ _ h) (px := px_3) klx_3 (fun _ h => am_hi _ _ h)
theorem kc_26 : am_okc mm_26 := am_ckc_ok (p0 := 473) (p1 := 36) (p2 := 472) (p3 := 0) (by decide +kernel)
set_option maxRecDepth 100000 in
theorem ki_27 : (List.range 18).all (am_cki mm_27) = true := by decide +kernel
theorem mo_27 : am_ok am_P mm_27 := am_ok_of ki_27 (fun _ h => am_hi _ _ h) (pf := pf_3) klf_3 (fun _ h => am_hi _ _ h) (pm := pm_3) klm_3 (fun _ h => am_hi _ _ h) (pc := pc_3) klc_3 (fun _ h => am_hi _ _ h) (px := px_3) klx_3 (fun _ h => am_hi _ _ h)
theorem kc_27 : am_okc mm_27 := am_ckc_ok (p0 := 492) (p1 := 36) (p2 := 490) (p3 := 491) (by decide +kernel)
set_option maxRecDepth 100000 in
theorem ki_28 : (List.range 37).all (am_cki mm_28) = true := by decide +kernel
theorem mo_28 : am_ok am_P mm_28 := am_ok_of ki_28 (fun _ h => am_hi _ _ h) (pf := pf_3) klf_3 (fun _ h => am_hi _ _ h) (pm := pm_3) klm_3 (fun _ h => am_hi _ _ h) (pc := pc_3) klc_3 (fun _ h => am_hi _ _ h) (px := px_3) klx_3 (fun _ h => am_hi _ _ h)
theorem kc_28 : am_okc mm_28 := am_ckc_ok (p0 := 484) (p1 := 36) (p2 := 482) (p3 := 483) (by decide +kernel)
set_option maxRecDepth 100000 in
theorem ki_29 : (List.range 56).all (am_cki mm_29) = true := by decide +kernel
theorem mo_29 : am_ok am_P mm_29 := am_ok_of ki_29 (fun _ h => am_hi _ _ h) (pf := pf_3) klf_3 (fun _ h => am_hi _ _ h) (pm := pm_3) klm_3 (fun _ h => am_hi _ _ h) (pc := pc_3) klc_3 (fun _ h => am_hi _ _ h) (px := px_3) klx_3 (fun _ h => am_hi _ _ h)
theorem kc_29 : am_okc mm_29 := am_ckc_ok (p0 := 499) (p1 := 36) (p2 := 497) (p3 := 498) (by decide +kernel)
set_option maxRecDepth 100000 in
theorem ki_30 : (List.range 28).all (am_cki mm_30) = true := by decide +kernel
theorem mo_30 : am_ok am_P mm_30 := am_ok_of ki_30 (fun _ h => am_hi _ _ h) (pf := pf_3) klf_3 (fun _ h => am_hi _ _ h) (pm := pm_3) klm_3 (fun _ h => am_hi _ _ h) (pc := pc_3) klc_3 (fun _ h => am_hi _ _ h) (px := px_3) klx_3 (fun _ h => am_hi _ _ h)
theorem kc_30 : am_okc mm_30 := am_ckc_ok (p0 := 507) (p1 := 36) (p2 := 505) (p3 := 506) (by decide +kernel)
set_option maxRecDepth 100000 in
theorem ki_31 : (List.range 35).all (am_cki mm_31) = true := by decide +kernel
theorem mo_31 : am_ok am_P mm_31 := am_ok_of ki_31 (fun _ h => am_hi _ _ h) (pf := pf_3) klf_3 (fun _ h => am_hi _ _ h) (pm := pm_3) klm_3 (fun _ h => am_hi _ _ h) (pc := pc_3) klc_3 (fun _ h => am_hi _ _ h) (px := px_3) klx_3 (fun _ h => am_hi _ _ h)
theorem kc_31 : am_okc mm_31 := am_ckc_ok (p0 := 511) (p1 := 36) (p2 := 509) (p3 := 510) (by decide +kernel)
set_option maxRecDepth 100000 in
theorem ki_32 : (List.range 75).all (am_cki mm_32) = true := by decide +kernel
theorem mo_32 : am_ok am_P mm_32 := am_ok_of ki_32 (fun _ h => am_hi _ _ h) (pf := pf_3) klf_3 (fun _ h => am_hi _ _ h) (pm := pm_3) klm_3 (fun _ h => am_hi _ _ h) (pc := pc_3) klc_3 (fun _ h => am_hi _ _ h) (px := px_3) klx_3 (fun _ h => am_hi _ _ h)
theorem kc_32 : am_okc mm_32 := am_ckc_ok (p0 := 531) (p1 := 36) (p2 := 529) (p3 := 530) (by decide +kernel)
set_option maxRecDepth 100000 in
theorem ki_33 : (List.range 60).all (am_cki mm_33) = true := by decide +kernel
theorem mo_33 : am_ok am_P mm_33 := am_ok_of ki_33 (fun _ h => am_hi _ _ h) (pf := pf_3) klf_3 (fun _ h => am_hi _ _ h) (pm := pm_3) klm_3 (fun _ h => am_hi _ _ h) (pc := pc_3) klc_3 (fun _ h => am_hi _ _ h) (px := px_3) klx_3 (fun _ h => am_hi _ _ h)
theorem kc_33 : am_okc mm_33 := am_ckc_ok (p0 := 535) (p1 := 36) (p2 := 533) (p3 := 534) (by decide +kernel)
set_option maxRecDepth 100000 in
theorem ki_34 : (List.range 6).all (am_cki mm_34) = true := by decide +kernel
theorem mo_34 : am_ok am_P mm_34 := am_ok_of ki_34 (fun _ h => am_hi _ _ h) (pf := pf_4) klf_4 (fun _ h => am_hi _ _ h) (pm := pm_4) klm_4 (fun _ h => am_hi _ _ h) (pc := pc_4) klc_4 (fun _ h => am_hi _ _ h) (px := px_4) klx_4 (fun _ h => am_hi _ _ h)
theorem kc_34 : am_okc mm_34 := am_ckc_ok (p0 := 736) (p1 := 41) (p2 := 734) (p3 := 735) (by decide +kernel)
set_option maxRecDepth 100000 in
theorem ki_35 : (List.range 15).all (am_cki mm_35) = true := by decide +kernel
theorem mo_35 : am_ok am_P mm_35 := am_ok_of ki_35 (fun _ h => am_hi _ _ h) (pf := pf_4) klf_4 (fun _ h => am_hi _ _ h) (pm := pm_4) klm_4 (fun _ h => am_hi _ _ h) (pc := pc_4) klc_4 (fun _ h => am_hi _ _ h) (px := px_4) klx_4 (fun _ h => am_hi _ _ h)
theorem kc_35 : am_okc mm_35 := am_ckc_ok (p0 := 833) (p1 := 41) (p2 := 831) (p3 := 832) (by decide +kernel)
set_option maxRecDepth 100000 in
theorem ki_36 : (List.range 43).all (am_cki mm_36) = true := by decide +kernel
theorem mo_36 : am_ok am_P mm_36 := am_ok_of ki_36 (fun _ h => am_hi _ _ h) (pf := pf_4) klf_4 (fun _ h => am_hi _ _ h) (pm := pm_4) klm_4 (fun _ h => am_hi _ _ h) (pc := pc_4) klc_4 (fun _ h => am_hi _ _ h) (px := px_4) klx_4 (fun _ h => am_hi _ _ h)
theorem kc_36 : am_okc mm_36 := am_ckc_ok (p0 := 813) (p1 := 41) (p2 := 811) (p3 := 812) (by decide +kernel)
set_option maxRecDepth 100000 in
theorem ki_37 : (List.range 109).all (am_cki mm_37) = true := by decide +kernel
theorem mo_37 : am_ok am_P mm_37 := am_ok_of ki_37 (fun _ h => am_hi _ _ h) (pf := pf_4) klf_4 (fun _ h => am_hi _ _ h) (pm := pm_4) klm_4 (fun _ h => am_hi _ _ h) (pc := pc_4) klc_4 (fun _ h => am_hi _ _ h) (px := px_4) klx_4 (fun _ h => am_hi _ _ h)
theorem kc_37 : am_okc mm_37 := am_ckc_ok (p0 := 817) (p1 := 41) (p2 := 815) (p3 := 816) (by decide +kernel)
set_option maxRecDepth 100000 in
theorem ki_38 : (List.range 158).all (am_cki mm_38) = true := by decide +kernel
theorem mo_38 : am_ok am_P mm_38 := am_ok_of ki_38 (fun _ h => am_hi _ _ h) (pf := pf_4) klf_4 (fun _ h => am_hi _ _ h) (pm := pm_4) klm_4 (fun _ h => am_hi _ _ h) (pc := pc_4) klc_4 (fun _ h => am_hi _ _ h) (px := px_4) klx_4 (fun _ h => am_hi _ _ h)
theorem kc_38 : am_okc mm_38 := am_ckc_ok (p0 := 822) (p1 := 41) (p2 := 820) (p3 := 821) (by decide +kernel)
set_option maxRecDepth 100000 in
theorem ki_39 : (List.range 93).all (am_cki mm_39) = true := by decide +kernel
theorem mo_39 : am_ok am_P mm_39 := am_ok_of ki_39 (fun _ h => am_hi _ _ h) (pf := pf_4) klf_4 (fun _ h => am_hi _ _ h) (pm := pm_4) klm_4 (fun _ h => am_hi _ _ h) (pc := pc_4) klc_4 (fun _ h => am_hi _ _ h) (px := px_4) klx_4 (fun _ h => am_hi _ _ h)
theorem kc_39 : am_okc mm_39 := am_ckc_ok (p0 := 837) (p1 := 41) (p2 := 835) (p3 := 836) (by decide +kernel)
set_option maxRecDepth 100000 in
theorem ki_40 : (List.range 46).all (am_cki mm_40) = true := by decide +kernel
theorem mo_40 : am_ok am_P mm_40 := am_ok_of ki_40 (fun _ h => am_hi _ _ h) (pf := pf_4) klf_4 (fun _ h => am_hi _ _ h) (pm := pm_4) klm_4 (fun _ h => am_hi _ _ h) (pc := pc_4) klc_4 (fun _ h => am_hi _ _ h) (px := px_4) klx_4 (fun _ h => am_hi _ _ h)
theorem kc_40 : am_okc mm_40 := am_ckc_ok (p0 := 841) (p1 := 41) (p2 := 839) (p3 := 840) (by decide +kernel)
set_option maxRecDepth 100000 in
theorem ki_41 : (List.range 32).all (am_cki mm_41) = true := by decide +kernel
theorem mo_41 : am_ok am_P mm_41 := am_ok_of ki_41 (fun _ h => am_hi _ _ h) (pf := pf_4) klf_4 (fun _ h => am_hi _ _ h) (pm := pm_4) klm_4 (fun _ h => am_hi _ _ h) (pc := pc_4) klc_4 (fun _ h => am_hi _ _ h) (px := px_4) klx_4 (fun _ h => am_hi _ _ h)
theorem kc_41 : am_okc mm_41 := am_ckc_ok (p0 := 853) (p1 := 41) (p2 := 851) (p3 := 852) (by decide +kernel)
set_option maxRecDepth 100000 in
theorem ki_42 : (List.range 17).all (am_cki mm_42) = true := by decide +kernel
theorem mo_42 : am_ok am_P mm_42 := am_ok_of ki_42 (fun _ h => am_hi _ _ h) (pf := pf_5) klf_5 (fun _ h => am_hi _ _ h) (pm := pm_5) klm_5 (fun _ h => am_hi _ _ h) (pc := pc_5) klc_5 (fun _ h => am_hi _ _ h) (px := px_5) klx_5 (fun _ h => am_hi _ _ h)
theorem kc_42 : am_okc mm_42 := am_ckc_ok (p0 := 593) (p1 := 37) (p2 := 592) (p3 := 0) (by decide +kernel)
set_option maxRecDepth 100000 in
theorem ki_43 : (List.range 18).all (am_cki mm_43) = true := by decide +kernel
theorem mo_43 : am_ok am_P mm_43 := am_ok_of ki_43 (fun _ h => am_hi _ _ h) (pf := pf_5) klf_5 (fun _ h => am_hi _ _ h) (pm := pm_5) klm_5 (fun _ h => am_hi _ _ h) (pc := pc_5) klc_5 (fun _ h => am_hi _ _ h) (px := px_5) klx_5 (fun _ h => am_hi _ _ h)
theorem kc_43 : am_okc mm_43 := am_ckc_ok (p0 := 586) (p1 := 37) (p2 := 584) (p3 := 585) (by decide +kernel)
set_option maxRecDepth 100000 in
theorem ki_44 : (List.range 47).all (am_cki mm_44) = true := by decide +kernel
theorem mo_44 : am_ok am_P mm_44 := am_ok_of ki_44 (fun _ h => am_hi _ _ h) (pf := pf_5) klf_5 (fun _ h => am_hi _ _ h) (pm := pm_5) klm_5 (fun _ h => am_hi _ _ h) (pc := pc_5) klc_5 (fun _ h => am_hi _ _ h) (px := px_5) klx_5 (fun _ h => am_hi _ _ h)
theorem kc_44 : am_okc mm_44 := am_ckc_ok (p0 := 578) (p1 := 37) (p2 := 576) (p3 := 577) (by decide +kernel)
set_option maxRecDepth 100000 in
theorem ki_45 : (List.range 48).all (am_cki mm_45) = true := by decide +kernel
theorem mo_45 : am_ok am_P mm_45 := am_ok_of ki_45 (fun _ h => am_hi _ _ h) (pf := pf_5) klf_5 (fun _ h => am_hi _ _ h) (pm := pm_5) klm_5 (fun _ h => am_hi _ _ h) (pc := pc_5) klc_5 (fun _ h => am_hi _ _ h) (px := px_5) klx_5 (fun _ h => am_hi _ _ h)
theorem kc_45 : am_okc mm_45 := am_ckc_ok (p0 := 614) (p1 := 37) (p2 := 612) (p3 := 613) (by decide +kernel)
set_option maxRecDepth 100000 in
theorem ki_46 : (List.range 97).all (am_cki mm_46) = true := by decide +kernel
theorem mo_46 : am_ok am_P mm_46 := am_ok_of ki_46 (fun _ h => am_hi _ _ h) (pf := pf_5) klf_5 (fun _ h => am_hi _ _ h) (pm := pm_5) klm_5 (fun _ h => am_hi _ _ h) (pc := pc_5) klc_5 (fun _ h => am_hi _ _ h) (px := px_5) klx_5 (fun _ h => am_hi _ _ h)
theorem kc_46 : am_okc mm_46 := am_ckc_ok (p0 := 618) (p1 := 37) (p2 := 616) (p3 := 617) (by decide +kernel)
set_option maxRecDepth 100000 in
theorem ki_47 : (List.range 38).all (am_cki mm_47) = true := by decide +kernel
theorem mo_47 : am_ok am_P mm_47 := am_ok_of ki_47 (fun _ h => am_hi _ _ h) (pf := pf_5) klf_5 (fun _ h => am_hi _ _ h) (pm := pm_5) klm_5 (fun _ h => am_hi _ _ h) (pc := pc_5) klc_5 (fun _ h => am_hi _ _ h) (px := px_5) klx_5 (fun _ h => am_hi _ _ h)
theorem kc_47 : am_okc mm_47 := am_ckc_ok (p0 := 623) (p1 := 37) (p2 := 621) (p3 := 622) (by decide +kernel)
set_option maxRecDepth 100000 in
theorem ki_48 : (List.range 37).all (am_cki mm_48) = true := by decide +kernel
theorem mo_48 : am_ok am_P mm_48 := am_ok_of ki_48 (fun _ h => am_hi _ _ h) (pf := pf_5) klf_5 (fun _ h => am_hi _ _ h) (pm := pm_5) klm_5 (fun _ h => am_hi _ _ h) (pc := pc_5) klc_5 (fun _ h => am_hi _ _ h) (px := px_5) klx_5 (fun _ h => am_hi _ _ h)
theorem kc_48 : am_okc mm_48 := am_ckc_ok (p0 := 1062) (p1 := 37) (p2 := 1060) (p3 := 1061) (by decide +kernel)
set_option maxRecDepth 100000 in
theorem ki_49 : (List.range 35).all (am_cki mm_49) = true := by decide +kernel
theorem mo_49 : am_ok am_P mm_49 := am_ok_of ki_49 (fun _ h => am_hi _ _ h) (pf := pf_5) klf_5 (fun _ h => am_hi _ _ h) (pm := pm_5) klm_5 (fun _ h => am_hi _ _ h) (pc := pc_5) klc_5 (fun _ h => am_hi _ _ h) (px := px_5) klx_5 (fun _ h => am_hi _ _ h)
theorem kc_49 : am_okc mm_49 := am_ckc_ok (p0 := 632) (p1 := 37) (p2 := 630) (p3 := 631) (by decide +kernel)
set_option maxRecDepth 100000 in
theorem ki_50 : (List.range 52).all (am_cki mm_50) = true := by decide +kernel
theorem mo_50 : am_ok am_P mm_50 := am_ok_of ki_50 (fun _ h => am_hi _ _ h) (pf := pf_6) klf_6 (fun _ h => am_hi _ _ h) (pm := pm_6) klm_6 (fun _ h => am_hi _ _ h) (pc := pc_6) klc_6 (fun _ h => am_hi _ _ h) (px := px_6) klx_6 (fun _ h => am_hi _ _ h)
theorem kc_50 : am_okc mm_50 := am_ckc_ok (p0 := 1036) (p1 := 45) (p2 := 1034) (p3 := 1035) (by decide +kernel)
set_option maxRecDepth 100000 in
theorem ki_51 : (List.range 54).all (am_cki mm_51) = true := by decide +kernel
theorem mo_51 : am_ok am_P mm_51 := am_ok_of ki_51 (fun _ h => am_hi _ _ h) (pf := pf_6) klf_6 (fun _ h => am_hi _ _ h) (pm := pm_6) klm_6 (fun _ h => am_hi _ _ h) (pc := pc_6) klc_6 (fun _ h => am_hi _ _ h) (px := px_6) klx_6 (fun _ h => am_hi _ _ h)
theorem kc_51 : am_okc mm_51 := am_ckc_ok (p0 := 1040) (p1 := 45) (p2 := 1038) (p3 := 1039) (by decide +kernel)
set_option maxRecDepth 100000 in
theorem ki_52 : (List.range 18).all (am_cki mm_52) = true := by decide +kernel
theorem mo_52 : am_ok am_P mm_52 := am_ok_of ki_52 (fun _ h => am_hi _ _ h) (pf := pf_6) klf_6 (fun _ h => am_hi _ _ h) (pm := pm_6) klm_6 (fun _ h => am_hi _ _ h) (pc := pc_6) klc_6 (fun _ h => am_hi _ _ h) (px := px_6) klx_6 (fun _ h => am_hi _ _ h)
theorem kc_52 : am_okc mm_52 := am_ckc_ok (p0 := 998) (p1 := 45) (p2 := 996) (p3 := 997) (by decide +kernel)
set_option maxRecDepth 100000 in
theorem ki_53 : (List.range 27).all (am_cki mm_53) = true := by decide +kernel
theorem mo_53 : am_ok am_P mm_53 := am_ok_of ki_53 (fun _ h => am_hi _ _ h) (pf := pf_6) klf_6 (fun _ h => am_hi _ _ h) (pm := pm_6) klm_6 (fun _ h => am_hi _ _ h) (pc := pc_6) klc_6 (fun _ h => am_hi _ _ h) (px := px_6) klx_6 (fun _ h => am_hi _ _ h)
theorem kc_53 : am_okc mm_53 := am_ckc_ok (p0 := 990) (p1 := 45) (p2 := 988) (p3 := 989) (by decide +kernel)
set_option maxRecDepth 100000 in
theorem ki_54 : (List.range 19).all (am_cki mm_54) = true := by decide +kernel
theorem mo_54 : am_ok am_P mm_54 := am_ok_of ki_54 (fun _ h => am_hi _ _ h) (pf := pf_6) klf_6 (fun _ h => am_hi _ _ h) (pm := pm_6) klm_6 (fun _ h => am_hi _ _ h) (pc := pc_6) klc_6 (fun _ h => am_hi _ _ h) (px := px_6) klx_6 (fun _ h => am_hi _ _ h)
theorem kc_54 : am_okc mm_54 := am_ckc_ok (p0 := 1002) (p1 := 45) (p2 := 1000) (p3 := 1001) (by decide +kernel)
set_option maxRecDepth 100000 in
theorem ki_55 : (List.range 13).all (am_cki mm_55) = true := by decide +kernel
theorem mo_55 : am_ok am_P mm_55 := am_ok_of ki_55 (fun _ h => am_hi _ _ h) (pf := pf_6) klf_6 (fun _ h => am_hi _ _ h) (pm := pm_6) klm_6 (fun _ h => am_hi _ _ h) (pc := pc_6) klc_6 (fun _ h => am_hi _ _ h) (px := px_6) klx_6 (fun _ h => am_hi _ _ h)
theorem kc_55 : am_okc mm_55 := am_ckc_ok (p0 := 1006) (p1 := 45) (p2 := 1004) (p3 := 1005) (by decide +kernel)
set_option maxRecDepth 100000 in
theorem ki_56 : (List.range 117).all (am_cki mm_56) = true := by decide +kernel
theorem mo_56 : am_ok am_P mm_56 := am_ok_of ki_56 (fun _ h => am_hi _ _ h) (pf := pf_6) klf_6 (fun _ h => am_hi _ _ h) (pm := pm_6) klm_6 (fun _ h => am_hi _ _ h) (pc := pc_6) klc_6 (fun _ h => am_hi _ _ h) (px := px_6) klx_6 (fun _ h => am_hi _ _ h)
theorem kc_56 : am_okc mm_56 := am_ckc_ok (p0 := 1014) (p1 := 45) (p2 := 1012) (p3 := 1013) (by decide +kernel)
set_option maxRecDepth 100000 in
theorem ki_57 : (List.range 30).all (am_cki mm_57) = true := by decide +kernel
theorem mo_57 : am_ok am_P mm_57 := am_ok_of ki_57 (fun _ h => am_hi _ _ h) (pf := pf_6) klf_6 (fun _ h => am_hi _ _ h) (pm := pm_6) klm_6 (fun _ h => am_hi _ _ h) (pc := pc_6) klc_6 (fun _ h => am_hi _ _ h) (px := px_6) klx_6 (fun _ h => am_hi _ _ h)
theorem kc_57 : am_okc mm_57 := am_ckc_ok (p0 := 1028) (p1 := 45) (p2 := 1026) (p3 := 1027) (by decide +kernel)
set_option maxRecDepth 100000 in
theorem ki_58 : (List.range 37).all (am_cki mm_58) = true := by decide +kernel
theorem mo_58 : am_ok am_P mm_58 := am_ok_of ki_58 (fun _ h => am_hi _ _ h) (pf := pf_6) klf_6 (fun _ h => am_hi _ _ h) (pm := pm_6) klm_6 (fun _ h => am_hi _ _ h) (pc := pc_6) klc_6 (fun _ h => am_hi _ _ h) (px := px_6) klx_6 (fun _ h => am_hi _ _ h)
theorem kc_58 : am_okc mm_58 := am_ckc_ok (p0 := 1018) (p1 := 45) (p2 := 1016) (p3 := 1017) (by decide +kernel)
set_option maxRecDepth 100000 in
theorem ki_59 : (List.range 57).all (am_cki mm_59) = true := by decide +kernel
theorem mo_59 : am_ok am_P mm_59 := am_ok_of ki_59 (fun _ h => am_hi _ _ h) (pf := pf_6) klf_6 (fun _ h => am_hi _ _ h) (pm := pm_6) klm_6 (fun _ h => am_hi _ _ h) (pc := pc_6) klc_6 (fun _ h => am_hi _ _ h) (px := px_6) klx_6 (fun _ h => am_hi _ _ h)
theorem kc_59 : am_okc mm_59 := am_ckc_ok (p0 := 1032) (p1 := 45) (p2 := 1030) (p3 := 1031) (by decide +kernel)
set_option maxRecDepth 100000 in
theorem ki_60 : (List.range 58).all (am_cki mm_60) = true := by decide +kernel
theorem mo_60 : am_ok am_P mm_60 := am_ok_of ki_60 (fun _ h => am_hi _ _ h) (pf := pf_7) klf_7 (fun _ h => am_hi _ _ h) (pm := pm_7) klm_7 (fun _ h => am_hi _ _ h) (pc := pc_7) klc_7 (fun _ h => am_hi _ _ h) (px := px_7) klx_7 (fun _ h => am_hi _ _ h)
theorem kc_60 : am_okc mm_60 := am_ckc_ok (p0 := 668) (p1 := 39) (p2 := 666) (p3 := 667) (by decide +kernel)
set_option maxRecDepth 100000 in
theorem ki_61 : (List.range 30).all (am_cki mm_61) = true := by decide +kernel
theorem mo_61 : am_ok am_P mm_61 := am_ok_of ki_61 (fun _ h => am_hi _ _ h) (pf := pf_7) klf_7 (fun _ h => am_hi _ _ h) (pm := pm_7) klm_7 (fun _ h => am_hi _ _ h) (pc := pc_7) klc_7 (fun _ h => am_hi _ _ h) (px := px_7) klx_7 (fun _ h => am_hi _ _ h)
theorem kc_61 : am_okc mm_61 := am_ckc_ok (p0 := 679) (p1 := 39) (p2 := 677) (p3 := 678) (by decide +kernel)
set_option maxRecDepth 100000 in
theorem ki_62 : (List.range 30).all (am_cki mm_62) = true := by decide +kernel
theorem mo_62 : am_ok am_P mm_62 := am_ok_of ki_62 (fun _ h => am_hi _ _ h) (pf := pf_7) klf_7 (fun _ h => am_hi _ _ h) (pm := pm_7) klm_7 (fun _ h => am_hi _ _ h) (pc := pc_7) klc_7 (fun _ h => am_hi _ _ h) (px := px_7) klx_7 (fun _ h => am_hi _ _ h)
theorem kc_62 : am_okc mm_62 := am_ckc_ok (p0 := 694) (p1 := 39) (p2 := 692) (p3 := 693) (by decide +kernel)
set_option maxRecDepth 100000 in
theorem ki_63 : (List.range 46).all (am_cki mm_63) = true := by decide +kernel
theorem mo_63 : am_ok am_P mm_63 := am_ok_of ki_63 (fun _ h => am_hi _ _ h) (pf := pf_7) klf_7 (fun _ h => am_hi _ _ h) (pm := pm_7) klm_7 (fun _ h => am_hi _ _ h) (pc := pc_7) klc_7 (fun _ h => am_hi _ _ h) (px := px_7) klx_7 (fun _ h => am_hi _ _ h)
theorem kc_63 : am_okc mm_63 := am_ckc_ok (p0 := 698) (p1 := 39) (p2 := 696) (p3 := 697) (by decide +kernel)
set_option maxRecDepth 100000 in
theorem ki_64 : (List.range 30).all (am_cki mm_64) = true := by decide +kernel
theorem mo_64 : am_ok am_P mm_64 := am_ok_of ki_64 (fun _ h => am_hi _ _ h) (pf := pf_7) klf_7 (fun _ h => am_hi _ _ h) (pm := pm_7) klm_7 (fun _ h => am_hi _ _ h) (pc := pc_7) klc_7 (fun _ h => am_hi _ _ h) (px := px_7) klx_7 (fun _ h => am_hi _ _ h)
theorem kc_64 : am_okc mm_64 := am_ckc_ok (p0 := 702) (p1 := 39) (p2 := 700) (p3 := 701) (by decide +kernel)
set_option maxRecDepth 100000 in
theorem ki_65 : (List.range 63).all (am_cki mm_65) = true := by decide +kernel
theorem mo_65 : am_ok am_P mm_65 := am_ok_of ki_65 (fun _ h => am_hi _ _ h) (pf := pf_7) klf_7 (fun _ h => am_hi _ _ h) (pm := pm_7) klm_7 (fun _ h => am_hi _ _ h) (pc := pc_7) klc_7 (fun _ h => am_hi _ _ h) (px := px_7) klx_7 (fun _ h => am_hi _ _ h)
theorem kc_65 : am_okc mm_65 := am_ckc_ok (p0 := 706) (p1 := 39) (p2 := 704) (p3 := 705) (by decide +kernel)
set_option maxRecDepth 100000 in
theorem ki_66 : (List.range 48).all (am_cki mm_66) = true := by decide +kernel
theorem mo_66 : am_ok am_P mm_66 := am_ok_of ki_66 (fun _ h => am_hi _ _ h) (pf := pf_7) klf_7 (fun _ h => am_hi _ _ h) (pm := pm_7) klm_7 (fun _ h => am_hi _ _ h) (pc := pc_7) klc_7 (fun _ h => am_hi _ _ h) (px := px_7) klx_7 (fun _ h => am_hi _ _ h)
theorem kc_66 : am_okc mm_66 := am_ckc_ok (p0 := 683) (p1 := 39) (p2 := 681) (p3 := 682) (by decide +kernel)
set_option maxRecDepth 100000 in
theorem ki_67 : (List.range 21).all (am_cki mm_67) = true := by decide +kernel
theorem mo_67 : am_ok am_P mm_67 := am_ok_of ki_67 (fun _ h => am_hi _ _ h) (pf := pf_7) klf_7 (fun _ h => am_hi _ _ h) (pm := pm_7) klm_7 (fun _ h => am_hi _ _ h) (pc := pc_7) klc_7 (fun _ h => am_hi _ _ h) (px := px_7) klx_7 (fun _ h => am_hi _ _ h)
theorem kc_67 : am_okc mm_67 := am_ckc_ok (p0 := 675) (p1 := 39) (p2 := 673) (p3 := 674) (by decide +kernel)
set_option maxRecDepth 100000 in
theorem ki_68 : (List.range 34).all (am_cki mm_68) = true := by decide +kernel
theorem mo_68 : am_ok am_P mm_68 := am_ok_of ki_68 (fun _ h => am_hi _ _ h) (pf := pf_7) klf_7 (fun _ h => am_hi _ _ h) (pm := pm_7) klm_7 (fun _ h => am_hi _ _ h) (pc := pc_7) klc_7 (fun _ h => am_hi _ _ h) (px := px_7) klx_7 (fun _ h => am_hi _ _ h)
theorem kc_68 : am_okc mm_68 := am_ckc_ok (p0 := 690) (p1 := 39) (p2 := 688) (p3 := 689) (by decide +kernel)
