set_option maxRecDepth 100000 in
theorem ki_69 : (List.range 23).all (am_cki mm_69) = true := by decide +kernel
theorem mo_69 : am_ok am_P mm_69 := am_ok_of ki_69 (fun _ h => am_hi _ _ h) (pf := pf_7) klf_7 (fun _ h => am_hi _ _ h) (pm := pm_7) klm_7 (fun _ h => am_hi _ _ h) (pc := pc_7) klc_7 (fun _ h => am_hi _ _ h) (px := px_7) klx_7 (fun _ h => am_hi _ _ h)
theorem kc_69 : am_okc mm_69 := am_ckc_ok (p0 := 660) (p1 := 39) (p2 := 658) (p3 := 659) (by decide +kernel)
set_option maxRecDepth 100000 in
theorem ki_70 : (List.range 18).all (am_cki mm_70) = true := by decide +kernel
theorem mo_70 : am_ok am_P mm_70 := am_ok_of ki_70 (fun _ h => am_hi _ _ h) (pf := pf_7) klf_7 (fun _ h => am_hi _ _ h) (pm := pm_7) klm_7 (fun _ h => am_hi _ _ h) (pc := pc_7) klc_7 (fun _ h => am_hi _ _ h) (px := px_7) klx_7 (fun _ h => am_hi _ _ h)
theorem kc_70 : am_okc mm_70 := am_ckc_ok (p0 := 686) (p1 := 39) (p2 := 685) (p3 := 0) (by decide +kernel)
set_option maxRecDepth 100000 in
theorem ki_71 : (List.range 4).all (am_cki mm_71) = true := by decide +kernel
theorem mo_71 : am_ok am_P mm_71 := am_ok_of ki_71 (fun _ h => am_hi _ _ h) (pf := pf_7) klf_7 (fun _ h => am_hi _ _ h) (pm := pm_7) klm_7 (fun _ h => am_hi _ _ h) (pc := pc_7) klc_7 (fun _ h => am_hi _ _ h) (px := px_7) klx_7 (fun _ h => am_hi _ _ h)
theorem kc_71 : am_okc mm_71 := am_ckc_ok (p0 := 671) (p1 := 39) (p2 := 670) (p3 := 0) (by decide +kernel)
set_option maxRecDepth 100000 in
theorem ki_72 : (List.range 4).all (am_cki mm_72) = true := by decide +kernel
theorem mo_72 : am_ok am_P mm_72 := am_ok_of ki_72 (fun _ h => am_hi _ _ h) (pf := pf_7) klf_7 (fun _ h => am_hi _ _ h) (pm := pm_7) klm_7 (fun _ h => am_hi _ _ h) (pc := pc_7) klc_7 (fun _ h => am_hi _ _ h) (px := px_7) klx_7 (fun _ h => am_hi _ _ h)
theorem kc_72 : am_okc mm_72 := am_ckc_ok (p0 := 709) (p1 := 39) (p2 := 708) (p3 := 0) (by decide +kernel)
set_option maxRecDepth 100000 in
theorem ki_73 : (List.range 52).all (am_cki mm_73) = true := by decide +kernel
theorem mo_73 : am_ok am_P mm_73 := am_ok_of ki_73 (fun _ h => am_hi _ _ h) (pf := pf_7) klf_7 (fun _ h => am_hi _ _ h) (pm := pm_7) klm_7 (fun _ h => am_hi _ _ h) (pc := pc_7) klc_7 (fun _ h => am_hi _ _ h) (px := px_7) klx_7 (fun _ h => am_hi _ _ h)
theorem kc_73 : am_okc mm_73 := am_ckc_ok (p0 := 172) (p1 := 39) (p2 := 170) (p3 := 171) (by decide +kernel)
set_option maxRecDepth 100000 in
theorem ki_74 : (List.range 30).all (am_cki mm_74) = true := by decide +kernel
theorem mo_74 : am_ok am_P mm_74 := am_ok_of ki_74 (fun _ h => am_hi _ _ h) (pf := pf_7) klf_7 (fun _ h => am_hi _ _ h) (pm := pm_7) klm_7 (fun _ h => am_hi _ _ h) (pc := pc_7) klc_7 (fun _ h => am_hi _ _ h) (px := px_7) klx_7 (fun _ h => am_hi _ _ h)
theorem kc_74 : am_okc mm_74 := am_ckc_ok (p0 := 640) (p1 := 39) (p2 := 638) (p3 := 639) (by decide +kernel)
set_option maxRecDepth 100000 in
theorem ki_75 : (List.range 86).all (am_cki mm_75) = true := by decide +kernel
theorem mo_75 : am_ok am_P mm_75 := am_ok_of ki_75 (fun _ h => am_hi _ _ h) (pf := pf_7) klf_7 (fun _ h => am_hi _ _ h) (pm := pm_7) klm_7 (fun _ h => am_hi _ _ h) (pc := pc_7) klc_7 (fun _ h => am_hi _ _ h) (px := px_7) klx_7 (fun _ h => am_hi _ _ h)
theorem kc_75 : am_okc mm_75 := am_ckc_ok (p0 := 714) (p1 := 39) (p2 := 712) (p3 := 713) (by decide +kernel)
set_option maxRecDepth 100000 in
theorem ki_76 : (List.range 14).all (am_cki mm_76) = true := by decide +kernel
theorem mo_76 : am_ok am_P mm_76 := am_ok_of ki_76 (fun _ h => am_hi _ _ h) (pf := pf_7) klf_7 (fun _ h => am_hi _ _ h) (pm := pm_7) klm_7 (fun _ h => am_hi _ _ h) (pc := pc_7) klc_7 (fun _ h => am_hi _ _ h) (px := px_7) klx_7 (fun _ h => am_hi _ _ h)
theorem kc_76 : am_okc mm_76 := am_ckc_ok (p0 := 725) (p1 := 39) (p2 := 723) (p3 := 724) (by decide +kernel)
set_option maxRecDepth 100000 in
theorem ki_77 : (List.range 59).all (am_cki mm_77) = true := by decide +kernel
theorem mo_77 : am_ok am_P mm_77 := am_ok_of ki_77 (fun _ h => am_hi _ _ h) (pf := pf_7) klf_7 (fun _ h => am_hi _ _ h) (pm := pm_7) klm_7 (fun _ h => am_hi _ _ h) (pc := pc_7) klc_7 (fun _ h => am_hi _ _ h) (px := px_7) klx_7 (fun _ h => am_hi _ _ h)
theorem kc_77 : am_okc mm_77 := am_ckc_ok (p0 := 729) (p1 := 39) (p2 := 727) (p3 := 728) (by decide +kernel)
set_option maxRecDepth 100000 in
theorem ki_78 : (List.range 47).all (am_cki mm_78) = true := by decide +kernel
theorem mo_78 : am_ok am_P mm_78 := am_ok_of ki_78 (fun _ h => am_hi _ _ h) (pf := pf_7) klf_7 (fun _ h => am_hi _ _ h) (pm := pm_7) klm_7 (fun _ h => am_hi _ _ h) (pc := pc_7) klc_7 (fun _ h => am_hi _ _ h) (px := px_7) klx_7 (fun _ h => am_hi _ _ h)
theorem kc_78 : am_okc mm_78 := am_ckc_ok (p0 := 652) (p1 := 39) (p2 := 650) (p3 := 651) (by decide +kernel)
set_option maxRecDepth 100000 in
theorem ki_79 : (List.range 149).all (am_cki mm_79) = true := by decide +kernel
theorem mo_79 : am_ok am_P mm_79 := am_ok_of ki_79 (fun _ h => am_hi _ _ h) (pf := pf_7) klf_7 (fun _ h => am_hi _ _ h) (pm := pm_7) klm_7 (fun _ h => am_hi _ _ h) (pc := pc_7) klc_7 (fun _ h => am_hi _ _ h) (px := px_7) klx_7 (fun _ h => am_hi _ _ h)
theorem kc_79 : am_okc mm_79 := am_ckc_ok (p0 := 656) (p1 := 39) (p2 := 654) (p3 := 655) (by decide +kernel)
set_option maxRecDepth 100000 in
theorem ki_80 : (List.range 77).all (am_cki mm_80) = true := by decide +kernel
theorem mo_80 : am_ok am_P mm_80 := am_ok_of ki_80 (fun _ h => am_hi _ _ h) (pf := pf_7) klf_7 (fun _ h => am_hi _ _ h) (pm := pm_7) klm_7 (fun _ h => am_hi _ _ h) (pc := pc_7) klc_7 (fun _ h => am_hi _ _ h) (px := px_7) klx_7 (fun _ h => am_hi _ _ h)
theorem kc_80 : am_okc mm_80 := am_ckc_ok (p0 := 664) (p1 := 39) (p2 := 662) (p3 := 663) (by decide +kernel)
set_option maxRecDepth 100000 in
theorem ki_81 : (List.range 18).all (am_cki mm_81) = true := by decide +kernel
theorem mo_81 : am_ok am_P mm_81 := am_ok_of ki_81 (fun _ h => am_hi _ _ h) (pf := pf_8) klf_8 (fun _ h => am_hi _ _ h) (pm := pm_8) klm_8 (fun _ h => am_hi _ _ h) (pc := pc_8) klc_8 (fun _ h => am_hi _ _ h) (px := px_8) klx_8 (fun _ h => am_hi _ _ h)
theorem kc_81 : am_okc mm_81 := am_ckc_ok (p0 := 920) (p1 := 43) (p2 := 918) (p3 := 919) (by decide +kernel)
set_option maxRecDepth 100000 in
theorem ki_82 : (List.range 37).all (am_cki mm_82) = true := by decide +kernel
theorem mo_82 : am_ok am_P mm_82 := am_ok_of ki_82 (fun _ h => am_hi _ _ h) (pf := pf_8) klf_8 (fun _ h => am_hi _ _ h) (pm := pm_8) klm_8 (fun _ h => am_hi _ _ h) (pc := pc_8) klc_8 (fun _ h => am_hi _ _ h) (px := px_8) klx_8 (fun _ h => am_hi _ _ h)
theorem kc_82 : am_okc mm_82 := am_ckc_ok (p0 := 908) (p1 := 43) (p2 := 906) (p3 := 907) (by decide +kernel)
set_option maxRecDepth 100000 in
theorem ki_83 : (List.range 46).all (am_cki mm_83) = true := by decide +kernel
theorem mo_83 : am_ok am_P mm_83 := am_ok_of ki_83 (fun _ h => am_hi _ _ h) (pf := pf_8) klf_8 (fun _ h => am_hi _ _ h) (pm := pm_8) klm_8 (fun _ h => am_hi _ _ h) (pc := pc_8) klc_8 (fun _ h => am_hi _ _ h) (px := px_8) klx_8 (fun _ h => am_hi _ _ h)
theorem kc_83 : am_okc mm_83 := am_ckc_ok (p0 := 912) (p1 := 43) (p2 := 910) (p3 := 911) (by decide +kernel)
set_option maxRecDepth 100000 in
theorem ki_84 : (List.range 54).all (am_cki mm_84) = true := by decide +kernel
theorem mo_84 : am_ok am_P mm_84 := am_ok_of ki_84 (fun _ h => am_hi _ _ h) (pf := pf_8) klf_8 (fun _ h => am_hi _ _ h) (pm := pm_8) klm_8 (fun _ h => am_hi _ _ h) (pc := pc_8) klc_8 (fun _ h => am_hi _ _ h) (px := px_8) klx_8 (fun _ h => am_hi _ _ h)
theorem kc_84 : am_okc mm_84 := am_ckc_ok (p0 := 928) (p1 := 43) (p2 := 926) (p3 := 927) (by decide +kernel)
set_option maxRecDepth 100000 in
theorem ki_85 : (List.range 117).all (am_cki mm_85) = true := by decide +kernel
theorem mo_85 : am_ok am_P mm_85 := am_ok_of ki_85 (fun _ h => am_hi _ _ h) (pf := pf_8) klf_8 (fun _ h => am_hi _ _ h) (pm := pm_8) klm_8 (fun _ h => am_hi _ _ h) (pc := pc_8) klc_8 (fun _ h => am_hi _ _ h) (px := px_8) klx_8 (fun _ h => am_hi _ _ h)
theorem kc_85 : am_okc mm_85 := am_ckc_ok (p0 := 924) (p1 := 43) (p2 := 922) (p3 := 923) (by decide +kernel)
set_option maxRecDepth 100000 in
theorem ki_86 : (List.range 18).all (am_cki mm_86) = true := by decide +kernel
theorem mo_86 : am_ok am_P mm_86 := am_ok_of ki_86 (fun _ h => am_hi _ _ h) (pf := pf_9) klf_9 (fun _ h => am_hi _ _ h) (pm := pm_9) klm_9 (fun _ h => am_hi _ _ h) (pc := pc_9) klc_9 (fun _ h => am_hi _ _ h) (px := px_9) klx_9 (fun _ h => am_hi _ _ h)
theorem kc_86 : am_okc mm_86 := am_ckc_ok (p0 := 868) (p1 := 42) (p2 := 867) (p3 := 0) (by decide +kernel)
set_option maxRecDepth 100000 in
theorem ki_87 : (List.range 16).all (am_cki mm_87) = true := by decide +kernel
theorem mo_87 : am_ok am_P mm_87 := am_ok_of ki_87 (fun _ h => am_hi _ _ h) (pf := pf_9) klf_9 (fun _ h => am_hi _ _ h) (pm := pm_9) klm_9 (fun _ h => am_hi _ _ h) (pc := pc_9) klc_9 (fun _ h => am_hi _ _ h) (px := px_9) klx_9 (fun _ h => am_hi _ _ h)
theorem kc_87 : am_okc mm_87 := am_ckc_ok (p0 := 885) (p1 := 42) (p2 := 883) (p3 := 884) (by decide +kernel)
set_option maxRecDepth 100000 in
theorem ki_88 : (List.range 11).all (am_cki mm_88) = true := by decide +kernel
theorem mo_88 : am_ok am_P mm_88 := am_ok_of ki_88 (fun _ h => am_hi _ _ h) (pf := pf_9) klf_9 (fun _ h => am_hi _ _ h) (pm := pm_9) klm_9 (fun _ h => am_hi _ _ h) (pc := pc_9) klc_9 (fun _ h => am_hi _ _ h) (px := px_9) klx_9 (fun _ h => am_hi _ _ h)
theorem kc_88 : am_okc mm_88 := am_ckc_ok (p0 := 900) (p1 := 42) (p2 := 898) (p3 := 899) (by decide +kernel)
set_option maxRecDepth 100000 in
theorem ki_89 : (List.range 38).all (am_cki mm_89) = true := by decide +kernel
theorem mo_89 : am_ok am_P mm_89 := am_ok_of ki_89 (fun _ h => am_hi _ _ h) (pf := pf_9) klf_9 (fun _ h => am_hi _ _ h) (pm := pm_9) klm_9 (fun _ h => am_hi _ _ h) (pc := pc_9) klc_9 (fun _ h => am_hi _ _ h) (px := px_9) klx_9 (fun _ h => am_hi _ _ h)
theorem kc_89 : am_okc mm_89 := am_ckc_ok (p0 := 896) (p1 := 42) (p2 := 894) (p3 := 895) (by decide +kernel)
set_option maxRecDepth 100000 in
theorem ki_90 : (List.range 26).all (am_cki mm_90) = true := by decide +kernel
theorem mo_90 : am_ok am_P mm_90 := am_ok_of ki_90 (fun _ h => am_hi _ _ h) (pf := pf_9) klf_9 (fun _ h => am_hi _ _ h) (pm := pm_9) klm_9 (fun _ h => am_hi _ _ h) (pc := pc_9) klc_9 (fun _ h => am_hi _ _ h) (px := px_9) klx_9 (fun _ h => am_hi _ _ h)
theorem kc_90 : am_okc mm_90 := am_ckc_ok (p0 := 876) (p1 := 42) (p2 := 874) (p3 := 875) (by decide +kernel)
set_option maxRecDepth 100000 in
theorem ki_91 : (List.range 71).all (am_cki mm_91) = true := by decide +kernel
theorem mo_91 : am_ok am_P mm_91 := am_ok_of ki_91 (fun _ h => am_hi _ _ h) (pf := pf_9) klf_9 (fun _ h => am_hi _ _ h) (pm := pm_9) klm_9 (fun _ h => am_hi _ _ h) (pc := pc_9) klc_9 (fun _ h => am_hi _ _ h) (px := px_9) klx_9 (fun _ h => am_hi _ _ h)
theorem kc_91 : am_okc mm_91 := am_ckc_ok (p0 := 881) (p1 := 42) (p2 := 879) (p3 := 880) (by decide +kernel)
set_option maxRecDepth 100000 in
theorem ki_92 : (List.range 58).all (am_cki mm_92) = true := by decide +kernel
theorem mo_92 : am_ok am_P mm_92 := am_ok_of ki_92 (fun _ h => am_hi _ _ h) (pf := pf_10) klf_10 (fun _ h => am_hi _ _ h) (pm := pm_10) klm_10 (fun _ h => am_hi _ _ h) (pc := pc_10) klc_10 (fun _ h => am_hi _ _ h) (px := px_10) klx_10 (fun _ h => am_hi _ _ h)
theorem kc_92 : am_okc mm_92 := am_ckc_ok (p0 := 574) (p1 := 35) (p2 := 572) (p3 := 573) (by decide +kernel)
set_option maxRecDepth 100000 in
theorem ki_93 : (List.range 51).all (am_cki mm_93) = true := by decide +kernel
theorem mo_93 : am_ok am_P mm_93 := am_ok_of ki_93 (fun _ h => am_hi _ _ h) (pf := pf_10) klf_10 (fun _ h => am_hi _ _ h) (pm := pm_10) klm_10 (fun _ h => am_hi _ _ h) (pc := pc_10) klc_10 (fun _ h => am_hi _ _ h) (px := px_10) klx_10 (fun _ h => am_hi _ _ h)
theorem kc_93 : am_okc mm_93 := am_ckc_ok (p0 := 582) (p1 := 35) (p2 := 580) (p3 := 581) (by decide +kernel)
set_option maxRecDepth 100000 in
theorem ki_94 : (List.range 54).all (am_cki mm_94) = true := by decide +kernel
theorem mo_94 : am_ok am_P mm_94 := am_ok_of ki_94 (fun _ h => am_hi _ _ h) (pf := pf_10) klf_10 (fun _ h => am_hi _ _ h) (pm := pm_10) klm_10 (fun _ h => am_hi _ _ h) (pc := pc_10) klc_10 (fun _ h => am_hi _ _ h) (px := px_10) klx_10 (fun _ h => am_hi _ _ h)
theorem kc_94 : am_okc mm_94 := am_ckc_ok (p0 := 590) (p1 := 35) (p2 := 588) (p3 := 589) (by decide +kernel)
set_option maxRecDepth 100000 in
theorem ki_95 : (List.range 63).all (am_cki mm_95) = true := by decide +kernel
theorem mo_95 : am_ok am_P mm_95 := am_ok_of ki_95 (fun _ h => am_hi _ _ h) (pf := pf_10) klf_10 (fun _ h => am_hi _ _ h) (pm := pm_10) klm_10 (fun _ h => am_hi _ _ h) (pc := pc_10) klc_10 (fun _ h => am_hi _ _ h) (px := px_10) klx_10 (fun _ h => am_hi _ _ h)
theorem kc_95 : am_okc mm_95 := am_ckc_ok (p0 := 597) (p1 := 35) (p2 := 595) (p3 := 596) (by decide +kernel)
set_option maxRecDepth 100000 in
theorem ki_96 : (List.range 106).all (am_cki mm_96) = true := by decide +kernel
theorem mo_96 : am_ok am_P mm_96 := am_ok_of ki_96 (fun _ h => am_hi _ _ h) (pf := pf_10) klf_10 (fun _ h => am_hi _ _ h) (pm := pm_10) klm_10 (fun _ h => am_hi _ _ h) (pc := pc_10) klc_10 (fun _ h => am_hi _ _ h) (px := px_10) klx_10 (fun _ h => am_hi _ _ h)
theorem kc_96 : am_okc mm_96 := am_ckc_ok (p0 := 601) (p1 := 35) (p2 := 599) (p3 := 600) (by decide +kernel)
set_option maxRecDepth 100000 in
theorem ki_97 : (List.range 60).all (am_cki mm_97) = true := by decide +kernel
theorem mo_97 : am_ok am_P mm_97 := am_ok_of ki_97 (fun _ h => am_hi _ _ h) (pf := pf_10) klf_10 (fun _ h => am_hi _ _ h) (pm := pm_10) klm_10 (fun _ h => am_hi _ _ h) (pc := pc_10) klc_10 (fun _ h => am_hi _ _ h) (px := px_10) klx_10 (fun _ h => am_hi _ _ h)
theorem kc_97 : am_okc mm_97 := am_ckc_ok (p0 := 627) (p1 := 35) (p2 := 625) (p3 := 626) (by decide +kernel)
set_option maxRecDepth 100000 in
theorem ki_98 : (List.range 86).all (am_cki mm_98) = true := by decide +kernel
theorem mo_98 : am_ok am_P mm_98 := am_ok_of ki_98 (fun _ h => am_hi _ _ h) (pf := pf_10) klf_10 (fun _ h => am_hi _ _ h) (pm := pm_10) klm_10 (fun _ h => am_hi _ _ h) (pc := pc_10) klc_10 (fun _ h => am_hi _ _ h) (px := px_10) klx_10 (fun _ h => am_hi _ _ h)
theorem kc_98 : am_okc mm_98 := am_ckc_ok (p0 := 636) (p1 := 35) (p2 := 634) (p3 := 635) (by decide +kernel)
set_option maxRecDepth 100000 in
theorem ki_99 : (List.range 80).all (am_cki mm_99) = true := by decide +kernel
theorem mo_99 : am_ok am_P mm_99 := am_ok_of ki_99 (fun _ h => am_hi _ _ h) (pf := pf_10) klf_10 (fun _ h => am_hi _ _ h) (pm := pm_10) klm_10 (fun _ h => am_hi _ _ h) (pc := pc_10) klc_10 (fun _ h => am_hi _ _ h) (px := px_10) klx_10 (fun _ h => am_hi _ _ h)
theorem kc_99 : am_okc mm_99 := am_ckc_ok (p0 := 644) (p1 := 35) (p2 := 642) (p3 := 643) (by decide +kernel)
set_option maxRecDepth 100000 in
theorem ki_100 : (List.range 133).all (am_cki mm_100) = true := by decide +kernel
theorem mo_100 : am_ok am_P mm_100 := am_ok_of ki_100 (fun _ h => am_hi _ _ h) (pf := pf_10) klf_10 (fun _ h => am_hi _ _ h) (pm := pm_10) klm_10 (fun _ h => am_hi _ _ h) (pc := pc_10) klc_10 (fun _ h => am_hi _ _ h) (px := px_10) klx_10 (fun _ h => am_hi _ _ h)
theorem kc_100 : am_okc mm_100 := am_ckc_ok (p0 := 741) (p1 := 35) (p2 := 739) (p3 := 740) (by decide +kernel)
set_option maxRecDepth 100000 in
theorem ki_101 : (List.range 49).all (am_cki mm_101) = true := by decide +kernel
theorem mo_101 : am_ok am_P mm_101 := am_ok_of ki_101 (fun _ h => am_hi _ _ h) (pf := pf_10) klf_10 (fun _ h => am_hi _ _ h) (pm := pm_10) klm_10 (fun _ h => am_hi _ _ h) (pc := pc_10) klc_10 (fun _ h => am_hi _ _ h) (px := px_10) klx_10 (fun _ h => am_hi _ _ h)
theorem kc_101 : am_okc mm_101 := am_ckc_ok (p0 := 745) (p1 := 35) (p2 := 743) (p3 := 744) (by decide +kernel)
set_option maxRecDepth 100000 in
theorem ki_102 : (List.range 97).all (am_cki mm_102) = true := by decide +kernel
theorem mo_102 : am_ok am_P mm_102 := am_ok_of ki_102 (fun _ h => am_hi _ _ h) (pf := pf_10) klf_10 (fun _ h => am_hi _ _ h) (pm := pm_10) klm_10 (fun _ h => am_hi _ _ h) (pc := pc_10) klc_10 (fun _ h => am_hi _ _ h) (px := px_10) klx_10 (fun _ h => am_hi _ _ h)
theorem kc_102 : am_okc mm_102 := am_ckc_ok (p0 := 750) (p1 := 35) (p2 := 748) (p3 := 749) (by decide +kernel)
set_option maxRecDepth 100000 in
theorem ki_103 : (List.range 57).all (am_cki mm_103) = true := by decide +kernel
theorem mo_103 : am_ok am_P mm_103 := am_ok_of ki_103 (fun _ h => am_hi _ _ h) (pf := pf_10) klf_10 (fun _ h => am_hi _ _ h) (pm := pm_10) klm_10 (fun _ h => am_hi _ _ h) (pc := pc_10) klc_10 (fun _ h => am_hi _ _ h) (px := px_10) klx_10 (fun _ h => am_hi _ _ h)
theorem kc_103 : am_okc mm_103 := am_ckc_ok (p0 := 780) (p1 := 35) (p2 := 778) (p3 := 779) (by decide +kernel)
set_option maxRecDepth 100000 in
theorem ki_104 : (List.range 102).all (am_cki mm_104) = true := by decide +kernel
theorem mo_104 : am_ok am_P mm_104 := am_ok_of ki_104 (fun _ h => am_hi _ _ h) (pf := pf_10) klf_10 (fun _ h => am_hi _ _ h) (pm := pm_10) klm_10 (fun _ h => am_hi _ _ h) (pc := pc_10) klc_10 (fun _ h => am_hi _ _ h) (px := px_10) klx_10 (fun _ h => am_hi _ _ h)
theorem kc_104 : am_okc mm_104 := am_ckc_ok (p0 := 785) (p1 := 35) (p2 := 783) (p3 := 784) (by decide +kernel)
set_option maxRecDepth 100000 in
theorem ki_105 : (List.range 129).all (am_cki mm_105) = true := by decide +kernel
theorem mo_105 : am_ok am_P mm_105 := am_ok_of ki_105 (fun _ h => am_hi _ _ h) (pf := pf_10) klf_10 (fun _ h => am_hi _ _ h) (pm := pm_10) klm_10 (fun _ h => am_hi _ _ h) (pc := pc_10) klc_10 (fun _ h => am_hi _ _ h) (px := px_10) klx_10 (fun _ h => am_hi _ _ h)
theorem kc_105 : am_okc mm_105 := am_ckc_ok (p0 := 793) (p1 := 35) (p2 := 791) (p3 := 792) (by decide +kernel)
set_option maxRecDepth 100000 in
theorem ki_106 : (List.range 137).all (am_cki mm_106) = true := by decide +kernel
theorem mo_106 : am_ok am_P mm_106 := am_ok_of ki_106 (fun _ h => am_hi _ _ h) (pf := pf_10) klf_10 (fun _ h => am_hi _ _ h) (pm := pm_10) klm_10 (fun _ h => am_hi _ _ h) (pc := pc_10) klc_10 (fun _ h => am_hi _ _ h) (px := px_10) klx_10 (fun _ h => am_hi _ _ h)
theorem kc_106 : am_okc mm_106 := am_ckc_ok (p0 := 797) (p1 := 35) (p2 := 795) (p3 := 796) (by decide +kernel)
set_option maxRecDepth 100000 in
theorem ki_107 : (List.range 72).all (am_cki mm_107) = true := by decide +kernel
theorem mo_107 : am_ok am_P mm_107 := am_ok_of ki_107 (fun _ h => am_hi _ _ h) (pf := pf_10) klf_10 (fun _ h => am_hi _ _ h) (pm := pm_10) klm_10 (fun _ h => am_hi _ _ h) (pc := pc_10) klc_10 (fun _ h => am_hi _ _ h) (px := px_10) klx_10 (fun _ h => am_hi _ _ h)
theorem kc_107 : am_okc mm_107 := am_ckc_ok (p0 := 857) (p1 := 35) (p2 := 855) (p3 := 856) (by decide +kernel)
set_option maxRecDepth 100000 in
theorem ki_108 : (List.range 51).all (am_cki mm_108) = true := by decide +kernel
theorem mo_108 : am_ok am_P mm_108 := am_ok_of ki_108 (fun _ h => am_hi _ _ h) (pf := pf_10) klf_10 (fun _ h => am_hi _ _ h) (pm := pm_10) klm_10 (fun _ h => am_hi _ _ h) (pc := pc_10) klc_10 (fun _ h => am_hi _ _ h) (px := px_10) klx_10 (fun _ h => am_hi _ _ h)
theorem kc_108 : am_okc mm_108 := am_ckc_ok (p0 := 861) (p1 := 35) (p2 := 859) (p3 := 860) (by decide +kernel)
set_option maxRecDepth 100000 in
theorem ki_109 : (List.range 99).all (am_cki mm_109) = true := by decide +kernel
theorem mo_109 : am_ok am_P mm_109 := am_ok_of ki_109 (fun _ h => am_hi _ _ h) (pf := pf_10) klf_10 (fun _ h => am_hi _ _ h) (pm := pm_10) klm_10 (fun _ h => am_hi _ _ h) (pc := pc_10) klc_10 (fun _ h => am_hi _ _ h) (px := px_10) klx_10 (fun _ h => am_hi _ _ h)
theorem kc_109 : am_okc mm_109 := am_ckc_ok (p0 := 865) (p1 := 35) (p2 := 863) (p3 := 864) (by decide +kernel)
set_option maxRecDepth 100000 in
theorem ki_110 : (List.range 116).all (am_cki mm_110) = true := by decide +kernel
theorem mo_110 : am_ok am_P mm_110 := am_ok_of ki_110 (fun _ h => am_hi _ _ h) (pf := pf_10) klf_10 (fun _ h => am_hi _ _ h) (pm := pm_10) klm_10 (fun _ h => am_hi _ _ h) (pc := pc_10) klc_10 (fun _ h => am_hi _ _ h) (px := px_10) klx_10 (fun _ h => am_hi _ _ h)
theorem kc_110 : am_okc mm_110 := am_ckc_ok (p0 := 872) (p1 := 35) (p2 := 870) (p3 := 871) (by decide +kernel)
set_option maxRecDepth 100000 in
theorem ki_111 : (List.range 58).all (am_cki mm_111) = true := by decide +kernel
theorem mo_111 : am_ok am_P mm_111 := am_ok_of ki_111 (fun _ h => am_hi _ _ h) (pf := pf_10) klf_10 (fun _ h => am_hi _ _ h) (pm := pm_10) klm_10 (fun _ h => am_hi _ _ h) (pc := pc_10) klc_10 (fun _ h => am_hi _ _ h) (px := px_10) klx_10 (fun _ h => am_hi _ _ h)
theorem kc_111 : am_okc mm_111 := am_ckc_ok (p0 := 904) (p1 := 35) (p2 := 902) (p3 := 903) (by decide +kernel)
set_option maxRecDepth 100000 in
theorem ki_112 : (List.range 50).all (am_cki mm_112) = true := by decide +kernel
theorem mo_112 : am_ok am_P mm_112 := am_ok_of ki_112 (fun _ h => am_hi _ _ h) (pf := pf_10) klf_10 (fun _ h => am_hi _ _ h) (pm := pm_10) klm_10 (fun _ h => am_hi _ _ h) (pc := pc_10) klc_10 (fun _ h => am_hi _ _ h) (px := px_10) klx_10 (fun _ h => am_hi _ _ h)
theorem kc_112 : am_okc mm_112 := am_ckc_ok (p0 := 470) (p1 := 35) (p2 := 468) (p3 := 469) (by decide +kernel)
set_option maxRecDepth 100000 in
theorem ki_113 : (List.range 62).all (am_cki mm_113) = true := by decide +kernel
theorem mo_113 : am_ok am_P mm_113 := am_ok_of ki_113 (fun _ h => am_hi _ _ h) (pf := pf_10) klf_10 (fun _ h => am_hi _ _ h) (pm := pm_10) klm_10 (fun _ h => am_hi _ _ h) (pc := pc_10) klc_10 (fun _ h => am_hi _ _ h) (px := px_10) klx_10 (fun _ h => am_hi _ _ h)
theorem kc_113 : am_okc mm_113 := am_ckc_ok (p0 := 916) (p1 := 35) (p2 := 914) (p3 := 915) (by decide +kernel)
set_option maxRecDepth 100000 in
theorem ki_114 : (List.range 43).all (am_cki mm_114) = true := by decide +kernel
theorem mo_114 : am_ok am_P mm_114 := am_ok_of ki_114 (fun _ h => am_hi _ _ h) (pf := pf_10) klf_10 (fun _ h => am_hi _ _ h) (pm := pm_10) klm_10 (fun _ h => am_hi _ _ h) (pc := pc_10) klc_10 (fun _ h => am_hi _ _ h) (px := px_10) klx_10 (fun _ h => am_hi _ _ h)
theorem kc_114 : am_okc mm_114 := am_ckc_ok (p0 := 942) (p1 := 35) (p2 := 940) (p3 := 941) (by decide +kernel)
set_option maxRecDepth 100000 in
theorem ki_115 : (List.range 68).all (am_cki mm_115) = true := by decide +kernel
theorem mo_115 : am_ok am_P mm_115 := am_ok_of ki_115 (fun _ h => am_hi _ _ h) (pf := pf_10) klf_10 (fun _ h => am_hi _ _ h) (pm := pm_10) klm_10 (fun _ h => am_hi _ _ h) (pc := pc_10) klc_10 (fun _ h => am_hi _ _ h) (px := px_10) klx_10 (fun _ h => am_hi _ _ h)
theorem kc_115 : am_okc mm_115 := am_ckc_ok (p0 := 947) (p1 := 35) (p2 := 945) (p3 := 946) (by decide +kernel)
set_option maxRecDepth 100000 in
theorem ki_116 : (List.range 36).all (am_cki mm_116) = true := by decide +kernel
theorem mo_116 : am_ok am_P mm_116 := am_ok_of ki_116 (fun _ h => am_hi _ _ h) (pf := pf_10) klf_10 (fun _ h => am_hi _ _ h) (pm := pm_10) klm_10 (fun _ h => am_hi _ _ h) (pc := pc_10) klc_10 (fun _ h => am_hi _ _ h) (px := px_10) klx_10 (fun _ h => am_hi _ _ h)
theorem kc_116 : am_okc mm_116 := am_ckc_ok (p0 := 952) (p1 := 35) (p2 := 950) (p3 := 951) (by decide +kernel)
set_option maxRecDepth 100000 in
theorem ki_117 : (List.range 131).all (am_cki mm_117) = true := by decide +kernel
theorem mo_117 : am_ok am_P mm_117 := am_ok_of ki_117 (fun _ h => am_hi _ _ h) (pf := pf_10) klf_10 (fun _ h => am_hi _ _ h) (pm := pm_10) klm_10 (fun _ h => am_hi _ _ h) (pc := pc_10) klc_10 (fun _ h => am_hi _ _ h) (px := px_10) klx_10 (fun _ h => am_hi _ _ h)
theorem kc_117 : am_okc mm_117 := am_ckc_ok (p0 := 956) (p1 := 35) (p2 := 954) (p3 := 955) (by decide +kernel)
set_option maxRecDepth 100000 in
theorem ki_118 : (List.range 69).all (am_cki mm_118) = true := by decide +kernel
theorem mo_118 : am_ok am_P mm_118 := am_ok_of ki_118 (fun _ h => am_hi _ _ h) (pf := pf_10) klf_10 (fun _ h => am_hi _ _ h) (pm := pm_10) klm_10 (fun _ h => am_hi _ _ h) (pc := pc_10) klc_10 (fun _ h => am_hi _ _ h) (px := px_10) klx_10 (fun _ h => am_hi _ _ h)
theorem kc_118 : am_okc mm_118 := am_ckc_ok (p0 := 964) (p1 := 35) (p2 := 962) (p3 := 963) (by decide +kernel)
set_option maxRecDepth 100000 in
theorem ki_119 : (List.range 42).all (am_cki mm_119) = true := by decide +kernel
theorem mo_119 : am_ok am_P mm_119 := am_ok_of ki_119 (fun _ h => am_hi _ _ h) (pf := pf_10) klf_10 (fun _ h => am_hi _ _ h) (pm := pm_10) klm_10 (fun _ h => am_hi _ _ h) (pc := pc_10) klc_10 (fun _ h => am_hi _ _ h) (px := px_10) klx_10 (fun _ h => am_hi _ _ h)
theorem kc_119 : am_okc mm_119 := am_ckc_ok (p0 := 968) (p1 := 35) (p2 := 966) (p3 := 967) (by decide +kernel)
set_option maxRecDepth 100000 in
theorem ki_120 : (List.range 126).all (am_cki mm_120) = true := by decide +kernel
theorem mo_120 : am_ok am_P mm_120 := am_ok_of ki_120 (fun _ h => am_hi _ _ h) (pf := pf_10) klf_10 (fun _ h => am_hi _ _ h) (pm := pm_10) klm_10 (fun _ h => am_hi _ _ h) (pc := pc_10) klc_10 (fun _ h => am_hi _ _ h) (px := px_10) klx_10 (fun _ h => am_hi _ _ h)
theorem kc_120 : am_okc mm_120 := am_ckc_ok (p0 := 982) (p1 := 35) (p2 := 980) (p3 := 981) (by decide +kernel)
set_option maxRecDepth 100000 in
theorem ki_121 : (List.range 47).all (am_cki mm_121) = true := by decide +kernel
theorem mo_121 : am_ok am_P mm_121 := am_ok_of ki_121 (fun _ h => am_hi _ _ h) (pf := pf_10) klf_10 (fun _ h => am_hi _ _ h) (pm := pm_10) klm_10 (fun _ h => am_hi _ _ h) (pc := pc_10) klc_10 (fun _ h => am_hi _ _ h) (px := px_10) klx_10 (fun _ h => am_hi _ _ h)
theorem kc_121 : am_okc mm_121 := am_ckc_ok (p0 := 986) (p1 := 35) (p2 := 984) (p3 := 985) (by decide +kernel)
set_option maxRecDepth 100000 in
theorem ki_122 : (List.range 64).all (am_cki mm_122) = true := by decide +kernel
theorem mo_122 : am_ok am_P mm_122 := am_ok_of ki_122 (fun _ h => am_hi _ _ h) (pf := pf_10) klf_10 (fun _ h => am_hi _ _ h) (pm := pm_10) klm_10 (fun _ h => am_hi _ _ h) (pc := pc_10) klc_10 (fun _ h => am_hi _ _ h) (px := px_10) klx_10 (fun _ h => am_hi _ _ h)
theorem kc_122 : am_okc mm_122 := am_ckc_ok (p0 := 994) (p1 := 35) (p2 := 992) (p3 := 993) (by decide +kernel)
set_option maxRecDepth 100000 in
theorem ki_123 : (List.range 101).all (am_cki mm_123) = true := by decide +kernel
theorem mo_123 : am_ok am_P mm_123 := am_ok_of ki_123 (fun _ h => am_hi _ _ h) (pf := pf_10) klf_10 (fun _ h => am_hi _ _ h) (pm := pm_10) klm_10 (fun _ h => am_hi _ _ h) (pc := pc_10) klc_10 (fun _ h => am_hi _ _ h) (px := px_10) klx_10 (fun _ h => am_hi _ _ h)
theorem kc_123 : am_okc mm_123 := am_ckc_ok (p0 := 488) (p1 := 35) (p2 := 486) (p3 := 487) (by decide +kernel)
