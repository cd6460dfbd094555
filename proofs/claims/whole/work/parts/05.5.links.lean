theorem mv_L_27 : MLV RL 27 mX10_abbreviate 0 := ⟨gd_of (i := 1204) (by decide +kernel) rfl, gd_of (i := 1205) (by decide +kernel) rfl, gd_of (i := 1206) (by decide +kernel) rfl, mk_X10_abbreviate⟩
theorem mk_X9_take : Mk mX9_take 1 := ⟨gd_of (i := 80) (by decide +kernel) rfl, gd_of (i := 494) (by decide +kernel) rfl, by decide +kernel⟩
theorem mv_L_28 : MLV RL 28 mX9_take 1 := ⟨gd_of (i := 491) (by decide +kernel) rfl, gd_of (i := 492) (by decide +kernel) rfl, gd_of (i := 493) (by decide +kernel) rfl, mk_X9_take⟩
theorem mk_X10_take : Mk mX10_take 1 := ⟨gd_of (i := 91) (by decide +kernel) rfl, gd_of (i := 1228) (by decide +kernel) rfl, by decide +kernel⟩
theorem mv_L_31 : MLV RL 31 mX10_take 1 := ⟨gd_of (i := 1225) (by decide +kernel) rfl, gd_of (i := 1226) (by decide +kernel) rfl, gd_of (i := 1227) (by decide +kernel) rfl, mk_X10_take⟩
theorem mk_X9_count : Mk mX9_count 2 := ⟨gd_of (i := 80) (by decide +kernel) rfl, gd_of (i := 539) (by decide +kernel) rfl, by decide +kernel⟩
theorem mv_L_32 : MLV RL 32 mX9_count 2 := ⟨gd_of (i := 536) (by decide +kernel) rfl, gd_of (i := 537) (by decide +kernel) rfl, gd_of (i := 538) (by decide +kernel) rfl, mk_X9_count⟩
theorem mk_X10_count : Mk mX10_count 2 := ⟨gd_of (i := 91) (by decide +kernel) rfl, gd_of (i := 1253) (by decide +kernel) rfl, by decide +kernel⟩
theorem mv_L_36 : MLV RL 36 mX10_count 2 := ⟨gd_of (i := 1250) (by decide +kernel) rfl, gd_of (i := 1251) (by decide +kernel) rfl, gd_of (i := 1252) (by decide +kernel) rfl, mk_X10_count⟩
theorem mk_X9_sentence : Mk mX9_sentence 3 := ⟨gd_of (i := 80) (by decide +kernel) rfl, gd_of (i := 555) (by decide +kernel) rfl, by decide +kernel⟩
theorem mv_L_37 : MLV RL 37 mX9_sentence 3 := ⟨gd_of (i := 552) (by decide +kernel) rfl, gd_of (i := 553) (by decide +kernel) rfl, gd_of (i := 554) (by decide +kernel) rfl, mk_X9_sentence⟩
theorem mk_X10_sentence : Mk mX10_sentence 3 := ⟨gd_of (i := 91) (by decide +kernel) rfl, gd_of (i := 1272) (by decide +kernel) rfl, by decide +kernel⟩
theorem mv_L_41 : MLV RL 41 mX10_sentence 3 := ⟨gd_of (i := 1269) (by decide +kernel) rfl, gd_of (i := 1270) (by decide +kernel) rfl, gd_of (i := 1271) (by decide +kernel) rfl, mk_X10_sentence⟩
theorem mk_X9_word : Mk mX9_word 3 := ⟨gd_of (i := 80) (by decide +kernel) rfl, gd_of (i := 567) (by decide +kernel) rfl, by decide +kernel⟩
theorem mv_L_42 : MLV RL 42 mX9_word 3 := ⟨gd_of (i := 564) (by decide +kernel) rfl, gd_of (i := 565) (by decide +kernel) rfl, gd_of (i := 566) (by decide +kernel) rfl, mk_X9_word⟩
theorem mk_X10_word : Mk mX10_word 3 := ⟨gd_of (i := 91) (by decide +kernel) rfl, gd_of (i := 1280) (by decide +kernel) rfl, by decide +kernel⟩
theorem mv_L_45 : MLV RL 45 mX10_word 3 := ⟨gd_of (i := 1277) (by decide +kernel) rfl, gd_of (i := 1278) (by decide +kernel) rfl, gd_of (i := 1279) (by decide +kernel) rfl, mk_X10_word⟩
theorem mk_X9_letter : Mk mX9_letter 3 := ⟨gd_of (i := 80) (by decide +kernel) rfl, gd_of (i := 575) (by decide +kernel) rfl, by decide +kernel⟩
theorem mv_L_46 : MLV RL 46 mX9_letter 3 := ⟨gd_of (i := 572) (by decide +kernel) rfl, gd_of (i := 573) (by decide +kernel) rfl, gd_of (i := 574) (by decide +kernel) rfl, mk_X9_letter⟩
theorem mk_X10_letter : Mk mX10_letter 3 := ⟨gd_of (i := 91) (by decide +kernel) rfl, gd_of (i := 1288) (by decide +kernel) rfl, by decide +kernel⟩
theorem mv_L_49 : MLV RL 49 mX10_letter 3 := ⟨gd_of (i := 1285) (by decide +kernel) rfl, gd_of (i := 1286) (by decide +kernel) rfl, gd_of (i := 1287) (by decide +kernel) rfl, mk_X10_letter⟩
theorem mk_X9_change : Mk mX9_change 4 := ⟨gd_of (i := 80) (by decide +kernel) rfl, gd_of (i := 587) (by decide +kernel) rfl, by decide +kernel⟩
theorem mv_L_50 : MLV RL 50 mX9_change 4 := ⟨gd_of (i := 584) (by decide +kernel) rfl, gd_of (i := 585) (by decide +kernel) rfl, gd_of (i := 586) (by decide +kernel) rfl, mk_X9_change⟩
theorem mk_X10_change : Mk mX10_change 4 := ⟨gd_of (i := 91) (by decide +kernel) rfl, gd_of (i := 1296) (by decide +kernel) rfl, by decide +kernel⟩
theorem mv_L_54 : MLV RL 54 mX10_change 4 := ⟨gd_of (i := 1293) (by decide +kernel) rfl, gd_of (i := 1294) (by decide +kernel) rfl, gd_of (i := 1295) (by decide +kernel) rfl, mk_X10_change⟩
theorem mk_X9_fast : Mk mX9_fast 2 := ⟨gd_of (i := 80) (by decide +kernel) rfl, gd_of (i := 591) (by decide +kernel) rfl, by decide +kernel⟩
theorem mv_L_55 : MLV RL 55 mX9_fast 2 := ⟨gd_of (i := 588) (by decide +kernel) rfl, gd_of (i := 589) (by decide +kernel) rfl, gd_of (i := 590) (by decide +kernel) rfl, mk_X9_fast⟩
theorem mk_X10_fast : Mk mX10_fast 2 := ⟨gd_of (i := 91) (by decide +kernel) rfl, gd_of (i := 1300) (by decide +kernel) rfl, by decide +kernel⟩
theorem mv_L_58 : MLV RL 58 mX10_fast 2 := ⟨gd_of (i := 1297) (by decide +kernel) rfl, gd_of (i := 1298) (by decide +kernel) rfl, gd_of (i := 1299) (by decide +kernel) rfl, mk_X10_fast⟩
theorem mk_X9_loosen : Mk mX9_loosen 1 := ⟨gd_of (i := 80) (by decide +kernel) rfl, gd_of (i := 606) (by decide +kernel) rfl, by decide +kernel⟩
theorem mv_L_59 : MLV RL 59 mX9_loosen 1 := ⟨gd_of (i := 603) (by decide +kernel) rfl, gd_of (i := 604) (by decide +kernel) rfl, gd_of (i := 605) (by decide +kernel) rfl, mk_X9_loosen⟩
theorem mk_X10_loosen : Mk mX10_loosen 1 := ⟨gd_of (i := 91) (by decide +kernel) rfl, gd_of (i := 1304) (by decide +kernel) rfl, by decide +kernel⟩
theorem mv_L_62 : MLV RL 62 mX10_loosen 1 := ⟨gd_of (i := 1301) (by decide +kernel) rfl, gd_of (i := 1302) (by decide +kernel) rfl, gd_of (i := 1303) (by decide +kernel) rfl, mk_X10_loosen⟩
theorem mk_X9_keep : Mk mX9_keep 1 := ⟨gd_of (i := 80) (by decide +kernel) rfl, gd_of (i := 614) (by decide +kernel) rfl, by decide +kernel⟩
theorem mv_L_63 : MLV RL 63 mX9_keep 1 := ⟨gd_of (i := 611) (by decide +kernel) rfl, gd_of (i := 612) (by decide +kernel) rfl, gd_of (i := 613) (by decide +kernel) rfl, mk_X9_keep⟩
theorem mk_X10_keep : Mk mX10_keep 1 := ⟨gd_of (i := 91) (by decide +kernel) rfl, gd_of (i := 1308) (by decide +kernel) rfl, by decide +kernel⟩
theorem mv_L_67 : MLV RL 67 mX10_keep 1 := ⟨gd_of (i := 1305) (by decide +kernel) rfl, gd_of (i := 1306) (by decide +kernel) rfl, gd_of (i := 1307) (by decide +kernel) rfl, mk_X10_keep⟩
theorem mk_X9_lay : Mk mX9_lay 0 := ⟨gd_of (i := 80) (by decide +kernel) rfl, gd_of (i := 618) (by decide +kernel) rfl, by decide +kernel⟩
theorem mv_L_68 : MLV RL 68 mX9_lay 0 := ⟨gd_of (i := 615) (by decide +kernel) rfl, gd_of (i := 616) (by decide +kernel) rfl, gd_of (i := 617) (by decide +kernel) rfl, mk_X9_lay⟩
theorem mk_X10_lay : Mk mX10_lay 0 := ⟨gd_of (i := 91) (by decide +kernel) rfl, gd_of (i := 1312) (by decide +kernel) rfl, by decide +kernel⟩
theorem mv_L_71 : MLV RL 71 mX10_lay 0 := ⟨gd_of (i := 1309) (by decide +kernel) rfl, gd_of (i := 1310) (by decide +kernel) rfl, gd_of (i := 1311) (by decide +kernel) rfl, mk_X10_lay⟩
theorem mk_X9_joint : Mk mX9_joint 2 := ⟨gd_of (i := 80) (by decide +kernel) rfl, gd_of (i := 726) (by decide +kernel) rfl, by decide +kernel⟩
theorem mv_L_72 : MLV RL 72 mX9_joint 2 := ⟨gd_of (i := 723) (by decide +kernel) rfl, gd_of (i := 724) (by decide +kernel) rfl, gd_of (i := 725) (by decide +kernel) rfl, mk_X9_joint⟩
theorem mk_X10_joint : Mk mX10_joint 2 := ⟨gd_of (i := 91) (by decide +kernel) rfl, gd_of (i := 1376) (by decide +kernel) rfl, by decide +kernel⟩
theorem mv_L_75 : MLV RL 75 mX10_joint 2 := ⟨gd_of (i := 1373) (by decide +kernel) rfl, gd_of (i := 1374) (by decide +kernel) rfl, gd_of (i := 1375) (by decide +kernel) rfl, mk_X10_joint⟩
theorem mk_X9_price : Mk mX9_price 3 := ⟨gd_of (i := 80) (by decide +kernel) rfl, gd_of (i := 734) (by decide +kernel) rfl, by decide +kernel⟩
theorem mv_L_76 : MLV RL 76 mX9_price 3 := ⟨gd_of (i := 731) (by decide +kernel) rfl, gd_of (i := 732) (by decide +kernel) rfl, gd_of (i := 733) (by decide +kernel) rfl, mk_X9_price⟩
theorem mk_X10_price : Mk mX10_price 3 := ⟨gd_of (i := 91) (by decide +kernel) rfl, gd_of (i := 1384) (by decide +kernel) rfl, by decide +kernel⟩
theorem mv_L_79 : MLV RL 79 mX10_price 3 := ⟨gd_of (i := 1381) (by decide +kernel) rfl, gd_of (i := 1382) (by decide +kernel) rfl, gd_of (i := 1383) (by decide +kernel) rfl, mk_X10_price⟩
theorem mk_X9_rest : Mk mX9_rest 2 := ⟨gd_of (i := 80) (by decide +kernel) rfl, gd_of (i := 741) (by decide +kernel) rfl, by decide +kernel⟩
theorem mv_L_80 : MLV RL 80 mX9_rest 2 := ⟨gd_of (i := 738) (by decide +kernel) rfl, gd_of (i := 739) (by decide +kernel) rfl, gd_of (i := 740) (by decide +kernel) rfl, mk_X9_rest⟩
theorem mk_X10_rest : Mk mX10_rest 2 := ⟨gd_of (i := 91) (by decide +kernel) rfl, gd_of (i := 1389) (by decide +kernel) rfl, by decide +kernel⟩
theorem mv_L_83 : MLV RL 83 mX10_rest 2 := ⟨gd_of (i := 1386) (by decide +kernel) rfl, gd_of (i := 1387) (by decide +kernel) rfl, gd_of (i := 1388) (by decide +kernel) rfl, mk_X10_rest⟩
theorem mk_X9_second : Mk mX9_second 0 := ⟨gd_of (i := 80) (by decide +kernel) rfl, gd_of (i := 750) (by decide +kernel) rfl, by decide +kernel⟩
theorem mv_L_84 : MLV RL 84 mX9_second 0 := ⟨gd_of (i := 747) (by decide +kernel) rfl, gd_of (i := 748) (by decide +kernel) rfl, gd_of (i := 749) (by decide +kernel) rfl, mk_X9_second⟩
theorem mk_X10_second : Mk mX10_second 0 := ⟨gd_of (i := 91) (by decide +kernel) rfl, gd_of (i := 1393) (by decide +kernel) rfl, by decide +kernel⟩
theorem mv_L_87 : MLV RL 87 mX10_second 0 := ⟨gd_of (i := 1390) (by decide +kernel) rfl, gd_of (i := 1391) (by decide +kernel) rfl, gd_of (i := 1392) (by decide +kernel) rfl, mk_X10_second⟩
theorem mk_X9_sure : Mk mX9_sure 2 := ⟨gd_of (i := 80) (by decide +kernel) rfl, gd_of (i := 758) (by decide +kernel) rfl, by decide +kernel⟩
theorem mv_L_88 : MLV RL 88 mX9_sure 2 := ⟨gd_of (i := 755) (by decide +kernel) rfl, gd_of (i := 756) (by decide +kernel) rfl, gd_of (i := 757) (by decide +kernel) rfl, mk_X9_sure⟩
theorem mk_X10_sure : Mk mX10_sure 2 := ⟨gd_of (i := 91) (by decide +kernel) rfl, gd_of (i := 1397) (by decide +kernel) rfl, by decide +kernel⟩
theorem mv_L_91 : MLV RL 91 mX10_sure 2 := ⟨gd_of (i := 1394) (by decide +kernel) rfl, gd_of (i := 1395) (by decide +kernel) rfl, gd_of (i := 1396) (by decide +kernel) rfl, mk_X10_sure⟩
theorem mk_X9_rounds : Mk mX9_rounds 1 := ⟨gd_of (i := 80) (by decide +kernel) rfl, gd_of (i := 766) (by decide +kernel) rfl, by decide +kernel⟩
theorem mv_L_92 : MLV RL 92 mX9_rounds 1 := ⟨gd_of (i := 763) (by decide +kernel) rfl, gd_of (i := 764) (by decide +kernel) rfl, gd_of (i := 765) (by decide +kernel) rfl, mk_X9_rounds⟩
theorem mk_X10_rounds : Mk mX10_rounds 1 := ⟨gd_of (i := 91) (by decide +kernel) rfl, gd_of (i := 1402) (by decide +kernel) rfl, by decide +kernel⟩
theorem mv_L_95 : MLV RL 95 mX10_rounds 1 := ⟨gd_of (i := 1399) (by decide +kernel) rfl, gd_of (i := 1400) (by decide +kernel) rfl, gd_of (i := 1401) (by decide +kernel) rfl, mk_X10_rounds⟩
theorem mk_X9_share : Mk mX9_share 2 := ⟨gd_of (i := 80) (by decide +kernel) rfl, gd_of (i := 811) (by decide +kernel) rfl, by decide +kernel⟩
theorem mv_L_96 : MLV RL 96 mX9_share 2 := ⟨gd_of (i := 808) (by decide +kernel) rfl, gd_of (i := 809) (by decide +kernel) rfl, gd_of (i := 810) (by decide +kernel) rfl, mk_X9_share⟩
theorem mk_X10_share : Mk mX10_share 2 := ⟨gd_of (i := 91) (by decide +kernel) rfl, gd_of (i := 1420) (by decide +kernel) rfl, by decide +kernel⟩
theorem mv_L_99 : MLV RL 99 mX10_share 2 := ⟨gd_of (i := 1417) (by decide +kernel) rfl, gd_of (i := 1418) (by decide +kernel) rfl, gd_of (i := 1419) (by decide +kernel) rfl, mk_X10_share⟩
theorem mk_X9_partner : Mk mX9_partner 2 := ⟨gd_of (i := 80) (by decide +kernel) rfl, gd_of (i := 815) (by decide +kernel) rfl, by decide +kernel⟩
theorem mv_L_100 : MLV RL 100 mX9_partner 2 := ⟨gd_of (i := 812) (by decide +kernel) rfl, gd_of (i := 813) (by decide +kernel) rfl, gd_of (i := 814) (by decide +kernel) rfl, mk_X9_partner⟩
theorem mk_X10_partner : Mk mX10_partner 2 := ⟨gd_of (i := 91) (by decide +kernel) rfl, gd_of (i := 1424) (by decide +kernel) rfl, by decide +kernel⟩
theorem mv_L_103 : MLV RL 103 mX10_partner 2 := ⟨gd_of (i := 1421) (by decide +kernel) rfl, gd_of (i := 1422) (by decide +kernel) rfl, gd_of (i := 1423) (by decide +kernel) rfl, mk_X10_partner⟩
theorem mk_X9_term : Mk mX9_term 2 := ⟨gd_of (i := 80) (by decide +kernel) rfl, gd_of (i := 824) (by decide +kernel) rfl, by decide +kernel⟩
theorem mv_L_104 : MLV RL 104 mX9_term 2 := ⟨gd_of (i := 821) (by decide +kernel) rfl, gd_of (i := 822) (by decide +kernel) rfl, gd_of (i := 823) (by decide +kernel) rfl, mk_X9_term⟩
theorem mk_X10_term : Mk mX10_term 2 := ⟨gd_of (i := 91) (by decide +kernel) rfl, gd_of (i := 1428) (by decide +kernel) rfl, by decide +kernel⟩
theorem mv_L_107 : MLV RL 107 mX10_term 2 := ⟨gd_of (i := 1425) (by decide +kernel) rfl, gd_of (i := 1426) (by decide +kernel) rfl, gd_of (i := 1427) (by decide +kernel) rfl, mk_X10_term⟩
theorem mk_X9_broken : Mk mX9_broken 0 := ⟨gd_of (i := 80) (by decide +kernel) rfl, gd_of (i := 829) (by decide +kernel) rfl, by decide +kernel⟩
theorem mv_L_108 : MLV RL 108 mX9_broken 0 := ⟨gd_of (i := 826) (by decide +kernel) rfl, gd_of (i := 827) (by decide +kernel) rfl, gd_of (i := 828) (by decide +kernel) rfl, mk_X9_broken⟩
theorem mk_X10_broken : Mk mX10_broken 0 := ⟨gd_of (i := 91) (by decide +kernel) rfl, gd_of (i := 1432) (by decide +kernel) rfl, by decide +kernel⟩
theorem mv_L_111 : MLV RL 111 mX10_broken 0 := ⟨gd_of (i := 1429) (by decide +kernel) rfl, gd_of (i := 1430) (by decide +kernel) rfl, gd_of (i := 1431) (by decide +kernel) rfl, mk_X10_broken⟩
theorem mk_X9_link : Mk mX9_link 3 := ⟨gd_of (i := 80) (by decide +kernel) rfl, gd_of (i := 838) (by decide +kernel) rfl, by decide +kernel⟩
theorem mv_L_112 : MLV RL 112 mX9_link 3 := ⟨gd_of (i := 835) (by decide +kernel) rfl, gd_of (i := 836) (by decide +kernel) rfl, gd_of (i := 837) (by decide +kernel) rfl, mk_X9_link⟩
theorem mk_X10_link : Mk mX10_link 3 := ⟨gd_of (i := 91) (by decide +kernel) rfl, gd_of (i := 1436) (by decide +kernel) rfl, by decide +kernel⟩
theorem mv_L_115 : MLV RL 115 mX10_link 3 := ⟨gd_of (i := 1433) (by decide +kernel) rfl, gd_of (i := 1434) (by decide +kernel) rfl, gd_of (i := 1435) (by decide +kernel) rfl, mk_X10_link⟩
theorem mk_X9_linked : Mk mX9_linked 4 := ⟨gd_of (i := 80) (by decide +kernel) rfl, gd_of (i := 908) (by decide +kernel) rfl, by decide +kernel⟩
theorem mv_L_116 : MLV RL 116 mX9_linked 4 := ⟨gd_of (i := 905) (by decide +kernel) rfl, gd_of (i := 906) (by decide +kernel) rfl, gd_of (i := 907) (by decide +kernel) rfl, mk_X9_linked⟩
theorem mk_X10_linked : Mk mX10_linked 4 := ⟨gd_of (i := 91) (by decide +kernel) rfl, gd_of (i := 1457) (by decide +kernel) rfl, by decide +kernel⟩
theorem mv_L_119 : MLV RL 119 mX10_linked 4 := ⟨gd_of (i := 1454) (by decide +kernel) rfl, gd_of (i := 1455) (by decide +kernel) rfl, gd_of (i := 1456) (by decide +kernel) rfl, mk_X10_linked⟩
theorem mk_X9_phrases : Mk mX9_phrases 1 := ⟨gd_of (i := 80) (by decide +kernel) rfl, gd_of (i := 914) (by decide +kernel) rfl, by decide +kernel⟩
theorem mv_L_120 : MLV RL 120 mX9_phrases 1 := ⟨gd_of (i := 911) (by decide +kernel) rfl, gd_of (i := 912) (by decide +kernel) rfl, gd_of (i := 913) (by decide +kernel) rfl, mk_X9_phrases⟩
theorem mk_X10_phrases : Mk mX10_phrases 1 := ⟨gd_of (i := 91) (by decide +kernel) rfl, gd_of (i := 1477) (by decide +kernel) rfl, by decide +kernel⟩
theorem mv_L_123 : MLV RL 123 mX10_phrases 1 := ⟨gd_of (i := 1474) (by decide +kernel) rfl, gd_of (i := 1475) (by decide +kernel) rfl, gd_of (i := 1476) (by decide +kernel) rfl, mk_X10_phrases⟩
theorem mk_X9_putSentence : Mk mX9_putSentence 3 := ⟨gd_of (i := 80) (by decide +kernel) rfl, gd_of (i := 932) (by decide +kernel) rfl, by decide +kernel⟩
theorem mv_L_124 : MLV RL 124 mX9_putSentence 3 := ⟨gd_of (i := 929) (by decide +kernel) rfl, gd_of (i := 930) (by decide +kernel) rfl, gd_of (i := 931) (by decide +kernel) rfl, mk_X9_putSentence⟩
theorem mk_X10_putSentence : Mk mX10_putSentence 3 := ⟨gd_of (i := 91) (by decide +kernel) rfl, gd_of (i := 1485) (by decide +kernel) rfl, by decide +kernel⟩
theorem mv_L_127 : MLV RL 127 mX10_putSentence 3 := ⟨gd_of (i := 1482) (by decide +kernel) rfl, gd_of (i := 1483) (by decide +kernel) rfl, gd_of (i := 1484) (by decide +kernel) rfl, mk_X10_putSentence⟩
theorem mk_X9_putJoint : Mk mX9_putJoint 2 := ⟨gd_of (i := 80) (by decide +kernel) rfl, gd_of (i := 944) (by decide +kernel) rfl, by decide +kernel⟩
theorem mv_L_128 : MLV RL 128 mX9_putJoint 2 := ⟨gd_of (i := 941) (by decide +kernel) rfl, gd_of (i := 942) (by decide +kernel) rfl, gd_of (i := 943) (by decide +kernel) rfl, mk_X9_putJoint⟩
theorem mk_X10_putJoint : Mk mX10_putJoint 2 := ⟨gd_of (i := 91) (by decide +kernel) rfl, gd_of (i := 1493) (by decide +kernel) rfl, by decide +kernel⟩
theorem mv_L_131 : MLV RL 131 mX10_putJoint 2 := ⟨gd_of (i := 1490) (by decide +kernel) rfl, gd_of (i := 1491) (by decide +kernel) rfl, gd_of (i := 1492) (by decide +kernel) rfl, mk_X10_putJoint⟩
theorem mk_X9_putRow : Mk mX9_putRow 2 := ⟨gd_of (i := 80) (by decide +kernel) rfl, gd_of (i := 952) (by decide +kernel) rfl, by decide +kernel⟩
theorem mv_L_132 : MLV RL 132 mX9_putRow 2 := ⟨gd_of (i := 949) (by decide +kernel) rfl, gd_of (i := 950) (by decide +kernel) rfl, gd_of (i := 951) (by decide +kernel) rfl, mk_X9_putRow⟩
theorem mk_X10_putRow : Mk mX10_putRow 2 := ⟨gd_of (i := 91) (by decide +kernel) rfl, gd_of (i := 1497) (by decide +kernel) rfl, by decide +kernel⟩
theorem mv_L_135 : MLV RL 135 mX10_putRow 2 := ⟨gd_of (i := 1494) (by decide +kernel) rfl, gd_of (i := 1495) (by decide +kernel) rfl, gd_of (i := 1496) (by decide +kernel) rfl, mk_X10_putRow⟩
theorem mk_X9_clear : Mk mX9_clear 1 := ⟨gd_of (i := 80) (by decide +kernel) rfl, gd_of (i := 969) (by decide +kernel) rfl, by decide +kernel⟩
theorem mv_L_136 : MLV RL 136 mX9_clear 1 := ⟨gd_of (i := 966) (by decide +kernel) rfl, gd_of (i := 967) (by decide +kernel) rfl, gd_of (i := 968) (by decide +kernel) rfl, mk_X9_clear⟩
theorem mk_X10_clear : Mk mX10_clear 1 := ⟨gd_of (i := 91) (by decide +kernel) rfl, gd_of (i := 1501) (by decide +kernel) rfl, by decide +kernel⟩
theorem mv_L_139 : MLV RL 139 mX10_clear 1 := ⟨gd_of (i := 1498) (by decide +kernel) rfl, gd_of (i := 1499) (by decide +kernel) rfl, gd_of (i := 1500) (by decide +kernel) rfl, mk_X10_clear⟩
theorem mk_X9_sort : Mk mX9_sort 1 := ⟨gd_of (i := 80) (by decide +kernel) rfl, gd_of (i := 973) (by decide +kernel) rfl, by decide +kernel⟩
theorem mv_L_140 : MLV RL 140 mX9_sort 1 := ⟨gd_of (i := 970) (by decide +kernel) rfl, gd_of (i := 971) (by decide +kernel) rfl, gd_of (i := 972) (by decide +kernel) rfl, mk_X9_sort⟩
theorem mk_X10_sort : Mk mX10_sort 1 := ⟨gd_of (i := 91) (by decide +kernel) rfl, gd_of (i := 1505) (by decide +kernel) rfl, by decide +kernel⟩
theorem mv_L_143 : MLV RL 143 mX10_sort 1 := ⟨gd_of (i := 1502) (by decide +kernel) rfl, gd_of (i := 1503) (by decide +kernel) rfl, gd_of (i := 1504) (by decide +kernel) rfl, mk_X10_sort⟩
theorem mk_X9_write : Mk mX9_write 3 := ⟨gd_of (i := 80) (by decide +kernel) rfl, gd_of (i := 977) (by decide +kernel) rfl, by decide +kernel⟩
theorem mv_L_144 : MLV RL 144 mX9_write 3 := ⟨gd_of (i := 974) (by decide +kernel) rfl, gd_of (i := 975) (by decide +kernel) rfl, gd_of (i := 976) (by decide +kernel) rfl, mk_X9_write⟩
theorem mk_X10_write : Mk mX10_write 3 := ⟨gd_of (i := 91) (by decide +kernel) rfl, gd_of (i := 1509) (by decide +kernel) rfl, by decide +kernel⟩
theorem mv_L_147 : MLV RL 147 mX10_write 3 := ⟨gd_of (i := 1506) (by decide +kernel) rfl, gd_of (i := 1507) (by decide +kernel) rfl, gd_of (i := 1508) (by decide +kernel) rfl, mk_X10_write⟩
theorem mk_X9_read : Mk mX9_read 2 := ⟨gd_of (i := 80) (by decide +kernel) rfl, gd_of (i := 989) (by decide +kernel) rfl, by decide +kernel⟩
theorem mv_L_148 : MLV RL 148 mX9_read 2 := ⟨gd_of (i := 986) (by decide +kernel) rfl, gd_of (i := 987) (by decide +kernel) rfl, gd_of (i := 988) (by decide +kernel) rfl, mk_X9_read⟩
theorem mk_X10_read : Mk mX10_read 2 := ⟨gd_of (i := 91) (by decide +kernel) rfl, gd_of (i := 1517) (by decide +kernel) rfl, by decide +kernel⟩
theorem mv_L_151 : MLV RL 151 mX10_read 2 := ⟨gd_of (i := 1514) (by decide +kernel) rfl, gd_of (i := 1515) (by decide +kernel) rfl, gd_of (i := 1516) (by decide +kernel) rfl, mk_X10_read⟩
theorem mk_X9_spell : Mk mX9_spell 3 := ⟨gd_of (i := 80) (by decide +kernel) rfl, gd_of (i := 993) (by decide +kernel) rfl, by decide +kernel⟩
theorem mv_L_152 : MLV RL 152 mX9_spell 3 := ⟨gd_of (i := 990) (by decide +kernel) rfl, gd_of (i := 991) (by decide +kernel) rfl, gd_of (i := 992) (by decide +kernel) rfl, mk_X9_spell⟩
theorem mk_X10_spell : Mk mX10_spell 3 := ⟨gd_of (i := 91) (by decide +kernel) rfl, gd_of (i := 1521) (by decide +kernel) rfl, by decide +kernel⟩
theorem mv_L_155 : MLV RL 155 mX10_spell 3 := ⟨gd_of (i := 1518) (by decide +kernel) rfl, gd_of (i := 1519) (by decide +kernel) rfl, gd_of (i := 1520) (by decide +kernel) rfl, mk_X10_spell⟩
theorem mk_X9_rate : Mk mX9_rate 1 := ⟨gd_of (i := 80) (by decide +kernel) rfl, gd_of (i := 1002) (by decide +kernel) rfl, by decide +kernel⟩
theorem mv_L_156 : MLV RL 156 mX9_rate 1 := ⟨gd_of (i := 999) (by decide +kernel) rfl, gd_of (i := 1000) (by decide +kernel) rfl, gd_of (i := 1001) (by decide +kernel) rfl, mk_X9_rate⟩
theorem mk_X10_rate : Mk mX10_rate 1 := ⟨gd_of (i := 91) (by decide +kernel) rfl, gd_of (i := 1525) (by decide +kernel) rfl, by decide +kernel⟩
theorem mv_L_159 : MLV RL 159 mX10_rate 1 := ⟨gd_of (i := 1522) (by decide +kernel) rfl, gd_of (i := 1523) (by decide +kernel) rfl, gd_of (i := 1524) (by decide +kernel) rfl, mk_X10_rate⟩
theorem mk_X9_code : Mk mX9_code 0 := ⟨gd_of (i := 80) (by decide +kernel) rfl, gd_of (i := 1006) (by decide +kernel) rfl, by decide +kernel⟩
theorem mv_L_160 : MLV RL 160 mX9_code 0 := ⟨gd_of (i := 1003) (by decide +kernel) rfl, gd_of (i := 1004) (by decide +kernel) rfl, gd_of (i := 1005) (by decide +kernel) rfl, mk_X9_code⟩
theorem mk_X10_code : Mk mX10_code 0 := ⟨gd_of (i := 91) (by decide +kernel) rfl, gd_of (i := 1529) (by decide +kernel) rfl, by decide +kernel⟩
theorem mv_L_163 : MLV RL 163 mX10_code 0 := ⟨gd_of (i := 1526) (by decide +kernel) rfl, gd_of (i := 1527) (by decide +kernel) rfl, gd_of (i := 1528) (by decide +kernel) rfl, mk_X10_code⟩
