theorem u_377 : Cond.code yX8_feed prog_1_method_2_code 6 (some .int) ∈ U0 := um 377 (by decide +kernel) (by decide +kernel)
theorem u_374 : Cond.methodLink "KeyDriveLaw" 13 yX8_feed ∈ U0 := um 374 (by decide +kernel) (by decide +kernel)
theorem u_375 : Cond.instanceMethod yX8_feed ∈ U0 := um 375 (by decide +kernel) (by decide +kernel)
theorem u_376 : Cond.selects "KeyDrive" yX8_feed yX8_feed ∈ U0 := um 376 (by decide +kernel) (by decide +kernel)
theorem u_1159 : Cond.code yX9_feed prog_11_method_8_code 8 (some .int) ∈ U0 := um 1159 (by decide +kernel) (by decide +kernel)
theorem u_1156 : Cond.methodLink "KeyDriveLaw" 17 yX9_feed ∈ U0 := um 1156 (by decide +kernel) (by decide +kernel)
theorem u_1157 : Cond.instanceMethod yX9_feed ∈ U0 := um 1157 (by decide +kernel) (by decide +kernel)
theorem u_1158 : Cond.selects "KeyDriveModel" yX9_feed yX9_feed ∈ U0 := um 1158 (by decide +kernel) (by decide +kernel)
theorem u_389 : Cond.code yX8_put prog_1_method_3_code 5 (some .int) ∈ U0 := um 389 (by decide +kernel) (by decide +kernel)
theorem u_386 : Cond.methodLink "KeyDriveLaw" 18 yX8_put ∈ U0 := um 386 (by decide +kernel) (by decide +kernel)
theorem u_387 : Cond.instanceMethod yX8_put ∈ U0 := um 387 (by decide +kernel) (by decide +kernel)
theorem u_388 : Cond.selects "KeyDrive" yX8_put yX8_put ∈ U0 := um 388 (by decide +kernel) (by decide +kernel)
theorem u_1170 : Cond.code yX9_put prog_11_method_41_code 6 (some .int) ∈ U0 := um 1170 (by decide +kernel) (by decide +kernel)
theorem u_1167 : Cond.methodLink "KeyDriveLaw" 22 yX9_put ∈ U0 := um 1167 (by decide +kernel) (by decide +kernel)
theorem u_1168 : Cond.instanceMethod yX9_put ∈ U0 := um 1168 (by decide +kernel) (by decide +kernel)
theorem u_1169 : Cond.selects "KeyDriveModel" yX9_put yX9_put ∈ U0 := um 1169 (by decide +kernel) (by decide +kernel)
theorem u_607 : Cond.code yX8_get prog_1_method_4_code 7 (some .int) ∈ U0 := um 607 (by decide +kernel) (by decide +kernel)
theorem u_604 : Cond.methodLink "KeyDriveLaw" 23 yX8_get ∈ U0 := um 604 (by decide +kernel) (by decide +kernel)
theorem u_605 : Cond.instanceMethod yX8_get ∈ U0 := um 605 (by decide +kernel) (by decide +kernel)
theorem u_606 : Cond.selects "KeyDrive" yX8_get yX8_get ∈ U0 := um 606 (by decide +kernel) (by decide +kernel)
theorem u_1297 : Cond.code yX9_get prog_11_method_44_code 7 (some .int) ∈ U0 := um 1297 (by decide +kernel) (by decide +kernel)
theorem u_1294 : Cond.methodLink "KeyDriveLaw" 26 yX9_get ∈ U0 := um 1294 (by decide +kernel) (by decide +kernel)
theorem u_1295 : Cond.instanceMethod yX9_get ∈ U0 := um 1295 (by decide +kernel) (by decide +kernel)
theorem u_1296 : Cond.selects "KeyDriveModel" yX9_get yX9_get ∈ U0 := um 1296 (by decide +kernel) (by decide +kernel)
theorem u_644 : Cond.code yX8_answer prog_1_method_5_code 2 (some .int) ∈ U0 := um 644 (by decide +kernel) (by decide +kernel)
theorem u_641 : Cond.methodLink "KeyDriveLaw" 27 yX8_answer ∈ U0 := um 641 (by decide +kernel) (by decide +kernel)
theorem u_642 : Cond.instanceMethod yX8_answer ∈ U0 := um 642 (by decide +kernel) (by decide +kernel)
theorem u_643 : Cond.selects "KeyDrive" yX8_answer yX8_answer ∈ U0 := um 643 (by decide +kernel) (by decide +kernel)
theorem u_1163 : Cond.code yX9_answer prog_11_method_12_code 2 (some .int) ∈ U0 := um 1163 (by decide +kernel) (by decide +kernel)
theorem u_1160 : Cond.methodLink "KeyDriveLaw" 31 yX9_answer ∈ U0 := um 1160 (by decide +kernel) (by decide +kernel)
theorem u_1161 : Cond.instanceMethod yX9_answer ∈ U0 := um 1161 (by decide +kernel) (by decide +kernel)
theorem u_1162 : Cond.selects "KeyDriveModel" yX9_answer yX9_answer ∈ U0 := um 1162 (by decide +kernel) (by decide +kernel)
theorem u_649 : Cond.code yX8_remove prog_1_method_6_code 7 (some .int) ∈ U0 := um 649 (by decide +kernel) (by decide +kernel)
theorem u_646 : Cond.methodLink "KeyDriveLaw" 32 yX8_remove ∈ U0 := um 646 (by decide +kernel) (by decide +kernel)
theorem u_647 : Cond.instanceMethod yX8_remove ∈ U0 := um 647 (by decide +kernel) (by decide +kernel)
theorem u_648 : Cond.selects "KeyDrive" yX8_remove yX8_remove ∈ U0 := um 648 (by decide +kernel) (by decide +kernel)
theorem u_1326 : Cond.code yX9_remove prog_11_method_46_code 3 (some .int) ∈ U0 := um 1326 (by decide +kernel) (by decide +kernel)
theorem u_1323 : Cond.methodLink "KeyDriveLaw" 35 yX9_remove ∈ U0 := um 1323 (by decide +kernel) (by decide +kernel)
theorem u_1324 : Cond.instanceMethod yX9_remove ∈ U0 := um 1324 (by decide +kernel) (by decide +kernel)
theorem u_1325 : Cond.selects "KeyDriveModel" yX9_remove yX9_remove ∈ U0 := um 1325 (by decide +kernel) (by decide +kernel)
theorem u_657 : Cond.code yX8_versions prog_1_method_7_code 4 (some .int) ∈ U0 := um 657 (by decide +kernel) (by decide +kernel)
theorem u_654 : Cond.methodLink "KeyDriveLaw" 36 yX8_versions ∈ U0 := um 654 (by decide +kernel) (by decide +kernel)
theorem u_655 : Cond.instanceMethod yX8_versions ∈ U0 := um 655 (by decide +kernel) (by decide +kernel)
theorem u_656 : Cond.selects "KeyDrive" yX8_versions yX8_versions ∈ U0 := um 656 (by decide +kernel) (by decide +kernel)
theorem u_1403 : Cond.code yX9_versions prog_11_method_63_code 2 (some .int) ∈ U0 := um 1403 (by decide +kernel) (by decide +kernel)
theorem u_1400 : Cond.methodLink "KeyDriveLaw" 39 yX9_versions ∈ U0 := um 1400 (by decide +kernel) (by decide +kernel)
theorem u_1401 : Cond.instanceMethod yX9_versions ∈ U0 := um 1401 (by decide +kernel) (by decide +kernel)
theorem u_1402 : Cond.selects "KeyDriveModel" yX9_versions yX9_versions ∈ U0 := um 1402 (by decide +kernel) (by decide +kernel)
theorem u_662 : Cond.code yX8_version prog_1_method_8_code 7 (some .int) ∈ U0 := um 662 (by decide +kernel) (by decide +kernel)
theorem u_659 : Cond.methodLink "KeyDriveLaw" 40 yX8_version ∈ U0 := um 659 (by decide +kernel) (by decide +kernel)
theorem u_660 : Cond.instanceMethod yX8_version ∈ U0 := um 660 (by decide +kernel) (by decide +kernel)
theorem u_661 : Cond.selects "KeyDrive" yX8_version yX8_version ∈ U0 := um 661 (by decide +kernel) (by decide +kernel)
theorem u_1407 : Cond.code yX9_version prog_11_method_64_code 5 (some .int) ∈ U0 := um 1407 (by decide +kernel) (by decide +kernel)
theorem u_1404 : Cond.methodLink "KeyDriveLaw" 44 yX9_version ∈ U0 := um 1404 (by decide +kernel) (by decide +kernel)
theorem u_1405 : Cond.instanceMethod yX9_version ∈ U0 := um 1405 (by decide +kernel) (by decide +kernel)
theorem u_1406 : Cond.selects "KeyDriveModel" yX9_version yX9_version ∈ U0 := um 1406 (by decide +kernel) (by decide +kernel)
theorem u_672 : Cond.code yX8_hash prog_1_method_9_code 2 (some .int) ∈ U0 := um 672 (by decide +kernel) (by decide +kernel)
theorem u_669 : Cond.methodLink "KeyDriveLaw" 45 yX8_hash ∈ U0 := um 669 (by decide +kernel) (by decide +kernel)
theorem u_670 : Cond.instanceMethod yX8_hash ∈ U0 := um 670 (by decide +kernel) (by decide +kernel)
theorem u_671 : Cond.selects "KeyDrive" yX8_hash yX8_hash ∈ U0 := um 671 (by decide +kernel) (by decide +kernel)
theorem u_1411 : Cond.code yX9_hash prog_11_method_65_code 2 (some .int) ∈ U0 := um 1411 (by decide +kernel) (by decide +kernel)
theorem u_1408 : Cond.methodLink "KeyDriveLaw" 48 yX9_hash ∈ U0 := um 1408 (by decide +kernel) (by decide +kernel)
theorem u_1409 : Cond.instanceMethod yX9_hash ∈ U0 := um 1409 (by decide +kernel) (by decide +kernel)
theorem u_1410 : Cond.selects "KeyDriveModel" yX9_hash yX9_hash ∈ U0 := um 1410 (by decide +kernel) (by decide +kernel)
theorem u_676 : Cond.code yX8_batch prog_1_method_10_code 3 (some .int) ∈ U0 := um 676 (by decide +kernel) (by decide +kernel)
theorem u_673 : Cond.methodLink "KeyDriveLaw" 49 yX8_batch ∈ U0 := um 673 (by decide +kernel) (by decide +kernel)
theorem u_674 : Cond.instanceMethod yX8_batch ∈ U0 := um 674 (by decide +kernel) (by decide +kernel)
theorem u_675 : Cond.selects "KeyDrive" yX8_batch yX8_batch ∈ U0 := um 675 (by decide +kernel) (by decide +kernel)
theorem u_1342 : Cond.code yX9_batch prog_11_method_56_code 7 (some .int) ∈ U0 := um 1342 (by decide +kernel) (by decide +kernel)
theorem u_1339 : Cond.methodLink "KeyDriveLaw" 52 yX9_batch ∈ U0 := um 1339 (by decide +kernel) (by decide +kernel)
theorem u_1340 : Cond.instanceMethod yX9_batch ∈ U0 := um 1340 (by decide +kernel) (by decide +kernel)
theorem u_1341 : Cond.selects "KeyDriveModel" yX9_batch yX9_batch ∈ U0 := um 1341 (by decide +kernel) (by decide +kernel)
theorem u_728 : Cond.code yX8_fault prog_1_method_11_code 2 (some .int) ∈ U0 := um 728 (by decide +kernel) (by decide +kernel)
theorem u_725 : Cond.methodLink "KeyDriveLaw" 53 yX8_fault ∈ U0 := um 725 (by decide +kernel) (by decide +kernel)
theorem u_726 : Cond.instanceMethod yX8_fault ∈ U0 := um 726 (by decide +kernel) (by decide +kernel)
theorem u_727 : Cond.selects "KeyDrive" yX8_fault yX8_fault ∈ U0 := um 727 (by decide +kernel) (by decide +kernel)
theorem u_1375 : Cond.code yX9_fault prog_11_method_57_code 2 (some .int) ∈ U0 := um 1375 (by decide +kernel) (by decide +kernel)
theorem u_1372 : Cond.methodLink "KeyDriveLaw" 56 yX9_fault ∈ U0 := um 1372 (by decide +kernel) (by decide +kernel)
theorem u_1373 : Cond.instanceMethod yX9_fault ∈ U0 := um 1373 (by decide +kernel) (by decide +kernel)
theorem u_1374 : Cond.selects "KeyDriveModel" yX9_fault yX9_fault ∈ U0 := um 1374 (by decide +kernel) (by decide +kernel)
theorem u_732 : Cond.code yX8_seek prog_1_method_12_code 6 (some .int) ∈ U0 := um 732 (by decide +kernel) (by decide +kernel)
theorem u_729 : Cond.methodLink "KeyDriveLaw" 57 yX8_seek ∈ U0 := um 729 (by decide +kernel) (by decide +kernel)
theorem u_730 : Cond.instanceMethod yX8_seek ∈ U0 := um 730 (by decide +kernel) (by decide +kernel)
theorem u_731 : Cond.selects "KeyDrive" yX8_seek yX8_seek ∈ U0 := um 731 (by decide +kernel) (by decide +kernel)
theorem u_1379 : Cond.code yX9_seek prog_11_method_58_code 4 (some .int) ∈ U0 := um 1379 (by decide +kernel) (by decide +kernel)
theorem u_1376 : Cond.methodLink "KeyDriveLaw" 60 yX9_seek ∈ U0 := um 1376 (by decide +kernel) (by decide +kernel)
theorem u_1377 : Cond.instanceMethod yX9_seek ∈ U0 := um 1377 (by decide +kernel) (by decide +kernel)
theorem u_1378 : Cond.selects "KeyDriveModel" yX9_seek yX9_seek ∈ U0 := um 1378 (by decide +kernel) (by decide +kernel)
theorem u_744 : Cond.code yX8_between prog_1_method_13_code 10 (some .int) ∈ U0 := um 744 (by decide +kernel) (by decide +kernel)
theorem u_741 : Cond.methodLink "KeyDriveLaw" 61 yX8_between ∈ U0 := um 741 (by decide +kernel) (by decide +kernel)
theorem u_742 : Cond.instanceMethod yX8_between ∈ U0 := um 742 (by decide +kernel) (by decide +kernel)
theorem u_743 : Cond.selects "KeyDrive" yX8_between yX8_between ∈ U0 := um 743 (by decide +kernel) (by decide +kernel)
theorem u_1387 : Cond.code yX9_between prog_11_method_59_code 7 (some .int) ∈ U0 := um 1387 (by decide +kernel) (by decide +kernel)
theorem u_1384 : Cond.methodLink "KeyDriveLaw" 64 yX9_between ∈ U0 := um 1384 (by decide +kernel) (by decide +kernel)
theorem u_1385 : Cond.instanceMethod yX9_between ∈ U0 := um 1385 (by decide +kernel) (by decide +kernel)
theorem u_1386 : Cond.selects "KeyDriveModel" yX9_between yX9_between ∈ U0 := um 1386 (by decide +kernel) (by decide +kernel)
theorem u_748 : Cond.code yX8_diff prog_1_method_14_code 6 (some .int) ∈ U0 := um 748 (by decide +kernel) (by decide +kernel)
theorem u_745 : Cond.methodLink "KeyDriveLaw" 65 yX8_diff ∈ U0 := um 745 (by decide +kernel) (by decide +kernel)
theorem u_746 : Cond.instanceMethod yX8_diff ∈ U0 := um 746 (by decide +kernel) (by decide +kernel)
theorem u_747 : Cond.selects "KeyDrive" yX8_diff yX8_diff ∈ U0 := um 747 (by decide +kernel) (by decide +kernel)
theorem u_1391 : Cond.code yX9_diff prog_11_method_61_code 9 (some .int) ∈ U0 := um 1391 (by decide +kernel) (by decide +kernel)
theorem u_1388 : Cond.methodLink "KeyDriveLaw" 68 yX9_diff ∈ U0 := um 1388 (by decide +kernel) (by decide +kernel)
theorem u_1389 : Cond.instanceMethod yX9_diff ∈ U0 := um 1389 (by decide +kernel) (by decide +kernel)
theorem u_1390 : Cond.selects "KeyDriveModel" yX9_diff yX9_diff ∈ U0 := um 1390 (by decide +kernel) (by decide +kernel)
theorem u_755 : Cond.code yX8_roll prog_1_method_15_code 4 (some .int) ∈ U0 := um 755 (by decide +kernel) (by decide +kernel)
theorem u_752 : Cond.methodLink "KeyDriveLaw" 69 yX8_roll ∈ U0 := um 752 (by decide +kernel) (by decide +kernel)
theorem u_753 : Cond.instanceMethod yX8_roll ∈ U0 := um 753 (by decide +kernel) (by decide +kernel)
theorem u_754 : Cond.selects "KeyDrive" yX8_roll yX8_roll ∈ U0 := um 754 (by decide +kernel) (by decide +kernel)
theorem u_1399 : Cond.code yX9_roll prog_11_method_62_code 8 (some .int) ∈ U0 := um 1399 (by decide +kernel) (by decide +kernel)
theorem u_1396 : Cond.methodLink "KeyDriveLaw" 72 yX9_roll ∈ U0 := um 1396 (by decide +kernel) (by decide +kernel)
theorem u_1397 : Cond.instanceMethod yX9_roll ∈ U0 := um 1397 (by decide +kernel) (by decide +kernel)
theorem u_1398 : Cond.selects "KeyDriveModel" yX9_roll yX9_roll ∈ U0 := um 1398 (by decide +kernel) (by decide +kernel)
theorem u_769 : Cond.code yX8_keys prog_1_method_16_code 3 (some .int) ∈ U0 := um 769 (by decide +kernel) (by decide +kernel)
theorem u_766 : Cond.methodLink "KeyDriveLaw" 73 yX8_keys ∈ U0 := um 766 (by decide +kernel) (by decide +kernel)
theorem u_767 : Cond.instanceMethod yX8_keys ∈ U0 := um 767 (by decide +kernel) (by decide +kernel)
theorem u_768 : Cond.selects "KeyDrive" yX8_keys yX8_keys ∈ U0 := um 768 (by decide +kernel) (by decide +kernel)
theorem u_1415 : Cond.code yX9_keys prog_11_method_66_code 5 (some .int) ∈ U0 := um 1415 (by decide +kernel) (by decide +kernel)
theorem u_1412 : Cond.methodLink "KeyDriveLaw" 76 yX9_keys ∈ U0 := um 1412 (by decide +kernel) (by decide +kernel)
theorem u_1413 : Cond.instanceMethod yX9_keys ∈ U0 := um 1413 (by decide +kernel) (by decide +kernel)
theorem u_1414 : Cond.selects "KeyDriveModel" yX9_keys yX9_keys ∈ U0 := um 1414 (by decide +kernel) (by decide +kernel)
theorem u_789 : Cond.code yX8_groups prog_1_method_17_code 9 (some .int) ∈ U0 := um 789 (by decide +kernel) (by decide +kernel)
theorem u_786 : Cond.methodLink "KeyDriveLaw" 77 yX8_groups ∈ U0 := um 786 (by decide +kernel) (by decide +kernel)
theorem u_787 : Cond.instanceMethod yX8_groups ∈ U0 := um 787 (by decide +kernel) (by decide +kernel)
theorem u_788 : Cond.selects "KeyDrive" yX8_groups yX8_groups ∈ U0 := um 788 (by decide +kernel) (by decide +kernel)
theorem u_1419 : Cond.code yX9_groups prog_11_method_67_code 10 (some .int) ∈ U0 := um 1419 (by decide +kernel) (by decide +kernel)
theorem u_1416 : Cond.methodLink "KeyDriveLaw" 80 yX9_groups ∈ U0 := um 1416 (by decide +kernel) (by decide +kernel)
theorem u_1417 : Cond.instanceMethod yX9_groups ∈ U0 := um 1417 (by decide +kernel) (by decide +kernel)
theorem u_1418 : Cond.selects "KeyDriveModel" yX9_groups yX9_groups ∈ U0 := um 1418 (by decide +kernel) (by decide +kernel)
theorem u_798 : Cond.code yX8_alike prog_1_method_18_code 7 (some .int) ∈ U0 := um 798 (by decide +kernel) (by decide +kernel)
theorem u_795 : Cond.methodLink "KeyDriveLaw" 81 yX8_alike ∈ U0 := um 795 (by decide +kernel) (by decide +kernel)
theorem u_796 : Cond.instanceMethod yX8_alike ∈ U0 := um 796 (by decide +kernel) (by decide +kernel)
theorem u_797 : Cond.selects "KeyDrive" yX8_alike yX8_alike ∈ U0 := um 797 (by decide +kernel) (by decide +kernel)
theorem u_1423 : Cond.code yX9_alike prog_11_method_69_code 7 (some .int) ∈ U0 := um 1423 (by decide +kernel) (by decide +kernel)
theorem u_1420 : Cond.methodLink "KeyDriveLaw" 84 yX9_alike ∈ U0 := um 1420 (by decide +kernel) (by decide +kernel)
theorem u_1421 : Cond.instanceMethod yX9_alike ∈ U0 := um 1421 (by decide +kernel) (by decide +kernel)
theorem u_1422 : Cond.selects "KeyDriveModel" yX9_alike yX9_alike ∈ U0 := um 1422 (by decide +kernel) (by decide +kernel)
theorem u_802 : Cond.code yX8_sum prog_1_method_19_code 7 (some .long) ∈ U0 := um 802 (by decide +kernel) (by decide +kernel)
theorem u_799 : Cond.methodLink "KeyDriveLaw" 85 yX8_sum ∈ U0 := um 799 (by decide +kernel) (by decide +kernel)
theorem u_800 : Cond.instanceMethod yX8_sum ∈ U0 := um 800 (by decide +kernel) (by decide +kernel)
theorem u_801 : Cond.selects "KeyDrive" yX8_sum yX8_sum ∈ U0 := um 801 (by decide +kernel) (by decide +kernel)
theorem u_1431 : Cond.code yX9_sum prog_11_method_70_code 7 (some .long) ∈ U0 := um 1431 (by decide +kernel) (by decide +kernel)
theorem u_1428 : Cond.methodLink "KeyDriveLaw" 89 yX9_sum ∈ U0 := um 1428 (by decide +kernel) (by decide +kernel)
theorem u_1429 : Cond.instanceMethod yX9_sum ∈ U0 := um 1429 (by decide +kernel) (by decide +kernel)
theorem u_1430 : Cond.selects "KeyDriveModel" yX9_sum yX9_sum ∈ U0 := um 1430 (by decide +kernel) (by decide +kernel)
theorem u_813 : Cond.code yX8_snap prog_1_method_20_code 2 (some .int) ∈ U0 := um 813 (by decide +kernel) (by decide +kernel)
theorem u_810 : Cond.methodLink "KeyDriveLaw" 90 yX8_snap ∈ U0 := um 810 (by decide +kernel) (by decide +kernel)
theorem u_811 : Cond.instanceMethod yX8_snap ∈ U0 := um 811 (by decide +kernel) (by decide +kernel)
theorem u_812 : Cond.selects "KeyDrive" yX8_snap yX8_snap ∈ U0 := um 812 (by decide +kernel) (by decide +kernel)
theorem u_1439 : Cond.code yX9_snap prog_11_method_71_code 2 (some .int) ∈ U0 := um 1439 (by decide +kernel) (by decide +kernel)
theorem u_1436 : Cond.methodLink "KeyDriveLaw" 93 yX9_snap ∈ U0 := um 1436 (by decide +kernel) (by decide +kernel)
theorem u_1437 : Cond.instanceMethod yX9_snap ∈ U0 := um 1437 (by decide +kernel) (by decide +kernel)
theorem u_1438 : Cond.selects "KeyDriveModel" yX9_snap yX9_snap ∈ U0 := um 1438 (by decide +kernel) (by decide +kernel)
theorem u_821 : Cond.code yX8_unsnap prog_1_method_21_code 2 (some .int) ∈ U0 := um 821 (by decide +kernel) (by decide +kernel)
theorem u_818 : Cond.methodLink "KeyDriveLaw" 94 yX8_unsnap ∈ U0 := um 818 (by decide +kernel) (by decide +kernel)
theorem u_819 : Cond.instanceMethod yX8_unsnap ∈ U0 := um 819 (by decide +kernel) (by decide +kernel)
theorem u_820 : Cond.selects "KeyDrive" yX8_unsnap yX8_unsnap ∈ U0 := um 820 (by decide +kernel) (by decide +kernel)
theorem u_1443 : Cond.code yX9_unsnap prog_11_method_72_code 2 (some .int) ∈ U0 := um 1443 (by decide +kernel) (by decide +kernel)
theorem u_1440 : Cond.methodLink "KeyDriveLaw" 97 yX9_unsnap ∈ U0 := um 1440 (by decide +kernel) (by decide +kernel)
theorem u_1441 : Cond.instanceMethod yX9_unsnap ∈ U0 := um 1441 (by decide +kernel) (by decide +kernel)
theorem u_1442 : Cond.selects "KeyDriveModel" yX9_unsnap yX9_unsnap ∈ U0 := um 1442 (by decide +kernel) (by decide +kernel)
theorem u_833 : Cond.code yX8_open prog_1_method_22_code 7 (some .int) ∈ U0 := um 833 (by decide +kernel) (by decide +kernel)
theorem u_830 : Cond.methodLink "KeyDriveLaw" 98 yX8_open ∈ U0 := um 830 (by decide +kernel) (by decide +kernel)
theorem u_831 : Cond.instanceMethod yX8_open ∈ U0 := um 831 (by decide +kernel) (by decide +kernel)
theorem u_832 : Cond.selects "KeyDrive" yX8_open yX8_open ∈ U0 := um 832 (by decide +kernel) (by decide +kernel)
theorem u_1447 : Cond.code yX9_open prog_11_method_75_code 7 (some .int) ∈ U0 := um 1447 (by decide +kernel) (by decide +kernel)
theorem u_1444 : Cond.methodLink "KeyDriveLaw" 101 yX9_open ∈ U0 := um 1444 (by decide +kernel) (by decide +kernel)
theorem u_1445 : Cond.instanceMethod yX9_open ∈ U0 := um 1445 (by decide +kernel) (by decide +kernel)
theorem u_1446 : Cond.selects "KeyDriveModel" yX9_open yX9_open ∈ U0 := um 1446 (by decide +kernel) (by decide +kernel)
theorem u_849 : Cond.code yX8_next prog_1_method_23_code 3 (some .int) ∈ U0 := um 849 (by decide +kernel) (by decide +kernel)
theorem u_846 : Cond.methodLink "KeyDriveLaw" 102 yX8_next ∈ U0 := um 846 (by decide +kernel) (by decide +kernel)
theorem u_847 : Cond.instanceMethod yX8_next ∈ U0 := um 847 (by decide +kernel) (by decide +kernel)
theorem u_848 : Cond.selects "KeyDrive" yX8_next yX8_next ∈ U0 := um 848 (by decide +kernel) (by decide +kernel)
theorem u_1459 : Cond.code yX9_next prog_11_method_77_code 5 (some .int) ∈ U0 := um 1459 (by decide +kernel) (by decide +kernel)
theorem u_1456 : Cond.methodLink "KeyDriveLaw" 105 yX9_next ∈ U0 := um 1456 (by decide +kernel) (by decide +kernel)
theorem u_1457 : Cond.instanceMethod yX9_next ∈ U0 := um 1457 (by decide +kernel) (by decide +kernel)
theorem u_1458 : Cond.selects "KeyDriveModel" yX9_next yX9_next ∈ U0 := um 1458 (by decide +kernel) (by decide +kernel)
theorem u_874 : Cond.code yX8_left prog_1_method_24_code 2 (some .int) ∈ U0 := um 874 (by decide +kernel) (by decide +kernel)
theorem u_871 : Cond.methodLink "KeyDriveLaw" 106 yX8_left ∈ U0 := um 871 (by decide +kernel) (by decide +kernel)
theorem u_872 : Cond.instanceMethod yX8_left ∈ U0 := um 872 (by decide +kernel) (by decide +kernel)
theorem u_873 : Cond.selects "KeyDrive" yX8_left yX8_left ∈ U0 := um 873 (by decide +kernel) (by decide +kernel)
theorem u_1467 : Cond.code yX9_left prog_11_method_78_code 2 (some .int) ∈ U0 := um 1467 (by decide +kernel) (by decide +kernel)
theorem u_1464 : Cond.methodLink "KeyDriveLaw" 109 yX9_left ∈ U0 := um 1464 (by decide +kernel) (by decide +kernel)
theorem u_1465 : Cond.instanceMethod yX9_left ∈ U0 := um 1465 (by decide +kernel) (by decide +kernel)
theorem u_1466 : Cond.selects "KeyDriveModel" yX9_left yX9_left ∈ U0 := um 1466 (by decide +kernel) (by decide +kernel)
theorem u_883 : Cond.code yX8_close prog_1_method_25_code 2 (some .int) ∈ U0 := um 883 (by decide +kernel) (by decide +kernel)
theorem u_880 : Cond.methodLink "KeyDriveLaw" 110 yX8_close ∈ U0 := um 880 (by decide +kernel) (by decide +kernel)
theorem u_881 : Cond.instanceMethod yX8_close ∈ U0 := um 881 (by decide +kernel) (by decide +kernel)
theorem u_882 : Cond.selects "KeyDrive" yX8_close yX8_close ∈ U0 := um 882 (by decide +kernel) (by decide +kernel)
theorem u_1471 : Cond.code yX9_close prog_11_method_79_code 2 (some .int) ∈ U0 := um 1471 (by decide +kernel) (by decide +kernel)
theorem u_1468 : Cond.methodLink "KeyDriveLaw" 113 yX9_close ∈ U0 := um 1468 (by decide +kernel) (by decide +kernel)
theorem u_1469 : Cond.instanceMethod yX9_close ∈ U0 := um 1469 (by decide +kernel) (by decide +kernel)
theorem u_1470 : Cond.selects "KeyDriveModel" yX9_close yX9_close ∈ U0 := um 1470 (by decide +kernel) (by decide +kernel)
theorem u_887 : Cond.code yX8_terms prog_1_method_26_code 4 (some .int) ∈ U0 := um 887 (by decide +kernel) (by decide +kernel)
theorem u_884 : Cond.methodLink "KeyDriveLaw" 114 yX8_terms ∈ U0 := um 884 (by decide +kernel) (by decide +kernel)
theorem u_885 : Cond.instanceMethod yX8_terms ∈ U0 := um 885 (by decide +kernel) (by decide +kernel)
theorem u_886 : Cond.selects "KeyDrive" yX8_terms yX8_terms ∈ U0 := um 886 (by decide +kernel) (by decide +kernel)
theorem u_1475 : Cond.code yX9_terms prog_11_method_80_code 4 (some .int) ∈ U0 := um 1475 (by decide +kernel) (by decide +kernel)
theorem u_1472 : Cond.methodLink "KeyDriveLaw" 117 yX9_terms ∈ U0 := um 1472 (by decide +kernel) (by decide +kernel)
theorem u_1473 : Cond.instanceMethod yX9_terms ∈ U0 := um 1473 (by decide +kernel) (by decide +kernel)
theorem u_1474 : Cond.selects "KeyDriveModel" yX9_terms yX9_terms ∈ U0 := um 1474 (by decide +kernel) (by decide +kernel)
theorem u_891 : Cond.code yX8_page prog_1_method_27_code 4 (some .int) ∈ U0 := um 891 (by decide +kernel) (by decide +kernel)
theorem u_888 : Cond.methodLink "KeyDriveLaw" 118 yX8_page ∈ U0 := um 888 (by decide +kernel) (by decide +kernel)
theorem u_889 : Cond.instanceMethod yX8_page ∈ U0 := um 889 (by decide +kernel) (by decide +kernel)
theorem u_890 : Cond.selects "KeyDrive" yX8_page yX8_page ∈ U0 := um 890 (by decide +kernel) (by decide +kernel)
theorem u_1479 : Cond.code yX9_page prog_11_method_82_code 5 (some .int) ∈ U0 := um 1479 (by decide +kernel) (by decide +kernel)
theorem u_1476 : Cond.methodLink "KeyDriveLaw" 121 yX9_page ∈ U0 := um 1476 (by decide +kernel) (by decide +kernel)
theorem u_1477 : Cond.instanceMethod yX9_page ∈ U0 := um 1477 (by decide +kernel) (by decide +kernel)
theorem u_1478 : Cond.selects "KeyDriveModel" yX9_page yX9_page ∈ U0 := um 1478 (by decide +kernel) (by decide +kernel)
theorem u_914 : Cond.code yX8_space prog_1_method_28_code 2 (some .int) ∈ U0 := um 914 (by decide +kernel) (by decide +kernel)
theorem u_911 : Cond.methodLink "KeyDriveLaw" 122 yX8_space ∈ U0 := um 911 (by decide +kernel) (by decide +kernel)
theorem u_912 : Cond.instanceMethod yX8_space ∈ U0 := um 912 (by decide +kernel) (by decide +kernel)
theorem u_913 : Cond.selects "KeyDrive" yX8_space yX8_space ∈ U0 := um 913 (by decide +kernel) (by decide +kernel)
theorem u_1489 : Cond.code yX9_space prog_11_method_83_code 4 (some .int) ∈ U0 := um 1489 (by decide +kernel) (by decide +kernel)
theorem u_1486 : Cond.methodLink "KeyDriveLaw" 125 yX9_space ∈ U0 := um 1486 (by decide +kernel) (by decide +kernel)
theorem u_1487 : Cond.instanceMethod yX9_space ∈ U0 := um 1487 (by decide +kernel) (by decide +kernel)
theorem u_1488 : Cond.selects "KeyDriveModel" yX9_space yX9_space ∈ U0 := um 1488 (by decide +kernel) (by decide +kernel)
theorem u_931 : Cond.code yX8_victim prog_1_method_29_code 2 (some .int) ∈ U0 := um 931 (by decide +kernel) (by decide +kernel)
theorem u_928 : Cond.methodLink "KeyDriveLaw" 126 yX8_victim ∈ U0 := um 928 (by decide +kernel) (by decide +kernel)
theorem u_929 : Cond.instanceMethod yX8_victim ∈ U0 := um 929 (by decide +kernel) (by decide +kernel)
theorem u_930 : Cond.selects "KeyDrive" yX8_victim yX8_victim ∈ U0 := um 930 (by decide +kernel) (by decide +kernel)
theorem u_1494 : Cond.code yX9_victim prog_11_method_84_code 2 (some .int) ∈ U0 := um 1494 (by decide +kernel) (by decide +kernel)
theorem u_1491 : Cond.methodLink "KeyDriveLaw" 129 yX9_victim ∈ U0 := um 1491 (by decide +kernel) (by decide +kernel)
theorem u_1492 : Cond.instanceMethod yX9_victim ∈ U0 := um 1492 (by decide +kernel) (by decide +kernel)
theorem u_1493 : Cond.selects "KeyDriveModel" yX9_victim yX9_victim ∈ U0 := um 1493 (by decide +kernel) (by decide +kernel)
theorem u_936 : Cond.code yX8_sweep prog_1_method_30_code 3 (some .int) ∈ U0 := um 936 (by decide +kernel) (by decide +kernel)
theorem u_933 : Cond.methodLink "KeyDriveLaw" 130 yX8_sweep ∈ U0 := um 933 (by decide +kernel) (by decide +kernel)
theorem u_934 : Cond.instanceMethod yX8_sweep ∈ U0 := um 934 (by decide +kernel) (by decide +kernel)
theorem u_935 : Cond.selects "KeyDrive" yX8_sweep yX8_sweep ∈ U0 := um 935 (by decide +kernel) (by decide +kernel)
theorem u_1498 : Cond.code yX9_sweep prog_11_method_85_code 2 (some .int) ∈ U0 := um 1498 (by decide +kernel) (by decide +kernel)
theorem u_1495 : Cond.methodLink "KeyDriveLaw" 133 yX9_sweep ∈ U0 := um 1495 (by decide +kernel) (by decide +kernel)
theorem u_1496 : Cond.instanceMethod yX9_sweep ∈ U0 := um 1496 (by decide +kernel) (by decide +kernel)
theorem u_1497 : Cond.selects "KeyDriveModel" yX9_sweep yX9_sweep ∈ U0 := um 1497 (by decide +kernel) (by decide +kernel)
theorem u_941 : Cond.code yX8_trim prog_1_method_31_code 1 (some .int) ∈ U0 := um 941 (by decide +kernel) (by decide +kernel)
theorem u_938 : Cond.methodLink "KeyDriveLaw" 134 yX8_trim ∈ U0 := um 938 (by decide +kernel) (by decide +kernel)
theorem u_939 : Cond.instanceMethod yX8_trim ∈ U0 := um 939 (by decide +kernel) (by decide +kernel)
theorem u_940 : Cond.selects "KeyDrive" yX8_trim yX8_trim ∈ U0 := um 940 (by decide +kernel) (by decide +kernel)
theorem u_1502 : Cond.code yX9_trim prog_11_method_86_code 2 (some .int) ∈ U0 := um 1502 (by decide +kernel) (by decide +kernel)
theorem u_1499 : Cond.methodLink "KeyDriveLaw" 138 yX9_trim ∈ U0 := um 1499 (by decide +kernel) (by decide +kernel)
theorem u_1500 : Cond.instanceMethod yX9_trim ∈ U0 := um 1500 (by decide +kernel) (by decide +kernel)
theorem u_1501 : Cond.selects "KeyDriveModel" yX9_trim yX9_trim ∈ U0 := um 1501 (by decide +kernel) (by decide +kernel)
theorem u_953 : Cond.code yX8_clear prog_1_method_32_code 3 (some .int) ∈ U0 := um 953 (by decide +kernel) (by decide +kernel)
theorem u_950 : Cond.methodLink "KeyDriveLaw" 139 yX8_clear ∈ U0 := um 950 (by decide +kernel) (by decide +kernel)
theorem u_951 : Cond.instanceMethod yX8_clear ∈ U0 := um 951 (by decide +kernel) (by decide +kernel)
theorem u_952 : Cond.selects "KeyDrive" yX8_clear yX8_clear ∈ U0 := um 952 (by decide +kernel) (by decide +kernel)
theorem u_1506 : Cond.code yX9_clear prog_11_method_87_code 4 (some .int) ∈ U0 := um 1506 (by decide +kernel) (by decide +kernel)
theorem u_1503 : Cond.methodLink "KeyDriveLaw" 142 yX9_clear ∈ U0 := um 1503 (by decide +kernel) (by decide +kernel)
theorem u_1504 : Cond.instanceMethod yX9_clear ∈ U0 := um 1504 (by decide +kernel) (by decide +kernel)
theorem u_1505 : Cond.selects "KeyDriveModel" yX9_clear yX9_clear ∈ U0 := um 1505 (by decide +kernel) (by decide +kernel)
theorem u_957 : Cond.code yX8_trimmed prog_1_method_33_code 2 (some .int) ∈ U0 := um 957 (by decide +kernel) (by decide +kernel)
theorem u_954 : Cond.methodLink "KeyDriveLaw" 143 yX8_trimmed ∈ U0 := um 954 (by decide +kernel) (by decide +kernel)
theorem u_955 : Cond.instanceMethod yX8_trimmed ∈ U0 := um 955 (by decide +kernel) (by decide +kernel)
theorem u_956 : Cond.selects "KeyDrive" yX8_trimmed yX8_trimmed ∈ U0 := um 956 (by decide +kernel) (by decide +kernel)
theorem u_1511 : Cond.code yX9_trimmed prog_11_method_88_code 4 (some .int) ∈ U0 := um 1511 (by decide +kernel) (by decide +kernel)
theorem u_1508 : Cond.methodLink "KeyDriveLaw" 146 yX9_trimmed ∈ U0 := um 1508 (by decide +kernel) (by decide +kernel)
theorem u_1509 : Cond.instanceMethod yX9_trimmed ∈ U0 := um 1509 (by decide +kernel) (by decide +kernel)
theorem u_1510 : Cond.selects "KeyDriveModel" yX9_trimmed yX9_trimmed ∈ U0 := um 1510 (by decide +kernel) (by decide +kernel)
theorem u_962 : Cond.code yX8_room prog_1_method_34_code 3 (some .int) ∈ U0 := um 962 (by decide +kernel) (by decide +kernel)
theorem u_959 : Cond.methodLink "KeyDriveLaw" 147 yX8_room ∈ U0 := um 959 (by decide +kernel) (by decide +kernel)
theorem u_960 : Cond.instanceMethod yX8_room ∈ U0 := um 960 (by decide +kernel) (by decide +kernel)
theorem u_961 : Cond.selects "KeyDrive" yX8_room yX8_room ∈ U0 := um 961 (by decide +kernel) (by decide +kernel)
theorem u_1515 : Cond.code yX9_room prog_11_method_90_code 5 (some .int) ∈ U0 := um 1515 (by decide +kernel) (by decide +kernel)
theorem u_1512 : Cond.methodLink "KeyDriveLaw" 150 yX9_room ∈ U0 := um 1512 (by decide +kernel) (by decide +kernel)
theorem u_1513 : Cond.instanceMethod yX9_room ∈ U0 := um 1513 (by decide +kernel) (by decide +kernel)
theorem u_1514 : Cond.selects "KeyDriveModel" yX9_room yX9_room ∈ U0 := um 1514 (by decide +kernel) (by decide +kernel)
theorem u_971 : Cond.code yX8_sure prog_1_method_35_code 2 (some .int) ∈ U0 := um 971 (by decide +kernel) (by decide +kernel)
theorem u_968 : Cond.methodLink "KeyDriveLaw" 151 yX8_sure ∈ U0 := um 968 (by decide +kernel) (by decide +kernel)
theorem u_969 : Cond.instanceMethod yX8_sure ∈ U0 := um 969 (by decide +kernel) (by decide +kernel)
theorem u_970 : Cond.selects "KeyDrive" yX8_sure yX8_sure ∈ U0 := um 970 (by decide +kernel) (by decide +kernel)
theorem u_1524 : Cond.code yX9_sure prog_11_method_91_code 4 (some .int) ∈ U0 := um 1524 (by decide +kernel) (by decide +kernel)
theorem u_1521 : Cond.methodLink "KeyDriveLaw" 154 yX9_sure ∈ U0 := um 1521 (by decide +kernel) (by decide +kernel)
theorem u_1522 : Cond.instanceMethod yX9_sure ∈ U0 := um 1522 (by decide +kernel) (by decide +kernel)
theorem u_1523 : Cond.selects "KeyDriveModel" yX9_sure yX9_sure ∈ U0 := um 1523 (by decide +kernel) (by decide +kernel)
theorem u_980 : Cond.code yX8_would prog_1_method_36_code 2 (some .int) ∈ U0 := um 980 (by decide +kernel) (by decide +kernel)
theorem u_977 : Cond.methodLink "KeyDriveLaw" 155 yX8_would ∈ U0 := um 977 (by decide +kernel) (by decide +kernel)
theorem u_978 : Cond.instanceMethod yX8_would ∈ U0 := um 978 (by decide +kernel) (by decide +kernel)
theorem u_979 : Cond.selects "KeyDrive" yX8_would yX8_would ∈ U0 := um 979 (by decide +kernel) (by decide +kernel)
theorem u_1528 : Cond.code yX9_would prog_11_method_92_code 3 (some .int) ∈ U0 := um 1528 (by decide +kernel) (by decide +kernel)
theorem u_1525 : Cond.methodLink "KeyDriveLaw" 158 yX9_would ∈ U0 := um 1525 (by decide +kernel) (by decide +kernel)
theorem u_1526 : Cond.instanceMethod yX9_would ∈ U0 := um 1526 (by decide +kernel) (by decide +kernel)
theorem u_1527 : Cond.selects "KeyDriveModel" yX9_would yX9_would ∈ U0 := um 1527 (by decide +kernel) (by decide +kernel)
theorem u_984 : Cond.code yX8_packs prog_1_method_37_code 2 (some .int) ∈ U0 := um 984 (by decide +kernel) (by decide +kernel)
theorem u_981 : Cond.methodLink "KeyDriveLaw" 159 yX8_packs ∈ U0 := um 981 (by decide +kernel) (by decide +kernel)
theorem u_982 : Cond.instanceMethod yX8_packs ∈ U0 := um 982 (by decide +kernel) (by decide +kernel)
theorem u_983 : Cond.selects "KeyDrive" yX8_packs yX8_packs ∈ U0 := um 983 (by decide +kernel) (by decide +kernel)
theorem u_1532 : Cond.code yX9_packs prog_11_method_96_code 2 (some .int) ∈ U0 := um 1532 (by decide +kernel) (by decide +kernel)
theorem u_1529 : Cond.methodLink "KeyDriveLaw" 162 yX9_packs ∈ U0 := um 1529 (by decide +kernel) (by decide +kernel)
theorem u_1530 : Cond.instanceMethod yX9_packs ∈ U0 := um 1530 (by decide +kernel) (by decide +kernel)
theorem u_1531 : Cond.selects "KeyDriveModel" yX9_packs yX9_packs ∈ U0 := um 1531 (by decide +kernel) (by decide +kernel)
theorem u_1013 : Cond.code yX8_best prog_1_method_38_code 6 (some .int) ∈ U0 := um 1013 (by decide +kernel) (by decide +kernel)
theorem u_1010 : Cond.methodLink "KeyDriveLaw" 163 yX8_best ∈ U0 := um 1010 (by decide +kernel) (by decide +kernel)
theorem u_1011 : Cond.instanceMethod yX8_best ∈ U0 := um 1011 (by decide +kernel) (by decide +kernel)
theorem u_1012 : Cond.selects "KeyDrive" yX8_best yX8_best ∈ U0 := um 1012 (by decide +kernel) (by decide +kernel)
theorem u_1548 : Cond.code yX9_best prog_11_method_97_code 7 (some .int) ∈ U0 := um 1548 (by decide +kernel) (by decide +kernel)
theorem u_1545 : Cond.methodLink "KeyDriveLaw" 166 yX9_best ∈ U0 := um 1545 (by decide +kernel) (by decide +kernel)
theorem u_1546 : Cond.instanceMethod yX9_best ∈ U0 := um 1546 (by decide +kernel) (by decide +kernel)
theorem u_1547 : Cond.selects "KeyDriveModel" yX9_best yX9_best ∈ U0 := um 1547 (by decide +kernel) (by decide +kernel)
theorem u_1021 : Cond.code yX8_wear prog_1_method_39_code 2 (some .int) ∈ U0 := um 1021 (by decide +kernel) (by decide +kernel)
theorem u_1018 : Cond.methodLink "KeyDriveLaw" 167 yX8_wear ∈ U0 := um 1018 (by decide +kernel) (by decide +kernel)
theorem u_1019 : Cond.instanceMethod yX8_wear ∈ U0 := um 1019 (by decide +kernel) (by decide +kernel)
theorem u_1020 : Cond.selects "KeyDrive" yX8_wear yX8_wear ∈ U0 := um 1020 (by decide +kernel) (by decide +kernel)
theorem u_1552 : Cond.code yX9_wear prog_11_method_98_code 5 (some .int) ∈ U0 := um 1552 (by decide +kernel) (by decide +kernel)
theorem u_1549 : Cond.methodLink "KeyDriveLaw" 170 yX9_wear ∈ U0 := um 1549 (by decide +kernel) (by decide +kernel)
theorem u_1550 : Cond.instanceMethod yX9_wear ∈ U0 := um 1550 (by decide +kernel) (by decide +kernel)
theorem u_1551 : Cond.selects "KeyDriveModel" yX9_wear yX9_wear ∈ U0 := um 1551 (by decide +kernel) (by decide +kernel)
theorem u_1034 : Cond.code yX8_bucket prog_1_method_40_code 3 (some .int) ∈ U0 := um 1034 (by decide +kernel) (by decide +kernel)
theorem u_1031 : Cond.methodLink "KeyDriveLaw" 171 yX8_bucket ∈ U0 := um 1031 (by decide +kernel) (by decide +kernel)
theorem u_1032 : Cond.instanceMethod yX8_bucket ∈ U0 := um 1032 (by decide +kernel) (by decide +kernel)
theorem u_1033 : Cond.selects "KeyDrive" yX8_bucket yX8_bucket ∈ U0 := um 1033 (by decide +kernel) (by decide +kernel)
theorem u_1556 : Cond.code yX9_bucket prog_11_method_100_code 5 (some .int) ∈ U0 := um 1556 (by decide +kernel) (by decide +kernel)
theorem u_1553 : Cond.methodLink "KeyDriveLaw" 174 yX9_bucket ∈ U0 := um 1553 (by decide +kernel) (by decide +kernel)
theorem u_1554 : Cond.instanceMethod yX9_bucket ∈ U0 := um 1554 (by decide +kernel) (by decide +kernel)
theorem u_1555 : Cond.selects "KeyDriveModel" yX9_bucket yX9_bucket ∈ U0 := um 1555 (by decide +kernel) (by decide +kernel)
theorem u_1045 : Cond.code yX8_index prog_1_method_41_code 2 (some .int) ∈ U0 := um 1045 (by decide +kernel) (by decide +kernel)
theorem u_1042 : Cond.methodLink "KeyDriveLaw" 175 yX8_index ∈ U0 := um 1042 (by decide +kernel) (by decide +kernel)
theorem u_1043 : Cond.instanceMethod yX8_index ∈ U0 := um 1043 (by decide +kernel) (by decide +kernel)
theorem u_1044 : Cond.selects "KeyDrive" yX8_index yX8_index ∈ U0 := um 1044 (by decide +kernel) (by decide +kernel)
theorem u_1564 : Cond.code yX9_index prog_11_method_101_code 2 (some .int) ∈ U0 := um 1564 (by decide +kernel) (by decide +kernel)
theorem u_1561 : Cond.methodLink "KeyDriveLaw" 178 yX9_index ∈ U0 := um 1561 (by decide +kernel) (by decide +kernel)
theorem u_1562 : Cond.instanceMethod yX9_index ∈ U0 := um 1562 (by decide +kernel) (by decide +kernel)
theorem u_1563 : Cond.selects "KeyDriveModel" yX9_index yX9_index ∈ U0 := um 1563 (by decide +kernel) (by decide +kernel)
theorem u_1049 : Cond.code yX8_undo prog_1_method_42_code 4 (some .int) ∈ U0 := um 1049 (by decide +kernel) (by decide +kernel)
theorem u_1046 : Cond.methodLink "KeyDriveLaw" 179 yX8_undo ∈ U0 := um 1046 (by decide +kernel) (by decide +kernel)
theorem u_1047 : Cond.instanceMethod yX8_undo ∈ U0 := um 1047 (by decide +kernel) (by decide +kernel)
theorem u_1048 : Cond.selects "KeyDrive" yX8_undo yX8_undo ∈ U0 := um 1048 (by decide +kernel) (by decide +kernel)
theorem u_1568 : Cond.code yX9_undo prog_11_method_102_code 3 (some .int) ∈ U0 := um 1568 (by decide +kernel) (by decide +kernel)
theorem u_1565 : Cond.methodLink "KeyDriveLaw" 182 yX9_undo ∈ U0 := um 1565 (by decide +kernel) (by decide +kernel)
theorem u_1566 : Cond.instanceMethod yX9_undo ∈ U0 := um 1566 (by decide +kernel) (by decide +kernel)
theorem u_1567 : Cond.selects "KeyDriveModel" yX9_undo yX9_undo ∈ U0 := um 1567 (by decide +kernel) (by decide +kernel)
theorem u_1053 : Cond.code yX8_image prog_1_method_43_code 3 (some .int) ∈ U0 := um 1053 (by decide +kernel) (by decide +kernel)
theorem u_1050 : Cond.methodLink "KeyDriveLaw" 183 yX8_image ∈ U0 := um 1050 (by decide +kernel) (by decide +kernel)
theorem u_1051 : Cond.instanceMethod yX8_image ∈ U0 := um 1051 (by decide +kernel) (by decide +kernel)
theorem u_1052 : Cond.selects "KeyDrive" yX8_image yX8_image ∈ U0 := um 1052 (by decide +kernel) (by decide +kernel)
theorem u_1573 : Cond.code yX9_image prog_11_method_103_code 3 (some .int) ∈ U0 := um 1573 (by decide +kernel) (by decide +kernel)
theorem u_1570 : Cond.methodLink "KeyDriveLaw" 186 yX9_image ∈ U0 := um 1570 (by decide +kernel) (by decide +kernel)
theorem u_1571 : Cond.instanceMethod yX9_image ∈ U0 := um 1571 (by decide +kernel) (by decide +kernel)
theorem u_1572 : Cond.selects "KeyDriveModel" yX9_image yX9_image ∈ U0 := um 1572 (by decide +kernel) (by decide +kernel)
theorem u_1057 : Cond.code yX8_restore prog_1_method_44_code 3 (some .int) ∈ U0 := um 1057 (by decide +kernel) (by decide +kernel)
theorem u_1054 : Cond.methodLink "KeyDriveLaw" 187 yX8_restore ∈ U0 := um 1054 (by decide +kernel) (by decide +kernel)
theorem u_1055 : Cond.instanceMethod yX8_restore ∈ U0 := um 1055 (by decide +kernel) (by decide +kernel)
theorem u_1056 : Cond.selects "KeyDrive" yX8_restore yX8_restore ∈ U0 := um 1056 (by decide +kernel) (by decide +kernel)
theorem u_1577 : Cond.code yX9_restore prog_11_method_104_code 3 (some .int) ∈ U0 := um 1577 (by decide +kernel) (by decide +kernel)
theorem u_1574 : Cond.methodLink "KeyDriveLaw" 190 yX9_restore ∈ U0 := um 1574 (by decide +kernel) (by decide +kernel)
theorem u_1575 : Cond.instanceMethod yX9_restore ∈ U0 := um 1575 (by decide +kernel) (by decide +kernel)
theorem u_1576 : Cond.selects "KeyDriveModel" yX9_restore yX9_restore ∈ U0 := um 1576 (by decide +kernel) (by decide +kernel)
theorem u_1061 : Cond.code yX8_count prog_1_method_45_code 2 (some .int) ∈ U0 := um 1061 (by decide +kernel) (by decide +kernel)
theorem u_1058 : Cond.methodLink "KeyDriveLaw" 191 yX8_count ∈ U0 := um 1058 (by decide +kernel) (by decide +kernel)
theorem u_1059 : Cond.instanceMethod yX8_count ∈ U0 := um 1059 (by decide +kernel) (by decide +kernel)
theorem u_1060 : Cond.selects "KeyDrive" yX8_count yX8_count ∈ U0 := um 1060 (by decide +kernel) (by decide +kernel)
theorem u_1581 : Cond.code yX9_count prog_11_method_105_code 4 (some .int) ∈ U0 := um 1581 (by decide +kernel) (by decide +kernel)
theorem u_1578 : Cond.methodLink "KeyDriveLaw" 194 yX9_count ∈ U0 := um 1578 (by decide +kernel) (by decide +kernel)
theorem u_1579 : Cond.instanceMethod yX9_count ∈ U0 := um 1579 (by decide +kernel) (by decide +kernel)
theorem u_1580 : Cond.selects "KeyDriveModel" yX9_count yX9_count ∈ U0 := um 1580 (by decide +kernel) (by decide +kernel)
theorem dL_law_224 : decode cL_law 224 = .ok (.aload_n 1, 1) := by decide +kernel
theorem dL_law_225 : decode cL_law 225 = .ok (.aload_n 0, 1) := by decide +kernel
theorem dL_law_226 : decode cL_law 226 = .ok (.iload_n 3, 1) := by decide +kernel
theorem dL_law_227 : decode cL_law 227 = .ok (.iconst 1, 1) := by decide +kernel
theorem dL_law_228 : decode cL_law 228 = .ok (.iadd, 1) := by decide +kernel
theorem dL_law_229 : decode cL_law 229 = .ok (.iaload, 1) := by decide +kernel
theorem dL_law_230 : decode cL_law 230 = .ok (.aload_n 0, 1) := by decide +kernel
theorem dL_law_231 : decode cL_law 231 = .ok (.iload_n 3, 1) := by decide +kernel
theorem dL_law_232 : decode cL_law 232 = .ok (.iconst 2, 1) := by decide +kernel
theorem dL_law_233 : decode cL_law 233 = .ok (.iadd, 1) := by decide +kernel
theorem dL_law_234 : decode cL_law 234 = .ok (.iaload, 1) := by decide +kernel
theorem dL_law_235 : decode cL_law 235 = .ok (.aload_n 0, 1) := by decide +kernel
theorem dL_law_236 : decode cL_law 236 = .ok (.iload_n 3, 1) := by decide +kernel
theorem dL_law_237 : decode cL_law 237 = .ok (.iconst 3, 1) := by decide +kernel
theorem dL_law_238 : decode cL_law 238 = .ok (.iadd, 1) := by decide +kernel
theorem dL_law_239 : decode cL_law 239 = .ok (.iaload, 1) := by decide +kernel
theorem dL_law_240 : decode cL_law 240 = .ok (.aload_n 0, 1) := by decide +kernel
theorem dL_law_241 : decode cL_law 241 = .ok (.iload_n 3, 1) := by decide +kernel
theorem dL_law_242 : decode cL_law 242 = .ok (.iconst 4, 1) := by decide +kernel
theorem dL_law_243 : decode cL_law 243 = .ok (.iadd, 1) := by decide +kernel
theorem dL_law_244 : decode cL_law 244 = .ok (.iaload, 1) := by decide +kernel
theorem dL_law_245 : decode cL_law 245 = .ok (.aload_n 0, 1) := by decide +kernel
theorem dL_law_246 : decode cL_law 246 = .ok (.iload_n 3, 1) := by decide +kernel
theorem dL_law_247 : decode cL_law 247 = .ok (.iconst 5, 1) := by decide +kernel
theorem dL_law_248 : decode cL_law 248 = .ok (.iadd, 1) := by decide +kernel
theorem dL_law_249 : decode cL_law 249 = .ok (.iaload, 1) := by decide +kernel
theorem dL_law_250 : decode cL_law 250 = .ok (.invokevirtual 13, 3) := by decide +kernel
theorem dL_law_253 : decode cL_law 253 = .ok (.aload_n 2, 1) := by decide +kernel
theorem dL_law_254 : decode cL_law 254 = .ok (.aload_n 0, 1) := by decide +kernel
theorem dL_law_255 : decode cL_law 255 = .ok (.iload_n 3, 1) := by decide +kernel
theorem dL_law_256 : decode cL_law 256 = .ok (.iconst 1, 1) := by decide +kernel
theorem dL_law_257 : decode cL_law 257 = .ok (.iadd, 1) := by decide +kernel
theorem dL_law_258 : decode cL_law 258 = .ok (.iaload, 1) := by decide +kernel
theorem dL_law_259 : decode cL_law 259 = .ok (.aload_n 0, 1) := by decide +kernel
theorem dL_law_260 : decode cL_law 260 = .ok (.iload_n 3, 1) := by decide +kernel
theorem dL_law_261 : decode cL_law 261 = .ok (.iconst 2, 1) := by decide +kernel
theorem dL_law_262 : decode cL_law 262 = .ok (.iadd, 1) := by decide +kernel
theorem dL_law_263 : decode cL_law 263 = .ok (.iaload, 1) := by decide +kernel
theorem dL_law_264 : decode cL_law 264 = .ok (.aload_n 0, 1) := by decide +kernel
theorem dL_law_265 : decode cL_law 265 = .ok (.iload_n 3, 1) := by decide +kernel
theorem dL_law_266 : decode cL_law 266 = .ok (.iconst 3, 1) := by decide +kernel
theorem dL_law_267 : decode cL_law 267 = .ok (.iadd, 1) := by decide +kernel
theorem dL_law_268 : decode cL_law 268 = .ok (.iaload, 1) := by decide +kernel
theorem dL_law_269 : decode cL_law 269 = .ok (.aload_n 0, 1) := by decide +kernel
theorem dL_law_270 : decode cL_law 270 = .ok (.iload_n 3, 1) := by decide +kernel
theorem dL_law_271 : decode cL_law 271 = .ok (.iconst 4, 1) := by decide +kernel
theorem dL_law_272 : decode cL_law 272 = .ok (.iadd, 1) := by decide +kernel
theorem dL_law_273 : decode cL_law 273 = .ok (.iaload, 1) := by decide +kernel
theorem dL_law_274 : decode cL_law 274 = .ok (.aload_n 0, 1) := by decide +kernel
theorem dL_law_275 : decode cL_law 275 = .ok (.iload_n 3, 1) := by decide +kernel
theorem dL_law_276 : decode cL_law 276 = .ok (.iconst 5, 1) := by decide +kernel
theorem dL_law_277 : decode cL_law 277 = .ok (.iadd, 1) := by decide +kernel
theorem dL_law_278 : decode cL_law 278 = .ok (.iaload, 1) := by decide +kernel
theorem dL_law_279 : decode cL_law 279 = .ok (.invokevirtual 17, 3) := by decide +kernel
theorem dL_law_282 : decode cL_law 282 = .ok (.if_icmp .eq 1105, 3) := by decide +kernel
theorem dL_law_287 : decode cL_law 287 = .ok (.aload_n 1, 1) := by decide +kernel
theorem dL_law_288 : decode cL_law 288 = .ok (.aload_n 0, 1) := by decide +kernel
theorem dL_law_289 : decode cL_law 289 = .ok (.iload_n 3, 1) := by decide +kernel
theorem dL_law_290 : decode cL_law 290 = .ok (.iconst 1, 1) := by decide +kernel
theorem dL_law_291 : decode cL_law 291 = .ok (.iadd, 1) := by decide +kernel
theorem dL_law_292 : decode cL_law 292 = .ok (.iaload, 1) := by decide +kernel
theorem dL_law_293 : decode cL_law 293 = .ok (.aload_n 0, 1) := by decide +kernel
theorem dL_law_294 : decode cL_law 294 = .ok (.iload_n 3, 1) := by decide +kernel
theorem dL_law_295 : decode cL_law 295 = .ok (.iconst 2, 1) := by decide +kernel
theorem dL_law_296 : decode cL_law 296 = .ok (.iadd, 1) := by decide +kernel
theorem dL_law_297 : decode cL_law 297 = .ok (.iaload, 1) := by decide +kernel
theorem dL_law_298 : decode cL_law 298 = .ok (.invokevirtual 18, 3) := by decide +kernel
theorem dL_law_301 : decode cL_law 301 = .ok (.aload_n 2, 1) := by decide +kernel
theorem dL_law_302 : decode cL_law 302 = .ok (.aload_n 0, 1) := by decide +kernel
theorem dL_law_303 : decode cL_law 303 = .ok (.iload_n 3, 1) := by decide +kernel
theorem dL_law_304 : decode cL_law 304 = .ok (.iconst 1, 1) := by decide +kernel
theorem dL_law_305 : decode cL_law 305 = .ok (.iadd, 1) := by decide +kernel
theorem dL_law_306 : decode cL_law 306 = .ok (.iaload, 1) := by decide +kernel
theorem dL_law_307 : decode cL_law 307 = .ok (.aload_n 0, 1) := by decide +kernel
theorem dL_law_308 : decode cL_law 308 = .ok (.iload_n 3, 1) := by decide +kernel
theorem dL_law_309 : decode cL_law 309 = .ok (.iconst 2, 1) := by decide +kernel
theorem dL_law_310 : decode cL_law 310 = .ok (.iadd, 1) := by decide +kernel
theorem dL_law_311 : decode cL_law 311 = .ok (.iaload, 1) := by decide +kernel
theorem dL_law_312 : decode cL_law 312 = .ok (.invokevirtual 22, 3) := by decide +kernel
theorem dL_law_315 : decode cL_law 315 = .ok (.if_icmp .eq 1072, 3) := by decide +kernel
theorem dL_law_320 : decode cL_law 320 = .ok (.aload_n 1, 1) := by decide +kernel
theorem dL_law_321 : decode cL_law 321 = .ok (.aload_n 0, 1) := by decide +kernel
theorem dL_law_322 : decode cL_law 322 = .ok (.iload_n 3, 1) := by decide +kernel
theorem dL_law_323 : decode cL_law 323 = .ok (.iconst 1, 1) := by decide +kernel
theorem dL_law_324 : decode cL_law 324 = .ok (.iadd, 1) := by decide +kernel
theorem dL_law_325 : decode cL_law 325 = .ok (.iaload, 1) := by decide +kernel
theorem dL_law_326 : decode cL_law 326 = .ok (.aload_n 0, 1) := by decide +kernel
theorem dL_law_327 : decode cL_law 327 = .ok (.iload_n 3, 1) := by decide +kernel
theorem dL_law_328 : decode cL_law 328 = .ok (.iconst 2, 1) := by decide +kernel
theorem dL_law_329 : decode cL_law 329 = .ok (.iadd, 1) := by decide +kernel
theorem dL_law_330 : decode cL_law 330 = .ok (.iaload, 1) := by decide +kernel
theorem dL_law_331 : decode cL_law 331 = .ok (.invokevirtual 23, 3) := by decide +kernel
theorem dL_law_334 : decode cL_law 334 = .ok (.aload_n 2, 1) := by decide +kernel
theorem dL_law_335 : decode cL_law 335 = .ok (.aload_n 0, 1) := by decide +kernel
theorem dL_law_336 : decode cL_law 336 = .ok (.iload_n 3, 1) := by decide +kernel
theorem dL_law_337 : decode cL_law 337 = .ok (.iconst 1, 1) := by decide +kernel
theorem dL_law_338 : decode cL_law 338 = .ok (.iadd, 1) := by decide +kernel
theorem dL_law_339 : decode cL_law 339 = .ok (.iaload, 1) := by decide +kernel
theorem dL_law_340 : decode cL_law 340 = .ok (.aload_n 0, 1) := by decide +kernel
theorem dL_law_341 : decode cL_law 341 = .ok (.iload_n 3, 1) := by decide +kernel
theorem dL_law_342 : decode cL_law 342 = .ok (.iconst 2, 1) := by decide +kernel
theorem dL_law_343 : decode cL_law 343 = .ok (.iadd, 1) := by decide +kernel
theorem dL_law_344 : decode cL_law 344 = .ok (.iaload, 1) := by decide +kernel
theorem dL_law_345 : decode cL_law 345 = .ok (.invokevirtual 26, 3) := by decide +kernel
theorem dL_law_348 : decode cL_law 348 = .ok (.if_icmp .eq 1039, 3) := by decide +kernel
theorem dL_law_353 : decode cL_law 353 = .ok (.aload_n 1, 1) := by decide +kernel
theorem dL_law_354 : decode cL_law 354 = .ok (.aload_n 0, 1) := by decide +kernel
theorem dL_law_355 : decode cL_law 355 = .ok (.iload_n 3, 1) := by decide +kernel
theorem dL_law_356 : decode cL_law 356 = .ok (.iconst 1, 1) := by decide +kernel
theorem dL_law_357 : decode cL_law 357 = .ok (.iadd, 1) := by decide +kernel
theorem dL_law_358 : decode cL_law 358 = .ok (.iaload, 1) := by decide +kernel
theorem dL_law_359 : decode cL_law 359 = .ok (.invokevirtual 27, 3) := by decide +kernel
theorem dL_law_362 : decode cL_law 362 = .ok (.aload_n 2, 1) := by decide +kernel
theorem dL_law_363 : decode cL_law 363 = .ok (.aload_n 0, 1) := by decide +kernel
theorem dL_law_364 : decode cL_law 364 = .ok (.iload_n 3, 1) := by decide +kernel
theorem dL_law_365 : decode cL_law 365 = .ok (.iconst 1, 1) := by decide +kernel
theorem dL_law_366 : decode cL_law 366 = .ok (.iadd, 1) := by decide +kernel
theorem dL_law_367 : decode cL_law 367 = .ok (.iaload, 1) := by decide +kernel
theorem dL_law_368 : decode cL_law 368 = .ok (.invokevirtual 31, 3) := by decide +kernel
theorem dL_law_371 : decode cL_law 371 = .ok (.if_icmp .eq 1016, 3) := by decide +kernel
theorem dL_law_376 : decode cL_law 376 = .ok (.aload_n 1, 1) := by decide +kernel
theorem dL_law_377 : decode cL_law 377 = .ok (.aload_n 0, 1) := by decide +kernel
theorem dL_law_378 : decode cL_law 378 = .ok (.iload_n 3, 1) := by decide +kernel
theorem dL_law_379 : decode cL_law 379 = .ok (.iconst 1, 1) := by decide +kernel
theorem dL_law_380 : decode cL_law 380 = .ok (.iadd, 1) := by decide +kernel
theorem dL_law_381 : decode cL_law 381 = .ok (.iaload, 1) := by decide +kernel
theorem dL_law_382 : decode cL_law 382 = .ok (.invokevirtual 32, 3) := by decide +kernel
theorem dL_law_385 : decode cL_law 385 = .ok (.aload_n 2, 1) := by decide +kernel
theorem dL_law_386 : decode cL_law 386 = .ok (.aload_n 0, 1) := by decide +kernel
theorem dL_law_387 : decode cL_law 387 = .ok (.iload_n 3, 1) := by decide +kernel
theorem dL_law_388 : decode cL_law 388 = .ok (.iconst 1, 1) := by decide +kernel
theorem dL_law_389 : decode cL_law 389 = .ok (.iadd, 1) := by decide +kernel
theorem dL_law_390 : decode cL_law 390 = .ok (.iaload, 1) := by decide +kernel
theorem dL_law_391 : decode cL_law 391 = .ok (.invokevirtual 35, 3) := by decide +kernel
theorem dL_law_394 : decode cL_law 394 = .ok (.if_icmp .eq 993, 3) := by decide +kernel
theorem dL_law_399 : decode cL_law 399 = .ok (.aload_n 1, 1) := by decide +kernel
theorem dL_law_400 : decode cL_law 400 = .ok (.aload_n 0, 1) := by decide +kernel
theorem dL_law_401 : decode cL_law 401 = .ok (.iload_n 3, 1) := by decide +kernel
theorem dL_law_402 : decode cL_law 402 = .ok (.iconst 1, 1) := by decide +kernel
theorem dL_law_403 : decode cL_law 403 = .ok (.iadd, 1) := by decide +kernel
theorem dL_law_404 : decode cL_law 404 = .ok (.iaload, 1) := by decide +kernel
theorem dL_law_405 : decode cL_law 405 = .ok (.invokevirtual 36, 3) := by decide +kernel
theorem dL_law_408 : decode cL_law 408 = .ok (.aload_n 2, 1) := by decide +kernel
theorem dL_law_409 : decode cL_law 409 = .ok (.aload_n 0, 1) := by decide +kernel
theorem dL_law_410 : decode cL_law 410 = .ok (.iload_n 3, 1) := by decide +kernel
theorem dL_law_411 : decode cL_law 411 = .ok (.iconst 1, 1) := by decide +kernel
theorem dL_law_412 : decode cL_law 412 = .ok (.iadd, 1) := by decide +kernel
theorem dL_law_413 : decode cL_law 413 = .ok (.iaload, 1) := by decide +kernel
theorem dL_law_414 : decode cL_law 414 = .ok (.invokevirtual 39, 3) := by decide +kernel
theorem dL_law_417 : decode cL_law 417 = .ok (.if_icmp .eq 970, 3) := by decide +kernel
theorem dL_law_422 : decode cL_law 422 = .ok (.aload_n 1, 1) := by decide +kernel
theorem dL_law_423 : decode cL_law 423 = .ok (.aload_n 0, 1) := by decide +kernel
theorem dL_law_424 : decode cL_law 424 = .ok (.iload_n 3, 1) := by decide +kernel
theorem dL_law_425 : decode cL_law 425 = .ok (.iconst 1, 1) := by decide +kernel
theorem dL_law_426 : decode cL_law 426 = .ok (.iadd, 1) := by decide +kernel
theorem dL_law_427 : decode cL_law 427 = .ok (.iaload, 1) := by decide +kernel
theorem dL_law_428 : decode cL_law 428 = .ok (.aload_n 0, 1) := by decide +kernel
theorem dL_law_429 : decode cL_law 429 = .ok (.iload_n 3, 1) := by decide +kernel
theorem dL_law_430 : decode cL_law 430 = .ok (.iconst 2, 1) := by decide +kernel
theorem dL_law_431 : decode cL_law 431 = .ok (.iadd, 1) := by decide +kernel
theorem dL_law_432 : decode cL_law 432 = .ok (.iaload, 1) := by decide +kernel
theorem dL_law_433 : decode cL_law 433 = .ok (.aload_n 0, 1) := by decide +kernel
theorem dL_law_434 : decode cL_law 434 = .ok (.iload_n 3, 1) := by decide +kernel
theorem dL_law_435 : decode cL_law 435 = .ok (.iconst 3, 1) := by decide +kernel
theorem dL_law_436 : decode cL_law 436 = .ok (.iadd, 1) := by decide +kernel
theorem dL_law_437 : decode cL_law 437 = .ok (.iaload, 1) := by decide +kernel
theorem dL_law_438 : decode cL_law 438 = .ok (.invokevirtual 40, 3) := by decide +kernel
theorem dL_law_441 : decode cL_law 441 = .ok (.aload_n 2, 1) := by decide +kernel
theorem dL_law_442 : decode cL_law 442 = .ok (.aload_n 0, 1) := by decide +kernel
theorem dL_law_443 : decode cL_law 443 = .ok (.iload_n 3, 1) := by decide +kernel
theorem dL_law_444 : decode cL_law 444 = .ok (.iconst 1, 1) := by decide +kernel
theorem dL_law_445 : decode cL_law 445 = .ok (.iadd, 1) := by decide +kernel
theorem dL_law_446 : decode cL_law 446 = .ok (.iaload, 1) := by decide +kernel
theorem dL_law_447 : decode cL_law 447 = .ok (.aload_n 0, 1) := by decide +kernel
theorem dL_law_448 : decode cL_law 448 = .ok (.iload_n 3, 1) := by decide +kernel
theorem dL_law_449 : decode cL_law 449 = .ok (.iconst 2, 1) := by decide +kernel
theorem dL_law_450 : decode cL_law 450 = .ok (.iadd, 1) := by decide +kernel
theorem dL_law_451 : decode cL_law 451 = .ok (.iaload, 1) := by decide +kernel
theorem dL_law_452 : decode cL_law 452 = .ok (.aload_n 0, 1) := by decide +kernel
theorem dL_law_453 : decode cL_law 453 = .ok (.iload_n 3, 1) := by decide +kernel
theorem dL_law_454 : decode cL_law 454 = .ok (.iconst 3, 1) := by decide +kernel
theorem dL_law_455 : decode cL_law 455 = .ok (.iadd, 1) := by decide +kernel
theorem dL_law_456 : decode cL_law 456 = .ok (.iaload, 1) := by decide +kernel
theorem dL_law_457 : decode cL_law 457 = .ok (.invokevirtual 44, 3) := by decide +kernel
theorem dL_law_460 : decode cL_law 460 = .ok (.if_icmp .eq 927, 3) := by decide +kernel
theorem dL_law_465 : decode cL_law 465 = .ok (.aload_n 1, 1) := by decide +kernel
theorem dL_law_466 : decode cL_law 466 = .ok (.aload_n 0, 1) := by decide +kernel
theorem dL_law_467 : decode cL_law 467 = .ok (.iload_n 3, 1) := by decide +kernel
theorem dL_law_468 : decode cL_law 468 = .ok (.iconst 1, 1) := by decide +kernel
theorem dL_law_469 : decode cL_law 469 = .ok (.iadd, 1) := by decide +kernel
theorem dL_law_470 : decode cL_law 470 = .ok (.iaload, 1) := by decide +kernel
theorem dL_law_471 : decode cL_law 471 = .ok (.invokevirtual 45, 3) := by decide +kernel
theorem dL_law_474 : decode cL_law 474 = .ok (.aload_n 2, 1) := by decide +kernel
theorem dL_law_475 : decode cL_law 475 = .ok (.aload_n 0, 1) := by decide +kernel
theorem dL_law_476 : decode cL_law 476 = .ok (.iload_n 3, 1) := by decide +kernel
theorem dL_law_477 : decode cL_law 477 = .ok (.iconst 1, 1) := by decide +kernel
theorem dL_law_478 : decode cL_law 478 = .ok (.iadd, 1) := by decide +kernel
theorem dL_law_479 : decode cL_law 479 = .ok (.iaload, 1) := by decide +kernel
theorem dL_law_480 : decode cL_law 480 = .ok (.invokevirtual 48, 3) := by decide +kernel
theorem dL_law_483 : decode cL_law 483 = .ok (.if_icmp .eq 904, 3) := by decide +kernel
theorem dL_law_488 : decode cL_law 488 = .ok (.aload_n 1, 1) := by decide +kernel
theorem dL_law_489 : decode cL_law 489 = .ok (.aload_n 0, 1) := by decide +kernel
theorem dL_law_490 : decode cL_law 490 = .ok (.iload_n 3, 1) := by decide +kernel
theorem dL_law_491 : decode cL_law 491 = .ok (.iconst 1, 1) := by decide +kernel
theorem dL_law_492 : decode cL_law 492 = .ok (.iadd, 1) := by decide +kernel
theorem dL_law_493 : decode cL_law 493 = .ok (.iaload, 1) := by decide +kernel
theorem dL_law_494 : decode cL_law 494 = .ok (.invokevirtual 49, 3) := by decide +kernel
theorem dL_law_497 : decode cL_law 497 = .ok (.aload_n 2, 1) := by decide +kernel
theorem dL_law_498 : decode cL_law 498 = .ok (.aload_n 0, 1) := by decide +kernel
theorem dL_law_499 : decode cL_law 499 = .ok (.iload_n 3, 1) := by decide +kernel
theorem dL_law_500 : decode cL_law 500 = .ok (.iconst 1, 1) := by decide +kernel
theorem dL_law_501 : decode cL_law 501 = .ok (.iadd, 1) := by decide +kernel
theorem dL_law_502 : decode cL_law 502 = .ok (.iaload, 1) := by decide +kernel
theorem dL_law_503 : decode cL_law 503 = .ok (.invokevirtual 52, 3) := by decide +kernel
theorem dL_law_506 : decode cL_law 506 = .ok (.if_icmp .eq 881, 3) := by decide +kernel
theorem dL_law_511 : decode cL_law 511 = .ok (.aload_n 1, 1) := by decide +kernel
theorem dL_law_512 : decode cL_law 512 = .ok (.aload_n 0, 1) := by decide +kernel
theorem dL_law_513 : decode cL_law 513 = .ok (.iload_n 3, 1) := by decide +kernel
theorem dL_law_514 : decode cL_law 514 = .ok (.iconst 1, 1) := by decide +kernel
theorem dL_law_515 : decode cL_law 515 = .ok (.iadd, 1) := by decide +kernel
theorem dL_law_516 : decode cL_law 516 = .ok (.iaload, 1) := by decide +kernel
theorem dL_law_517 : decode cL_law 517 = .ok (.invokevirtual 53, 3) := by decide +kernel
theorem dL_law_520 : decode cL_law 520 = .ok (.aload_n 2, 1) := by decide +kernel
theorem dL_law_521 : decode cL_law 521 = .ok (.aload_n 0, 1) := by decide +kernel
theorem dL_law_522 : decode cL_law 522 = .ok (.iload_n 3, 1) := by decide +kernel
theorem dL_law_523 : decode cL_law 523 = .ok (.iconst 1, 1) := by decide +kernel
theorem dL_law_524 : decode cL_law 524 = .ok (.iadd, 1) := by decide +kernel
theorem dL_law_525 : decode cL_law 525 = .ok (.iaload, 1) := by decide +kernel
theorem dL_law_526 : decode cL_law 526 = .ok (.invokevirtual 56, 3) := by decide +kernel
theorem dL_law_529 : decode cL_law 529 = .ok (.if_icmp .eq 858, 3) := by decide +kernel
theorem dL_law_534 : decode cL_law 534 = .ok (.aload_n 1, 1) := by decide +kernel
theorem dL_law_535 : decode cL_law 535 = .ok (.aload_n 0, 1) := by decide +kernel
theorem dL_law_536 : decode cL_law 536 = .ok (.iload_n 3, 1) := by decide +kernel
theorem dL_law_537 : decode cL_law 537 = .ok (.iconst 1, 1) := by decide +kernel
theorem dL_law_538 : decode cL_law 538 = .ok (.iadd, 1) := by decide +kernel
theorem dL_law_539 : decode cL_law 539 = .ok (.iaload, 1) := by decide +kernel
theorem dL_law_540 : decode cL_law 540 = .ok (.invokevirtual 57, 3) := by decide +kernel
theorem dL_law_543 : decode cL_law 543 = .ok (.aload_n 2, 1) := by decide +kernel
theorem dL_law_544 : decode cL_law 544 = .ok (.aload_n 0, 1) := by decide +kernel
theorem dL_law_545 : decode cL_law 545 = .ok (.iload_n 3, 1) := by decide +kernel
theorem dL_law_546 : decode cL_law 546 = .ok (.iconst 1, 1) := by decide +kernel
theorem dL_law_547 : decode cL_law 547 = .ok (.iadd, 1) := by decide +kernel
theorem dL_law_548 : decode cL_law 548 = .ok (.iaload, 1) := by decide +kernel
theorem dL_law_549 : decode cL_law 549 = .ok (.invokevirtual 60, 3) := by decide +kernel
theorem dL_law_552 : decode cL_law 552 = .ok (.if_icmp .eq 835, 3) := by decide +kernel
theorem dL_law_557 : decode cL_law 557 = .ok (.aload_n 1, 1) := by decide +kernel
theorem dL_law_558 : decode cL_law 558 = .ok (.aload_n 0, 1) := by decide +kernel
theorem dL_law_559 : decode cL_law 559 = .ok (.iload_n 3, 1) := by decide +kernel
theorem dL_law_560 : decode cL_law 560 = .ok (.iconst 1, 1) := by decide +kernel
theorem dL_law_561 : decode cL_law 561 = .ok (.iadd, 1) := by decide +kernel
theorem dL_law_562 : decode cL_law 562 = .ok (.iaload, 1) := by decide +kernel
theorem dL_law_563 : decode cL_law 563 = .ok (.aload_n 0, 1) := by decide +kernel
theorem dL_law_564 : decode cL_law 564 = .ok (.iload_n 3, 1) := by decide +kernel
theorem dL_law_565 : decode cL_law 565 = .ok (.iconst 2, 1) := by decide +kernel
theorem dL_law_566 : decode cL_law 566 = .ok (.iadd, 1) := by decide +kernel
theorem dL_law_567 : decode cL_law 567 = .ok (.iaload, 1) := by decide +kernel
theorem dL_law_568 : decode cL_law 568 = .ok (.invokevirtual 61, 3) := by decide +kernel
theorem dL_law_571 : decode cL_law 571 = .ok (.aload_n 2, 1) := by decide +kernel
theorem dL_law_572 : decode cL_law 572 = .ok (.aload_n 0, 1) := by decide +kernel
theorem dL_law_573 : decode cL_law 573 = .ok (.iload_n 3, 1) := by decide +kernel
theorem dL_law_574 : decode cL_law 574 = .ok (.iconst 1, 1) := by decide +kernel
theorem dL_law_575 : decode cL_law 575 = .ok (.iadd, 1) := by decide +kernel
theorem dL_law_576 : decode cL_law 576 = .ok (.iaload, 1) := by decide +kernel
theorem dL_law_577 : decode cL_law 577 = .ok (.aload_n 0, 1) := by decide +kernel
theorem dL_law_578 : decode cL_law 578 = .ok (.iload_n 3, 1) := by decide +kernel
theorem dL_law_579 : decode cL_law 579 = .ok (.iconst 2, 1) := by decide +kernel
theorem dL_law_580 : decode cL_law 580 = .ok (.iadd, 1) := by decide +kernel
theorem dL_law_581 : decode cL_law 581 = .ok (.iaload, 1) := by decide +kernel
theorem dL_law_582 : decode cL_law 582 = .ok (.invokevirtual 64, 3) := by decide +kernel
theorem dL_law_585 : decode cL_law 585 = .ok (.if_icmp .eq 802, 3) := by decide +kernel
theorem dL_law_590 : decode cL_law 590 = .ok (.aload_n 1, 1) := by decide +kernel
theorem dL_law_591 : decode cL_law 591 = .ok (.aload_n 0, 1) := by decide +kernel
theorem dL_law_592 : decode cL_law 592 = .ok (.iload_n 3, 1) := by decide +kernel
theorem dL_law_593 : decode cL_law 593 = .ok (.iconst 1, 1) := by decide +kernel
theorem dL_law_594 : decode cL_law 594 = .ok (.iadd, 1) := by decide +kernel
theorem dL_law_595 : decode cL_law 595 = .ok (.iaload, 1) := by decide +kernel
theorem dL_law_596 : decode cL_law 596 = .ok (.aload_n 0, 1) := by decide +kernel
theorem dL_law_597 : decode cL_law 597 = .ok (.iload_n 3, 1) := by decide +kernel
theorem dL_law_598 : decode cL_law 598 = .ok (.iconst 2, 1) := by decide +kernel
theorem dL_law_599 : decode cL_law 599 = .ok (.iadd, 1) := by decide +kernel
theorem dL_law_600 : decode cL_law 600 = .ok (.iaload, 1) := by decide +kernel
theorem dL_law_601 : decode cL_law 601 = .ok (.invokevirtual 65, 3) := by decide +kernel
theorem dL_law_604 : decode cL_law 604 = .ok (.aload_n 2, 1) := by decide +kernel
theorem dL_law_605 : decode cL_law 605 = .ok (.aload_n 0, 1) := by decide +kernel
theorem dL_law_606 : decode cL_law 606 = .ok (.iload_n 3, 1) := by decide +kernel
theorem dL_law_607 : decode cL_law 607 = .ok (.iconst 1, 1) := by decide +kernel
theorem dL_law_608 : decode cL_law 608 = .ok (.iadd, 1) := by decide +kernel
theorem dL_law_609 : decode cL_law 609 = .ok (.iaload, 1) := by decide +kernel
theorem dL_law_610 : decode cL_law 610 = .ok (.aload_n 0, 1) := by decide +kernel
theorem dL_law_611 : decode cL_law 611 = .ok (.iload_n 3, 1) := by decide +kernel
theorem dL_law_612 : decode cL_law 612 = .ok (.iconst 2, 1) := by decide +kernel
theorem dL_law_613 : decode cL_law 613 = .ok (.iadd, 1) := by decide +kernel
theorem dL_law_614 : decode cL_law 614 = .ok (.iaload, 1) := by decide +kernel
theorem dL_law_615 : decode cL_law 615 = .ok (.invokevirtual 68, 3) := by decide +kernel
theorem dL_law_618 : decode cL_law 618 = .ok (.if_icmp .eq 769, 3) := by decide +kernel
theorem dL_law_623 : decode cL_law 623 = .ok (.aload_n 1, 1) := by decide +kernel
theorem dL_law_624 : decode cL_law 624 = .ok (.aload_n 0, 1) := by decide +kernel
theorem dL_law_625 : decode cL_law 625 = .ok (.iload_n 3, 1) := by decide +kernel
theorem dL_law_626 : decode cL_law 626 = .ok (.iconst 1, 1) := by decide +kernel
theorem dL_law_627 : decode cL_law 627 = .ok (.iadd, 1) := by decide +kernel
theorem dL_law_628 : decode cL_law 628 = .ok (.iaload, 1) := by decide +kernel
theorem dL_law_629 : decode cL_law 629 = .ok (.invokevirtual 69, 3) := by decide +kernel
theorem dL_law_632 : decode cL_law 632 = .ok (.aload_n 2, 1) := by decide +kernel
theorem dL_law_633 : decode cL_law 633 = .ok (.aload_n 0, 1) := by decide +kernel
theorem dL_law_634 : decode cL_law 634 = .ok (.iload_n 3, 1) := by decide +kernel
theorem dL_law_635 : decode cL_law 635 = .ok (.iconst 1, 1) := by decide +kernel
theorem dL_law_636 : decode cL_law 636 = .ok (.iadd, 1) := by decide +kernel
theorem dL_law_637 : decode cL_law 637 = .ok (.iaload, 1) := by decide +kernel
theorem dL_law_638 : decode cL_law 638 = .ok (.invokevirtual 72, 3) := by decide +kernel
theorem dL_law_641 : decode cL_law 641 = .ok (.if_icmp .eq 746, 3) := by decide +kernel
theorem dL_law_646 : decode cL_law 646 = .ok (.aload_n 1, 1) := by decide +kernel
theorem dL_law_647 : decode cL_law 647 = .ok (.aload_n 0, 1) := by decide +kernel
theorem dL_law_648 : decode cL_law 648 = .ok (.iload_n 3, 1) := by decide +kernel
theorem dL_law_649 : decode cL_law 649 = .ok (.iconst 1, 1) := by decide +kernel
theorem dL_law_650 : decode cL_law 650 = .ok (.iadd, 1) := by decide +kernel
theorem dL_law_651 : decode cL_law 651 = .ok (.iaload, 1) := by decide +kernel
theorem dL_law_652 : decode cL_law 652 = .ok (.invokevirtual 73, 3) := by decide +kernel
theorem dL_law_655 : decode cL_law 655 = .ok (.aload_n 2, 1) := by decide +kernel
theorem dL_law_656 : decode cL_law 656 = .ok (.aload_n 0, 1) := by decide +kernel
theorem dL_law_657 : decode cL_law 657 = .ok (.iload_n 3, 1) := by decide +kernel
theorem dL_law_658 : decode cL_law 658 = .ok (.iconst 1, 1) := by decide +kernel
theorem dL_law_659 : decode cL_law 659 = .ok (.iadd, 1) := by decide +kernel
theorem dL_law_660 : decode cL_law 660 = .ok (.iaload, 1) := by decide +kernel
theorem dL_law_661 : decode cL_law 661 = .ok (.invokevirtual 76, 3) := by decide +kernel
theorem dL_law_664 : decode cL_law 664 = .ok (.if_icmp .eq 723, 3) := by decide +kernel
theorem dL_law_669 : decode cL_law 669 = .ok (.aload_n 1, 1) := by decide +kernel
theorem dL_law_670 : decode cL_law 670 = .ok (.aload_n 0, 1) := by decide +kernel
theorem dL_law_671 : decode cL_law 671 = .ok (.iload_n 3, 1) := by decide +kernel
theorem dL_law_672 : decode cL_law 672 = .ok (.iconst 1, 1) := by decide +kernel
theorem dL_law_673 : decode cL_law 673 = .ok (.iadd, 1) := by decide +kernel
theorem dL_law_674 : decode cL_law 674 = .ok (.iaload, 1) := by decide +kernel
theorem dL_law_675 : decode cL_law 675 = .ok (.aload_n 0, 1) := by decide +kernel
theorem dL_law_676 : decode cL_law 676 = .ok (.iload_n 3, 1) := by decide +kernel
theorem dL_law_677 : decode cL_law 677 = .ok (.iconst 2, 1) := by decide +kernel
theorem dL_law_678 : decode cL_law 678 = .ok (.iadd, 1) := by decide +kernel
theorem dL_law_679 : decode cL_law 679 = .ok (.iaload, 1) := by decide +kernel
theorem dL_law_680 : decode cL_law 680 = .ok (.invokevirtual 77, 3) := by decide +kernel
theorem dL_law_683 : decode cL_law 683 = .ok (.aload_n 2, 1) := by decide +kernel
theorem dL_law_684 : decode cL_law 684 = .ok (.aload_n 0, 1) := by decide +kernel
theorem dL_law_685 : decode cL_law 685 = .ok (.iload_n 3, 1) := by decide +kernel
theorem dL_law_686 : decode cL_law 686 = .ok (.iconst 1, 1) := by decide +kernel
theorem dL_law_687 : decode cL_law 687 = .ok (.iadd, 1) := by decide +kernel
theorem dL_law_688 : decode cL_law 688 = .ok (.iaload, 1) := by decide +kernel
theorem dL_law_689 : decode cL_law 689 = .ok (.aload_n 0, 1) := by decide +kernel
theorem dL_law_690 : decode cL_law 690 = .ok (.iload_n 3, 1) := by decide +kernel
theorem dL_law_691 : decode cL_law 691 = .ok (.iconst 2, 1) := by decide +kernel
theorem dL_law_692 : decode cL_law 692 = .ok (.iadd, 1) := by decide +kernel
theorem dL_law_693 : decode cL_law 693 = .ok (.iaload, 1) := by decide +kernel
theorem dL_law_694 : decode cL_law 694 = .ok (.invokevirtual 80, 3) := by decide +kernel
theorem dL_law_697 : decode cL_law 697 = .ok (.if_icmp .eq 690, 3) := by decide +kernel
theorem dL_law_702 : decode cL_law 702 = .ok (.aload_n 1, 1) := by decide +kernel
theorem dL_law_703 : decode cL_law 703 = .ok (.aload_n 0, 1) := by decide +kernel
theorem dL_law_704 : decode cL_law 704 = .ok (.iload_n 3, 1) := by decide +kernel
theorem dL_law_705 : decode cL_law 705 = .ok (.iconst 1, 1) := by decide +kernel
theorem dL_law_706 : decode cL_law 706 = .ok (.iadd, 1) := by decide +kernel
theorem dL_law_707 : decode cL_law 707 = .ok (.iaload, 1) := by decide +kernel
theorem dL_law_708 : decode cL_law 708 = .ok (.invokevirtual 81, 3) := by decide +kernel
theorem dL_law_711 : decode cL_law 711 = .ok (.aload_n 2, 1) := by decide +kernel
theorem dL_law_712 : decode cL_law 712 = .ok (.aload_n 0, 1) := by decide +kernel
theorem dL_law_713 : decode cL_law 713 = .ok (.iload_n 3, 1) := by decide +kernel
theorem dL_law_714 : decode cL_law 714 = .ok (.iconst 1, 1) := by decide +kernel
theorem dL_law_715 : decode cL_law 715 = .ok (.iadd, 1) := by decide +kernel
theorem dL_law_716 : decode cL_law 716 = .ok (.iaload, 1) := by decide +kernel
theorem dL_law_717 : decode cL_law 717 = .ok (.invokevirtual 84, 3) := by decide +kernel
theorem dL_law_720 : decode cL_law 720 = .ok (.if_icmp .eq 667, 3) := by decide +kernel
theorem dL_law_725 : decode cL_law 725 = .ok (.aload_n 1, 1) := by decide +kernel
theorem dL_law_726 : decode cL_law 726 = .ok (.aload_n 0, 1) := by decide +kernel
theorem dL_law_727 : decode cL_law 727 = .ok (.iload_n 3, 1) := by decide +kernel
theorem dL_law_728 : decode cL_law 728 = .ok (.iconst 1, 1) := by decide +kernel
theorem dL_law_729 : decode cL_law 729 = .ok (.iadd, 1) := by decide +kernel
theorem dL_law_730 : decode cL_law 730 = .ok (.iaload, 1) := by decide +kernel
theorem dL_law_731 : decode cL_law 731 = .ok (.invokevirtual 85, 3) := by decide +kernel
theorem dL_law_734 : decode cL_law 734 = .ok (.aload_n 2, 1) := by decide +kernel
theorem dL_law_735 : decode cL_law 735 = .ok (.aload_n 0, 1) := by decide +kernel
theorem dL_law_736 : decode cL_law 736 = .ok (.iload_n 3, 1) := by decide +kernel
theorem dL_law_737 : decode cL_law 737 = .ok (.iconst 1, 1) := by decide +kernel
theorem dL_law_738 : decode cL_law 738 = .ok (.iadd, 1) := by decide +kernel
theorem dL_law_739 : decode cL_law 739 = .ok (.iaload, 1) := by decide +kernel
theorem dL_law_740 : decode cL_law 740 = .ok (.invokevirtual 89, 3) := by decide +kernel
theorem dL_law_743 : decode cL_law 743 = .ok (.lcmp, 1) := by decide +kernel
theorem dL_law_744 : decode cL_law 744 = .ok (.ifCond .eq 643, 3) := by decide +kernel
theorem dL_law_749 : decode cL_law 749 = .ok (.aload_n 1, 1) := by decide +kernel
theorem dL_law_750 : decode cL_law 750 = .ok (.aload_n 0, 1) := by decide +kernel
theorem dL_law_751 : decode cL_law 751 = .ok (.iload_n 3, 1) := by decide +kernel
theorem dL_law_752 : decode cL_law 752 = .ok (.iconst 1, 1) := by decide +kernel
theorem dL_law_753 : decode cL_law 753 = .ok (.iadd, 1) := by decide +kernel
theorem dL_law_754 : decode cL_law 754 = .ok (.iaload, 1) := by decide +kernel
theorem dL_law_755 : decode cL_law 755 = .ok (.invokevirtual 90, 3) := by decide +kernel
theorem dL_law_758 : decode cL_law 758 = .ok (.aload_n 2, 1) := by decide +kernel
theorem dL_law_759 : decode cL_law 759 = .ok (.aload_n 0, 1) := by decide +kernel
theorem dL_law_760 : decode cL_law 760 = .ok (.iload_n 3, 1) := by decide +kernel
theorem dL_law_761 : decode cL_law 761 = .ok (.iconst 1, 1) := by decide +kernel
theorem dL_law_762 : decode cL_law 762 = .ok (.iadd, 1) := by decide +kernel
theorem dL_law_763 : decode cL_law 763 = .ok (.iaload, 1) := by decide +kernel
theorem dL_law_764 : decode cL_law 764 = .ok (.invokevirtual 93, 3) := by decide +kernel
theorem dL_law_767 : decode cL_law 767 = .ok (.if_icmp .eq 620, 3) := by decide +kernel
theorem dL_law_772 : decode cL_law 772 = .ok (.aload_n 1, 1) := by decide +kernel
theorem dL_law_773 : decode cL_law 773 = .ok (.aload_n 0, 1) := by decide +kernel
theorem dL_law_774 : decode cL_law 774 = .ok (.iload_n 3, 1) := by decide +kernel
theorem dL_law_775 : decode cL_law 775 = .ok (.iconst 1, 1) := by decide +kernel
theorem dL_law_776 : decode cL_law 776 = .ok (.iadd, 1) := by decide +kernel
theorem dL_law_777 : decode cL_law 777 = .ok (.iaload, 1) := by decide +kernel
theorem dL_law_778 : decode cL_law 778 = .ok (.invokevirtual 94, 3) := by decide +kernel
theorem dL_law_781 : decode cL_law 781 = .ok (.aload_n 2, 1) := by decide +kernel
theorem dL_law_782 : decode cL_law 782 = .ok (.aload_n 0, 1) := by decide +kernel
theorem dL_law_783 : decode cL_law 783 = .ok (.iload_n 3, 1) := by decide +kernel
theorem dL_law_784 : decode cL_law 784 = .ok (.iconst 1, 1) := by decide +kernel
theorem dL_law_785 : decode cL_law 785 = .ok (.iadd, 1) := by decide +kernel
theorem dL_law_786 : decode cL_law 786 = .ok (.iaload, 1) := by decide +kernel
theorem dL_law_787 : decode cL_law 787 = .ok (.invokevirtual 97, 3) := by decide +kernel
theorem dL_law_790 : decode cL_law 790 = .ok (.if_icmp .eq 597, 3) := by decide +kernel
theorem dL_law_795 : decode cL_law 795 = .ok (.aload_n 1, 1) := by decide +kernel
theorem dL_law_796 : decode cL_law 796 = .ok (.aload_n 0, 1) := by decide +kernel
theorem dL_law_797 : decode cL_law 797 = .ok (.iload_n 3, 1) := by decide +kernel
theorem dL_law_798 : decode cL_law 798 = .ok (.iconst 1, 1) := by decide +kernel
theorem dL_law_799 : decode cL_law 799 = .ok (.iadd, 1) := by decide +kernel
theorem dL_law_800 : decode cL_law 800 = .ok (.iaload, 1) := by decide +kernel
theorem dL_law_801 : decode cL_law 801 = .ok (.aload_n 0, 1) := by decide +kernel
theorem dL_law_802 : decode cL_law 802 = .ok (.iload_n 3, 1) := by decide +kernel
theorem dL_law_803 : decode cL_law 803 = .ok (.iconst 2, 1) := by decide +kernel
theorem dL_law_804 : decode cL_law 804 = .ok (.iadd, 1) := by decide +kernel
theorem dL_law_805 : decode cL_law 805 = .ok (.iaload, 1) := by decide +kernel
theorem dL_law_806 : decode cL_law 806 = .ok (.aload_n 0, 1) := by decide +kernel
theorem dL_law_807 : decode cL_law 807 = .ok (.iload_n 3, 1) := by decide +kernel
theorem dL_law_808 : decode cL_law 808 = .ok (.iconst 3, 1) := by decide +kernel
theorem dL_law_809 : decode cL_law 809 = .ok (.iadd, 1) := by decide +kernel
theorem dL_law_810 : decode cL_law 810 = .ok (.iaload, 1) := by decide +kernel
theorem dL_law_811 : decode cL_law 811 = .ok (.invokevirtual 98, 3) := by decide +kernel
theorem dL_law_814 : decode cL_law 814 = .ok (.aload_n 2, 1) := by decide +kernel
theorem dL_law_815 : decode cL_law 815 = .ok (.aload_n 0, 1) := by decide +kernel
theorem dL_law_816 : decode cL_law 816 = .ok (.iload_n 3, 1) := by decide +kernel
theorem dL_law_817 : decode cL_law 817 = .ok (.iconst 1, 1) := by decide +kernel
theorem dL_law_818 : decode cL_law 818 = .ok (.iadd, 1) := by decide +kernel
theorem dL_law_819 : decode cL_law 819 = .ok (.iaload, 1) := by decide +kernel
theorem dL_law_820 : decode cL_law 820 = .ok (.aload_n 0, 1) := by decide +kernel
theorem dL_law_821 : decode cL_law 821 = .ok (.iload_n 3, 1) := by decide +kernel
theorem dL_law_822 : decode cL_law 822 = .ok (.iconst 2, 1) := by decide +kernel
theorem dL_law_823 : decode cL_law 823 = .ok (.iadd, 1) := by decide +kernel
theorem dL_law_824 : decode cL_law 824 = .ok (.iaload, 1) := by decide +kernel
theorem dL_law_825 : decode cL_law 825 = .ok (.aload_n 0, 1) := by decide +kernel
theorem dL_law_826 : decode cL_law 826 = .ok (.iload_n 3, 1) := by decide +kernel
theorem dL_law_827 : decode cL_law 827 = .ok (.iconst 3, 1) := by decide +kernel
theorem dL_law_828 : decode cL_law 828 = .ok (.iadd, 1) := by decide +kernel
theorem dL_law_829 : decode cL_law 829 = .ok (.iaload, 1) := by decide +kernel
theorem dL_law_830 : decode cL_law 830 = .ok (.invokevirtual 101, 3) := by decide +kernel
theorem dL_law_833 : decode cL_law 833 = .ok (.if_icmp .eq 554, 3) := by decide +kernel
theorem dL_law_838 : decode cL_law 838 = .ok (.aload_n 1, 1) := by decide +kernel
theorem dL_law_839 : decode cL_law 839 = .ok (.aload_n 0, 1) := by decide +kernel
theorem dL_law_840 : decode cL_law 840 = .ok (.iload_n 3, 1) := by decide +kernel
theorem dL_law_841 : decode cL_law 841 = .ok (.iconst 1, 1) := by decide +kernel
theorem dL_law_842 : decode cL_law 842 = .ok (.iadd, 1) := by decide +kernel
theorem dL_law_843 : decode cL_law 843 = .ok (.iaload, 1) := by decide +kernel
theorem dL_law_844 : decode cL_law 844 = .ok (.invokevirtual 102, 3) := by decide +kernel
theorem dL_law_847 : decode cL_law 847 = .ok (.aload_n 2, 1) := by decide +kernel
theorem dL_law_848 : decode cL_law 848 = .ok (.aload_n 0, 1) := by decide +kernel
theorem dL_law_849 : decode cL_law 849 = .ok (.iload_n 3, 1) := by decide +kernel
theorem dL_law_850 : decode cL_law 850 = .ok (.iconst 1, 1) := by decide +kernel
theorem dL_law_851 : decode cL_law 851 = .ok (.iadd, 1) := by decide +kernel
theorem dL_law_852 : decode cL_law 852 = .ok (.iaload, 1) := by decide +kernel
theorem dL_law_853 : decode cL_law 853 = .ok (.invokevirtual 105, 3) := by decide +kernel
theorem dL_law_856 : decode cL_law 856 = .ok (.if_icmp .eq 531, 3) := by decide +kernel
theorem dL_law_861 : decode cL_law 861 = .ok (.aload_n 1, 1) := by decide +kernel
theorem dL_law_862 : decode cL_law 862 = .ok (.aload_n 0, 1) := by decide +kernel
theorem dL_law_863 : decode cL_law 863 = .ok (.iload_n 3, 1) := by decide +kernel
theorem dL_law_864 : decode cL_law 864 = .ok (.iconst 1, 1) := by decide +kernel
theorem dL_law_865 : decode cL_law 865 = .ok (.iadd, 1) := by decide +kernel
theorem dL_law_866 : decode cL_law 866 = .ok (.iaload, 1) := by decide +kernel
theorem dL_law_867 : decode cL_law 867 = .ok (.invokevirtual 106, 3) := by decide +kernel
theorem dL_law_870 : decode cL_law 870 = .ok (.aload_n 2, 1) := by decide +kernel
theorem dL_law_871 : decode cL_law 871 = .ok (.aload_n 0, 1) := by decide +kernel
theorem dL_law_872 : decode cL_law 872 = .ok (.iload_n 3, 1) := by decide +kernel
theorem dL_law_873 : decode cL_law 873 = .ok (.iconst 1, 1) := by decide +kernel
theorem dL_law_874 : decode cL_law 874 = .ok (.iadd, 1) := by decide +kernel
theorem dL_law_875 : decode cL_law 875 = .ok (.iaload, 1) := by decide +kernel
theorem dL_law_876 : decode cL_law 876 = .ok (.invokevirtual 109, 3) := by decide +kernel
theorem dL_law_879 : decode cL_law 879 = .ok (.if_icmp .eq 508, 3) := by decide +kernel
theorem dL_law_884 : decode cL_law 884 = .ok (.aload_n 1, 1) := by decide +kernel
theorem dL_law_885 : decode cL_law 885 = .ok (.aload_n 0, 1) := by decide +kernel
theorem dL_law_886 : decode cL_law 886 = .ok (.iload_n 3, 1) := by decide +kernel
theorem dL_law_887 : decode cL_law 887 = .ok (.iconst 1, 1) := by decide +kernel
theorem dL_law_888 : decode cL_law 888 = .ok (.iadd, 1) := by decide +kernel
theorem dL_law_889 : decode cL_law 889 = .ok (.iaload, 1) := by decide +kernel
theorem dL_law_890 : decode cL_law 890 = .ok (.invokevirtual 110, 3) := by decide +kernel
theorem dL_law_893 : decode cL_law 893 = .ok (.aload_n 2, 1) := by decide +kernel
theorem dL_law_894 : decode cL_law 894 = .ok (.aload_n 0, 1) := by decide +kernel
theorem dL_law_895 : decode cL_law 895 = .ok (.iload_n 3, 1) := by decide +kernel
theorem dL_law_896 : decode cL_law 896 = .ok (.iconst 1, 1) := by decide +kernel
theorem dL_law_897 : decode cL_law 897 = .ok (.iadd, 1) := by decide +kernel
theorem dL_law_898 : decode cL_law 898 = .ok (.iaload, 1) := by decide +kernel
theorem dL_law_899 : decode cL_law 899 = .ok (.invokevirtual 113, 3) := by decide +kernel
theorem dL_law_902 : decode cL_law 902 = .ok (.if_icmp .eq 485, 3) := by decide +kernel
theorem dL_law_907 : decode cL_law 907 = .ok (.aload_n 1, 1) := by decide +kernel
theorem dL_law_908 : decode cL_law 908 = .ok (.aload_n 0, 1) := by decide +kernel
theorem dL_law_909 : decode cL_law 909 = .ok (.iload_n 3, 1) := by decide +kernel
theorem dL_law_910 : decode cL_law 910 = .ok (.iconst 1, 1) := by decide +kernel
theorem dL_law_911 : decode cL_law 911 = .ok (.iadd, 1) := by decide +kernel
theorem dL_law_912 : decode cL_law 912 = .ok (.iaload, 1) := by decide +kernel
theorem dL_law_913 : decode cL_law 913 = .ok (.aload_n 0, 1) := by decide +kernel
theorem dL_law_914 : decode cL_law 914 = .ok (.iload_n 3, 1) := by decide +kernel
theorem dL_law_915 : decode cL_law 915 = .ok (.iconst 2, 1) := by decide +kernel
theorem dL_law_916 : decode cL_law 916 = .ok (.iadd, 1) := by decide +kernel
theorem dL_law_917 : decode cL_law 917 = .ok (.iaload, 1) := by decide +kernel
theorem dL_law_918 : decode cL_law 918 = .ok (.invokevirtual 114, 3) := by decide +kernel
theorem dL_law_921 : decode cL_law 921 = .ok (.aload_n 2, 1) := by decide +kernel
theorem dL_law_922 : decode cL_law 922 = .ok (.aload_n 0, 1) := by decide +kernel
theorem dL_law_923 : decode cL_law 923 = .ok (.iload_n 3, 1) := by decide +kernel
theorem dL_law_924 : decode cL_law 924 = .ok (.iconst 1, 1) := by decide +kernel
theorem dL_law_925 : decode cL_law 925 = .ok (.iadd, 1) := by decide +kernel
theorem dL_law_926 : decode cL_law 926 = .ok (.iaload, 1) := by decide +kernel
theorem dL_law_927 : decode cL_law 927 = .ok (.aload_n 0, 1) := by decide +kernel
theorem dL_law_928 : decode cL_law 928 = .ok (.iload_n 3, 1) := by decide +kernel
theorem dL_law_929 : decode cL_law 929 = .ok (.iconst 2, 1) := by decide +kernel
theorem dL_law_930 : decode cL_law 930 = .ok (.iadd, 1) := by decide +kernel
theorem dL_law_931 : decode cL_law 931 = .ok (.iaload, 1) := by decide +kernel
theorem dL_law_932 : decode cL_law 932 = .ok (.invokevirtual 117, 3) := by decide +kernel
theorem dL_law_935 : decode cL_law 935 = .ok (.if_icmp .eq 452, 3) := by decide +kernel
theorem dL_law_940 : decode cL_law 940 = .ok (.aload_n 1, 1) := by decide +kernel
theorem dL_law_941 : decode cL_law 941 = .ok (.aload_n 0, 1) := by decide +kernel
theorem dL_law_942 : decode cL_law 942 = .ok (.iload_n 3, 1) := by decide +kernel
theorem dL_law_943 : decode cL_law 943 = .ok (.iconst 1, 1) := by decide +kernel
theorem dL_law_944 : decode cL_law 944 = .ok (.iadd, 1) := by decide +kernel
theorem dL_law_945 : decode cL_law 945 = .ok (.iaload, 1) := by decide +kernel
theorem dL_law_946 : decode cL_law 946 = .ok (.aload_n 0, 1) := by decide +kernel
theorem dL_law_947 : decode cL_law 947 = .ok (.iload_n 3, 1) := by decide +kernel
theorem dL_law_948 : decode cL_law 948 = .ok (.iconst 2, 1) := by decide +kernel
theorem dL_law_949 : decode cL_law 949 = .ok (.iadd, 1) := by decide +kernel
theorem dL_law_950 : decode cL_law 950 = .ok (.iaload, 1) := by decide +kernel
theorem dL_law_951 : decode cL_law 951 = .ok (.invokevirtual 118, 3) := by decide +kernel
theorem dL_law_954 : decode cL_law 954 = .ok (.aload_n 2, 1) := by decide +kernel
theorem dL_law_955 : decode cL_law 955 = .ok (.aload_n 0, 1) := by decide +kernel
theorem dL_law_956 : decode cL_law 956 = .ok (.iload_n 3, 1) := by decide +kernel
theorem dL_law_957 : decode cL_law 957 = .ok (.iconst 1, 1) := by decide +kernel
theorem dL_law_958 : decode cL_law 958 = .ok (.iadd, 1) := by decide +kernel
theorem dL_law_959 : decode cL_law 959 = .ok (.iaload, 1) := by decide +kernel
theorem dL_law_960 : decode cL_law 960 = .ok (.aload_n 0, 1) := by decide +kernel
theorem dL_law_961 : decode cL_law 961 = .ok (.iload_n 3, 1) := by decide +kernel
theorem dL_law_962 : decode cL_law 962 = .ok (.iconst 2, 1) := by decide +kernel
theorem dL_law_963 : decode cL_law 963 = .ok (.iadd, 1) := by decide +kernel
theorem dL_law_964 : decode cL_law 964 = .ok (.iaload, 1) := by decide +kernel
theorem dL_law_965 : decode cL_law 965 = .ok (.invokevirtual 121, 3) := by decide +kernel
theorem dL_law_968 : decode cL_law 968 = .ok (.if_icmp .eq 419, 3) := by decide +kernel
theorem dL_law_973 : decode cL_law 973 = .ok (.aload_n 1, 1) := by decide +kernel
theorem dL_law_974 : decode cL_law 974 = .ok (.aload_n 0, 1) := by decide +kernel
theorem dL_law_975 : decode cL_law 975 = .ok (.iload_n 3, 1) := by decide +kernel
theorem dL_law_976 : decode cL_law 976 = .ok (.iconst 1, 1) := by decide +kernel
theorem dL_law_977 : decode cL_law 977 = .ok (.iadd, 1) := by decide +kernel
theorem dL_law_978 : decode cL_law 978 = .ok (.iaload, 1) := by decide +kernel
theorem dL_law_979 : decode cL_law 979 = .ok (.invokevirtual 122, 3) := by decide +kernel
theorem dL_law_982 : decode cL_law 982 = .ok (.aload_n 2, 1) := by decide +kernel
theorem dL_law_983 : decode cL_law 983 = .ok (.aload_n 0, 1) := by decide +kernel
theorem dL_law_984 : decode cL_law 984 = .ok (.iload_n 3, 1) := by decide +kernel
theorem dL_law_985 : decode cL_law 985 = .ok (.iconst 1, 1) := by decide +kernel
theorem dL_law_986 : decode cL_law 986 = .ok (.iadd, 1) := by decide +kernel
theorem dL_law_987 : decode cL_law 987 = .ok (.iaload, 1) := by decide +kernel
theorem dL_law_988 : decode cL_law 988 = .ok (.invokevirtual 125, 3) := by decide +kernel
theorem dL_law_991 : decode cL_law 991 = .ok (.if_icmp .eq 396, 3) := by decide +kernel
theorem dL_law_996 : decode cL_law 996 = .ok (.aload_n 1, 1) := by decide +kernel
theorem dL_law_997 : decode cL_law 997 = .ok (.aload_n 0, 1) := by decide +kernel
theorem dL_law_998 : decode cL_law 998 = .ok (.iload_n 3, 1) := by decide +kernel
theorem dL_law_999 : decode cL_law 999 = .ok (.iconst 1, 1) := by decide +kernel
theorem dL_law_1000 : decode cL_law 1000 = .ok (.iadd, 1) := by decide +kernel
theorem dL_law_1001 : decode cL_law 1001 = .ok (.iaload, 1) := by decide +kernel
theorem dL_law_1002 : decode cL_law 1002 = .ok (.invokevirtual 126, 3) := by decide +kernel
theorem dL_law_1005 : decode cL_law 1005 = .ok (.aload_n 2, 1) := by decide +kernel
theorem dL_law_1006 : decode cL_law 1006 = .ok (.aload_n 0, 1) := by decide +kernel
theorem dL_law_1007 : decode cL_law 1007 = .ok (.iload_n 3, 1) := by decide +kernel
theorem dL_law_1008 : decode cL_law 1008 = .ok (.iconst 1, 1) := by decide +kernel
theorem dL_law_1009 : decode cL_law 1009 = .ok (.iadd, 1) := by decide +kernel
theorem dL_law_1010 : decode cL_law 1010 = .ok (.iaload, 1) := by decide +kernel
theorem dL_law_1011 : decode cL_law 1011 = .ok (.invokevirtual 129, 3) := by decide +kernel
theorem dL_law_1014 : decode cL_law 1014 = .ok (.if_icmp .eq 373, 3) := by decide +kernel
theorem dL_law_1019 : decode cL_law 1019 = .ok (.aload_n 1, 1) := by decide +kernel
theorem dL_law_1020 : decode cL_law 1020 = .ok (.aload_n 0, 1) := by decide +kernel
theorem dL_law_1021 : decode cL_law 1021 = .ok (.iload_n 3, 1) := by decide +kernel
theorem dL_law_1022 : decode cL_law 1022 = .ok (.iconst 1, 1) := by decide +kernel
theorem dL_law_1023 : decode cL_law 1023 = .ok (.iadd, 1) := by decide +kernel
theorem dL_law_1024 : decode cL_law 1024 = .ok (.iaload, 1) := by decide +kernel
theorem dL_law_1025 : decode cL_law 1025 = .ok (.invokevirtual 130, 3) := by decide +kernel
theorem dL_law_1028 : decode cL_law 1028 = .ok (.aload_n 2, 1) := by decide +kernel
theorem dL_law_1029 : decode cL_law 1029 = .ok (.aload_n 0, 1) := by decide +kernel
theorem dL_law_1030 : decode cL_law 1030 = .ok (.iload_n 3, 1) := by decide +kernel
theorem dL_law_1031 : decode cL_law 1031 = .ok (.iconst 1, 1) := by decide +kernel
theorem dL_law_1032 : decode cL_law 1032 = .ok (.iadd, 1) := by decide +kernel
theorem dL_law_1033 : decode cL_law 1033 = .ok (.iaload, 1) := by decide +kernel
theorem dL_law_1034 : decode cL_law 1034 = .ok (.invokevirtual 133, 3) := by decide +kernel
theorem dL_law_1037 : decode cL_law 1037 = .ok (.if_icmp .eq 350, 3) := by decide +kernel
theorem dL_law_1042 : decode cL_law 1042 = .ok (.aload_n 1, 1) := by decide +kernel
theorem dL_law_1043 : decode cL_law 1043 = .ok (.invokevirtual 134, 3) := by decide +kernel
theorem dL_law_1046 : decode cL_law 1046 = .ok (.aload_n 2, 1) := by decide +kernel
theorem dL_law_1047 : decode cL_law 1047 = .ok (.invokevirtual 138, 3) := by decide +kernel
theorem dL_law_1050 : decode cL_law 1050 = .ok (.if_icmp .eq 337, 3) := by decide +kernel
theorem dL_law_1055 : decode cL_law 1055 = .ok (.aload_n 1, 1) := by decide +kernel
theorem dL_law_1056 : decode cL_law 1056 = .ok (.aload_n 0, 1) := by decide +kernel
theorem dL_law_1057 : decode cL_law 1057 = .ok (.iload_n 3, 1) := by decide +kernel
theorem dL_law_1058 : decode cL_law 1058 = .ok (.iconst 1, 1) := by decide +kernel
theorem dL_law_1059 : decode cL_law 1059 = .ok (.iadd, 1) := by decide +kernel
theorem dL_law_1060 : decode cL_law 1060 = .ok (.iaload, 1) := by decide +kernel
theorem dL_law_1061 : decode cL_law 1061 = .ok (.invokevirtual 139, 3) := by decide +kernel
theorem dL_law_1064 : decode cL_law 1064 = .ok (.aload_n 2, 1) := by decide +kernel
theorem dL_law_1065 : decode cL_law 1065 = .ok (.aload_n 0, 1) := by decide +kernel
theorem dL_law_1066 : decode cL_law 1066 = .ok (.iload_n 3, 1) := by decide +kernel
theorem dL_law_1067 : decode cL_law 1067 = .ok (.iconst 1, 1) := by decide +kernel
theorem dL_law_1068 : decode cL_law 1068 = .ok (.iadd, 1) := by decide +kernel
theorem dL_law_1069 : decode cL_law 1069 = .ok (.iaload, 1) := by decide +kernel
theorem dL_law_1070 : decode cL_law 1070 = .ok (.invokevirtual 142, 3) := by decide +kernel
theorem dL_law_1073 : decode cL_law 1073 = .ok (.if_icmp .eq 314, 3) := by decide +kernel
theorem dL_law_1078 : decode cL_law 1078 = .ok (.aload_n 1, 1) := by decide +kernel
theorem dL_law_1079 : decode cL_law 1079 = .ok (.aload_n 0, 1) := by decide +kernel
theorem dL_law_1080 : decode cL_law 1080 = .ok (.iload_n 3, 1) := by decide +kernel
theorem dL_law_1081 : decode cL_law 1081 = .ok (.iconst 1, 1) := by decide +kernel
theorem dL_law_1082 : decode cL_law 1082 = .ok (.iadd, 1) := by decide +kernel
theorem dL_law_1083 : decode cL_law 1083 = .ok (.iaload, 1) := by decide +kernel
theorem dL_law_1084 : decode cL_law 1084 = .ok (.invokevirtual 143, 3) := by decide +kernel
theorem dL_law_1087 : decode cL_law 1087 = .ok (.aload_n 2, 1) := by decide +kernel
theorem dL_law_1088 : decode cL_law 1088 = .ok (.aload_n 0, 1) := by decide +kernel
theorem dL_law_1089 : decode cL_law 1089 = .ok (.iload_n 3, 1) := by decide +kernel
theorem dL_law_1090 : decode cL_law 1090 = .ok (.iconst 1, 1) := by decide +kernel
theorem dL_law_1091 : decode cL_law 1091 = .ok (.iadd, 1) := by decide +kernel
theorem dL_law_1092 : decode cL_law 1092 = .ok (.iaload, 1) := by decide +kernel
theorem dL_law_1093 : decode cL_law 1093 = .ok (.invokevirtual 146, 3) := by decide +kernel
theorem dL_law_1096 : decode cL_law 1096 = .ok (.if_icmp .eq 291, 3) := by decide +kernel
theorem dL_law_1101 : decode cL_law 1101 = .ok (.aload_n 1, 1) := by decide +kernel
theorem dL_law_1102 : decode cL_law 1102 = .ok (.aload_n 0, 1) := by decide +kernel
theorem dL_law_1103 : decode cL_law 1103 = .ok (.iload_n 3, 1) := by decide +kernel
theorem dL_law_1104 : decode cL_law 1104 = .ok (.iconst 1, 1) := by decide +kernel
theorem dL_law_1105 : decode cL_law 1105 = .ok (.iadd, 1) := by decide +kernel
theorem dL_law_1106 : decode cL_law 1106 = .ok (.iaload, 1) := by decide +kernel
theorem dL_law_1107 : decode cL_law 1107 = .ok (.invokevirtual 147, 3) := by decide +kernel
theorem dL_law_1110 : decode cL_law 1110 = .ok (.aload_n 2, 1) := by decide +kernel
theorem dL_law_1111 : decode cL_law 1111 = .ok (.aload_n 0, 1) := by decide +kernel
theorem dL_law_1112 : decode cL_law 1112 = .ok (.iload_n 3, 1) := by decide +kernel
theorem dL_law_1113 : decode cL_law 1113 = .ok (.iconst 1, 1) := by decide +kernel
theorem dL_law_1114 : decode cL_law 1114 = .ok (.iadd, 1) := by decide +kernel
theorem dL_law_1115 : decode cL_law 1115 = .ok (.iaload, 1) := by decide +kernel
theorem dL_law_1116 : decode cL_law 1116 = .ok (.invokevirtual 150, 3) := by decide +kernel
theorem dL_law_1119 : decode cL_law 1119 = .ok (.if_icmp .eq 268, 3) := by decide +kernel
theorem dL_law_1124 : decode cL_law 1124 = .ok (.aload_n 1, 1) := by decide +kernel
theorem dL_law_1125 : decode cL_law 1125 = .ok (.aload_n 0, 1) := by decide +kernel
theorem dL_law_1126 : decode cL_law 1126 = .ok (.iload_n 3, 1) := by decide +kernel
theorem dL_law_1127 : decode cL_law 1127 = .ok (.iconst 1, 1) := by decide +kernel
theorem dL_law_1128 : decode cL_law 1128 = .ok (.iadd, 1) := by decide +kernel
theorem dL_law_1129 : decode cL_law 1129 = .ok (.iaload, 1) := by decide +kernel
theorem dL_law_1130 : decode cL_law 1130 = .ok (.invokevirtual 151, 3) := by decide +kernel
theorem dL_law_1133 : decode cL_law 1133 = .ok (.aload_n 2, 1) := by decide +kernel
theorem dL_law_1134 : decode cL_law 1134 = .ok (.aload_n 0, 1) := by decide +kernel
theorem dL_law_1135 : decode cL_law 1135 = .ok (.iload_n 3, 1) := by decide +kernel
theorem dL_law_1136 : decode cL_law 1136 = .ok (.iconst 1, 1) := by decide +kernel
theorem dL_law_1137 : decode cL_law 1137 = .ok (.iadd, 1) := by decide +kernel
theorem dL_law_1138 : decode cL_law 1138 = .ok (.iaload, 1) := by decide +kernel
theorem dL_law_1139 : decode cL_law 1139 = .ok (.invokevirtual 154, 3) := by decide +kernel
theorem dL_law_1142 : decode cL_law 1142 = .ok (.if_icmp .eq 245, 3) := by decide +kernel
theorem dL_law_1147 : decode cL_law 1147 = .ok (.aload_n 1, 1) := by decide +kernel
theorem dL_law_1148 : decode cL_law 1148 = .ok (.aload_n 0, 1) := by decide +kernel
theorem dL_law_1149 : decode cL_law 1149 = .ok (.iload_n 3, 1) := by decide +kernel
theorem dL_law_1150 : decode cL_law 1150 = .ok (.iconst 1, 1) := by decide +kernel
theorem dL_law_1151 : decode cL_law 1151 = .ok (.iadd, 1) := by decide +kernel
theorem dL_law_1152 : decode cL_law 1152 = .ok (.iaload, 1) := by decide +kernel
theorem dL_law_1153 : decode cL_law 1153 = .ok (.invokevirtual 155, 3) := by decide +kernel
theorem dL_law_1156 : decode cL_law 1156 = .ok (.aload_n 2, 1) := by decide +kernel
theorem dL_law_1157 : decode cL_law 1157 = .ok (.aload_n 0, 1) := by decide +kernel
theorem dL_law_1158 : decode cL_law 1158 = .ok (.iload_n 3, 1) := by decide +kernel
theorem dL_law_1159 : decode cL_law 1159 = .ok (.iconst 1, 1) := by decide +kernel
theorem dL_law_1160 : decode cL_law 1160 = .ok (.iadd, 1) := by decide +kernel
theorem dL_law_1161 : decode cL_law 1161 = .ok (.iaload, 1) := by decide +kernel
theorem dL_law_1162 : decode cL_law 1162 = .ok (.invokevirtual 158, 3) := by decide +kernel
theorem dL_law_1165 : decode cL_law 1165 = .ok (.if_icmp .eq 222, 3) := by decide +kernel
theorem dL_law_1170 : decode cL_law 1170 = .ok (.aload_n 1, 1) := by decide +kernel
theorem dL_law_1171 : decode cL_law 1171 = .ok (.aload_n 0, 1) := by decide +kernel
theorem dL_law_1172 : decode cL_law 1172 = .ok (.iload_n 3, 1) := by decide +kernel
theorem dL_law_1173 : decode cL_law 1173 = .ok (.iconst 1, 1) := by decide +kernel
theorem dL_law_1174 : decode cL_law 1174 = .ok (.iadd, 1) := by decide +kernel
theorem dL_law_1175 : decode cL_law 1175 = .ok (.iaload, 1) := by decide +kernel
theorem dL_law_1176 : decode cL_law 1176 = .ok (.invokevirtual 159, 3) := by decide +kernel
theorem dL_law_1179 : decode cL_law 1179 = .ok (.aload_n 2, 1) := by decide +kernel
theorem dL_law_1180 : decode cL_law 1180 = .ok (.aload_n 0, 1) := by decide +kernel
theorem dL_law_1181 : decode cL_law 1181 = .ok (.iload_n 3, 1) := by decide +kernel
theorem dL_law_1182 : decode cL_law 1182 = .ok (.iconst 1, 1) := by decide +kernel
theorem dL_law_1183 : decode cL_law 1183 = .ok (.iadd, 1) := by decide +kernel
theorem dL_law_1184 : decode cL_law 1184 = .ok (.iaload, 1) := by decide +kernel
theorem dL_law_1185 : decode cL_law 1185 = .ok (.invokevirtual 162, 3) := by decide +kernel
theorem dL_law_1188 : decode cL_law 1188 = .ok (.if_icmp .eq 199, 3) := by decide +kernel
theorem dL_law_1193 : decode cL_law 1193 = .ok (.aload_n 1, 1) := by decide +kernel
theorem dL_law_1194 : decode cL_law 1194 = .ok (.aload_n 0, 1) := by decide +kernel
theorem dL_law_1195 : decode cL_law 1195 = .ok (.iload_n 3, 1) := by decide +kernel
theorem dL_law_1196 : decode cL_law 1196 = .ok (.iconst 1, 1) := by decide +kernel
theorem dL_law_1197 : decode cL_law 1197 = .ok (.iadd, 1) := by decide +kernel
theorem dL_law_1198 : decode cL_law 1198 = .ok (.iaload, 1) := by decide +kernel
theorem dL_law_1199 : decode cL_law 1199 = .ok (.invokevirtual 163, 3) := by decide +kernel
theorem dL_law_1202 : decode cL_law 1202 = .ok (.aload_n 2, 1) := by decide +kernel
theorem dL_law_1203 : decode cL_law 1203 = .ok (.aload_n 0, 1) := by decide +kernel
theorem dL_law_1204 : decode cL_law 1204 = .ok (.iload_n 3, 1) := by decide +kernel
theorem dL_law_1205 : decode cL_law 1205 = .ok (.iconst 1, 1) := by decide +kernel
theorem dL_law_1206 : decode cL_law 1206 = .ok (.iadd, 1) := by decide +kernel
theorem dL_law_1207 : decode cL_law 1207 = .ok (.iaload, 1) := by decide +kernel
theorem dL_law_1208 : decode cL_law 1208 = .ok (.invokevirtual 166, 3) := by decide +kernel
theorem dL_law_1211 : decode cL_law 1211 = .ok (.if_icmp .eq 176, 3) := by decide +kernel
theorem dL_law_1216 : decode cL_law 1216 = .ok (.aload_n 1, 1) := by decide +kernel
theorem dL_law_1217 : decode cL_law 1217 = .ok (.aload_n 0, 1) := by decide +kernel
theorem dL_law_1218 : decode cL_law 1218 = .ok (.iload_n 3, 1) := by decide +kernel
theorem dL_law_1219 : decode cL_law 1219 = .ok (.iconst 1, 1) := by decide +kernel
theorem dL_law_1220 : decode cL_law 1220 = .ok (.iadd, 1) := by decide +kernel
theorem dL_law_1221 : decode cL_law 1221 = .ok (.iaload, 1) := by decide +kernel
theorem dL_law_1222 : decode cL_law 1222 = .ok (.invokevirtual 167, 3) := by decide +kernel
theorem dL_law_1225 : decode cL_law 1225 = .ok (.aload_n 2, 1) := by decide +kernel
theorem dL_law_1226 : decode cL_law 1226 = .ok (.aload_n 0, 1) := by decide +kernel
theorem dL_law_1227 : decode cL_law 1227 = .ok (.iload_n 3, 1) := by decide +kernel
theorem dL_law_1228 : decode cL_law 1228 = .ok (.iconst 1, 1) := by decide +kernel
theorem dL_law_1229 : decode cL_law 1229 = .ok (.iadd, 1) := by decide +kernel
theorem dL_law_1230 : decode cL_law 1230 = .ok (.iaload, 1) := by decide +kernel
theorem dL_law_1231 : decode cL_law 1231 = .ok (.invokevirtual 170, 3) := by decide +kernel
theorem dL_law_1234 : decode cL_law 1234 = .ok (.if_icmp .eq 153, 3) := by decide +kernel
theorem dL_law_1239 : decode cL_law 1239 = .ok (.aload_n 1, 1) := by decide +kernel
theorem dL_law_1240 : decode cL_law 1240 = .ok (.aload_n 0, 1) := by decide +kernel
theorem dL_law_1241 : decode cL_law 1241 = .ok (.iload_n 3, 1) := by decide +kernel
theorem dL_law_1242 : decode cL_law 1242 = .ok (.iconst 1, 1) := by decide +kernel
theorem dL_law_1243 : decode cL_law 1243 = .ok (.iadd, 1) := by decide +kernel
theorem dL_law_1244 : decode cL_law 1244 = .ok (.iaload, 1) := by decide +kernel
theorem dL_law_1245 : decode cL_law 1245 = .ok (.aload_n 0, 1) := by decide +kernel
theorem dL_law_1246 : decode cL_law 1246 = .ok (.iload_n 3, 1) := by decide +kernel
theorem dL_law_1247 : decode cL_law 1247 = .ok (.iconst 2, 1) := by decide +kernel
theorem dL_law_1248 : decode cL_law 1248 = .ok (.iadd, 1) := by decide +kernel
theorem dL_law_1249 : decode cL_law 1249 = .ok (.iaload, 1) := by decide +kernel
theorem dL_law_1250 : decode cL_law 1250 = .ok (.invokevirtual 171, 3) := by decide +kernel
theorem dL_law_1253 : decode cL_law 1253 = .ok (.aload_n 2, 1) := by decide +kernel
theorem dL_law_1254 : decode cL_law 1254 = .ok (.aload_n 0, 1) := by decide +kernel
theorem dL_law_1255 : decode cL_law 1255 = .ok (.iload_n 3, 1) := by decide +kernel
theorem dL_law_1256 : decode cL_law 1256 = .ok (.iconst 1, 1) := by decide +kernel
theorem dL_law_1257 : decode cL_law 1257 = .ok (.iadd, 1) := by decide +kernel
theorem dL_law_1258 : decode cL_law 1258 = .ok (.iaload, 1) := by decide +kernel
theorem dL_law_1259 : decode cL_law 1259 = .ok (.aload_n 0, 1) := by decide +kernel
theorem dL_law_1260 : decode cL_law 1260 = .ok (.iload_n 3, 1) := by decide +kernel
theorem dL_law_1261 : decode cL_law 1261 = .ok (.iconst 2, 1) := by decide +kernel
theorem dL_law_1262 : decode cL_law 1262 = .ok (.iadd, 1) := by decide +kernel
theorem dL_law_1263 : decode cL_law 1263 = .ok (.iaload, 1) := by decide +kernel
theorem dL_law_1264 : decode cL_law 1264 = .ok (.invokevirtual 174, 3) := by decide +kernel
theorem dL_law_1267 : decode cL_law 1267 = .ok (.if_icmp .eq 120, 3) := by decide +kernel
theorem dL_law_1272 : decode cL_law 1272 = .ok (.aload_n 1, 1) := by decide +kernel
theorem dL_law_1273 : decode cL_law 1273 = .ok (.aload_n 0, 1) := by decide +kernel
theorem dL_law_1274 : decode cL_law 1274 = .ok (.iload_n 3, 1) := by decide +kernel
theorem dL_law_1275 : decode cL_law 1275 = .ok (.iconst 1, 1) := by decide +kernel
theorem dL_law_1276 : decode cL_law 1276 = .ok (.iadd, 1) := by decide +kernel
theorem dL_law_1277 : decode cL_law 1277 = .ok (.iaload, 1) := by decide +kernel
theorem dL_law_1278 : decode cL_law 1278 = .ok (.invokevirtual 175, 3) := by decide +kernel
theorem dL_law_1281 : decode cL_law 1281 = .ok (.aload_n 2, 1) := by decide +kernel
theorem dL_law_1282 : decode cL_law 1282 = .ok (.aload_n 0, 1) := by decide +kernel
theorem dL_law_1283 : decode cL_law 1283 = .ok (.iload_n 3, 1) := by decide +kernel
theorem dL_law_1284 : decode cL_law 1284 = .ok (.iconst 1, 1) := by decide +kernel
theorem dL_law_1285 : decode cL_law 1285 = .ok (.iadd, 1) := by decide +kernel
theorem dL_law_1286 : decode cL_law 1286 = .ok (.iaload, 1) := by decide +kernel
theorem dL_law_1287 : decode cL_law 1287 = .ok (.invokevirtual 178, 3) := by decide +kernel
theorem dL_law_1290 : decode cL_law 1290 = .ok (.if_icmp .eq 97, 3) := by decide +kernel
theorem dL_law_1295 : decode cL_law 1295 = .ok (.aload_n 1, 1) := by decide +kernel
theorem dL_law_1296 : decode cL_law 1296 = .ok (.aload_n 0, 1) := by decide +kernel
theorem dL_law_1297 : decode cL_law 1297 = .ok (.iload_n 3, 1) := by decide +kernel
theorem dL_law_1298 : decode cL_law 1298 = .ok (.iconst 1, 1) := by decide +kernel
theorem dL_law_1299 : decode cL_law 1299 = .ok (.iadd, 1) := by decide +kernel
theorem dL_law_1300 : decode cL_law 1300 = .ok (.iaload, 1) := by decide +kernel
theorem dL_law_1301 : decode cL_law 1301 = .ok (.invokevirtual 179, 3) := by decide +kernel
theorem dL_law_1304 : decode cL_law 1304 = .ok (.aload_n 2, 1) := by decide +kernel
theorem dL_law_1305 : decode cL_law 1305 = .ok (.aload_n 0, 1) := by decide +kernel
theorem dL_law_1306 : decode cL_law 1306 = .ok (.iload_n 3, 1) := by decide +kernel
theorem dL_law_1307 : decode cL_law 1307 = .ok (.iconst 1, 1) := by decide +kernel
theorem dL_law_1308 : decode cL_law 1308 = .ok (.iadd, 1) := by decide +kernel
theorem dL_law_1309 : decode cL_law 1309 = .ok (.iaload, 1) := by decide +kernel
theorem dL_law_1310 : decode cL_law 1310 = .ok (.invokevirtual 182, 3) := by decide +kernel
theorem dL_law_1313 : decode cL_law 1313 = .ok (.if_icmp .eq 74, 3) := by decide +kernel
theorem dL_law_1318 : decode cL_law 1318 = .ok (.aload_n 1, 1) := by decide +kernel
theorem dL_law_1319 : decode cL_law 1319 = .ok (.aload_n 0, 1) := by decide +kernel
theorem dL_law_1320 : decode cL_law 1320 = .ok (.iload_n 3, 1) := by decide +kernel
theorem dL_law_1321 : decode cL_law 1321 = .ok (.iconst 1, 1) := by decide +kernel
theorem dL_law_1322 : decode cL_law 1322 = .ok (.iadd, 1) := by decide +kernel
theorem dL_law_1323 : decode cL_law 1323 = .ok (.iaload, 1) := by decide +kernel
theorem dL_law_1324 : decode cL_law 1324 = .ok (.invokevirtual 183, 3) := by decide +kernel
theorem dL_law_1327 : decode cL_law 1327 = .ok (.aload_n 2, 1) := by decide +kernel
theorem dL_law_1328 : decode cL_law 1328 = .ok (.aload_n 0, 1) := by decide +kernel
theorem dL_law_1329 : decode cL_law 1329 = .ok (.iload_n 3, 1) := by decide +kernel
theorem dL_law_1330 : decode cL_law 1330 = .ok (.iconst 1, 1) := by decide +kernel
theorem dL_law_1331 : decode cL_law 1331 = .ok (.iadd, 1) := by decide +kernel
theorem dL_law_1332 : decode cL_law 1332 = .ok (.iaload, 1) := by decide +kernel
theorem dL_law_1333 : decode cL_law 1333 = .ok (.invokevirtual 186, 3) := by decide +kernel
theorem dL_law_1336 : decode cL_law 1336 = .ok (.if_icmp .eq 51, 3) := by decide +kernel
theorem dL_law_1341 : decode cL_law 1341 = .ok (.aload_n 1, 1) := by decide +kernel
theorem dL_law_1342 : decode cL_law 1342 = .ok (.aload_n 0, 1) := by decide +kernel
theorem dL_law_1343 : decode cL_law 1343 = .ok (.iload_n 3, 1) := by decide +kernel
theorem dL_law_1344 : decode cL_law 1344 = .ok (.iconst 1, 1) := by decide +kernel
theorem dL_law_1345 : decode cL_law 1345 = .ok (.iadd, 1) := by decide +kernel
theorem dL_law_1346 : decode cL_law 1346 = .ok (.iaload, 1) := by decide +kernel
theorem dL_law_1347 : decode cL_law 1347 = .ok (.invokevirtual 187, 3) := by decide +kernel
theorem dL_law_1350 : decode cL_law 1350 = .ok (.aload_n 2, 1) := by decide +kernel
theorem dL_law_1351 : decode cL_law 1351 = .ok (.aload_n 0, 1) := by decide +kernel
theorem dL_law_1352 : decode cL_law 1352 = .ok (.iload_n 3, 1) := by decide +kernel
theorem dL_law_1353 : decode cL_law 1353 = .ok (.iconst 1, 1) := by decide +kernel
theorem dL_law_1354 : decode cL_law 1354 = .ok (.iadd, 1) := by decide +kernel
theorem dL_law_1355 : decode cL_law 1355 = .ok (.iaload, 1) := by decide +kernel
theorem dL_law_1356 : decode cL_law 1356 = .ok (.invokevirtual 190, 3) := by decide +kernel
theorem dL_law_1359 : decode cL_law 1359 = .ok (.if_icmp .eq 28, 3) := by decide +kernel
theorem dL_law_1364 : decode cL_law 1364 = .ok (.aload_n 1, 1) := by decide +kernel
theorem dL_law_1365 : decode cL_law 1365 = .ok (.aload_n 0, 1) := by decide +kernel
theorem dL_law_1366 : decode cL_law 1366 = .ok (.iload_n 3, 1) := by decide +kernel
theorem dL_law_1367 : decode cL_law 1367 = .ok (.iconst 1, 1) := by decide +kernel
theorem dL_law_1368 : decode cL_law 1368 = .ok (.iadd, 1) := by decide +kernel
theorem dL_law_1369 : decode cL_law 1369 = .ok (.iaload, 1) := by decide +kernel
theorem dL_law_1370 : decode cL_law 1370 = .ok (.invokevirtual 191, 3) := by decide +kernel
theorem dL_law_1373 : decode cL_law 1373 = .ok (.aload_n 2, 1) := by decide +kernel
theorem dL_law_1374 : decode cL_law 1374 = .ok (.aload_n 0, 1) := by decide +kernel
theorem dL_law_1375 : decode cL_law 1375 = .ok (.iload_n 3, 1) := by decide +kernel
theorem dL_law_1376 : decode cL_law 1376 = .ok (.iconst 1, 1) := by decide +kernel
theorem dL_law_1377 : decode cL_law 1377 = .ok (.iadd, 1) := by decide +kernel
theorem dL_law_1378 : decode cL_law 1378 = .ok (.iaload, 1) := by decide +kernel
theorem dL_law_1379 : decode cL_law 1379 = .ok (.invokevirtual 194, 3) := by decide +kernel
theorem dL_law_1382 : decode cL_law 1382 = .ok (.if_icmp .eq 5, 3) := by decide +kernel
theorem hd_X8_alike : yX8_alike.cls = RX8 ∧ yX8_alike.cls ≠ "java/lang/invoke/MethodHandle" ∧ yX8_alike.cls ≠ "java/lang/invoke/VarHandle" ∧ (parseMethodDescriptor yX8_alike.desc).map (fun d => d.parameters.length) = some 1 := by decide +kernel
theorem hd_X8_answer : yX8_answer.cls = RX8 ∧ yX8_answer.cls ≠ "java/lang/invoke/MethodHandle" ∧ yX8_answer.cls ≠ "java/lang/invoke/VarHandle" ∧ (parseMethodDescriptor yX8_answer.desc).map (fun d => d.parameters.length) = some 1 := by decide +kernel
theorem hd_X8_batch : yX8_batch.cls = RX8 ∧ yX8_batch.cls ≠ "java/lang/invoke/MethodHandle" ∧ yX8_batch.cls ≠ "java/lang/invoke/VarHandle" ∧ (parseMethodDescriptor yX8_batch.desc).map (fun d => d.parameters.length) = some 1 := by decide +kernel
theorem hd_X8_best : yX8_best.cls = RX8 ∧ yX8_best.cls ≠ "java/lang/invoke/MethodHandle" ∧ yX8_best.cls ≠ "java/lang/invoke/VarHandle" ∧ (parseMethodDescriptor yX8_best.desc).map (fun d => d.parameters.length) = some 1 := by decide +kernel
theorem hd_X8_between : yX8_between.cls = RX8 ∧ yX8_between.cls ≠ "java/lang/invoke/MethodHandle" ∧ yX8_between.cls ≠ "java/lang/invoke/VarHandle" ∧ (parseMethodDescriptor yX8_between.desc).map (fun d => d.parameters.length) = some 2 := by decide +kernel
theorem hd_X8_bucket : yX8_bucket.cls = RX8 ∧ yX8_bucket.cls ≠ "java/lang/invoke/MethodHandle" ∧ yX8_bucket.cls ≠ "java/lang/invoke/VarHandle" ∧ (parseMethodDescriptor yX8_bucket.desc).map (fun d => d.parameters.length) = some 2 := by decide +kernel
theorem hd_X8_clear : yX8_clear.cls = RX8 ∧ yX8_clear.cls ≠ "java/lang/invoke/MethodHandle" ∧ yX8_clear.cls ≠ "java/lang/invoke/VarHandle" ∧ (parseMethodDescriptor yX8_clear.desc).map (fun d => d.parameters.length) = some 1 := by decide +kernel
theorem hd_X8_close : yX8_close.cls = RX8 ∧ yX8_close.cls ≠ "java/lang/invoke/MethodHandle" ∧ yX8_close.cls ≠ "java/lang/invoke/VarHandle" ∧ (parseMethodDescriptor yX8_close.desc).map (fun d => d.parameters.length) = some 1 := by decide +kernel
theorem hd_X8_count : yX8_count.cls = RX8 ∧ yX8_count.cls ≠ "java/lang/invoke/MethodHandle" ∧ yX8_count.cls ≠ "java/lang/invoke/VarHandle" ∧ (parseMethodDescriptor yX8_count.desc).map (fun d => d.parameters.length) = some 1 := by decide +kernel
theorem hd_X8_diff : yX8_diff.cls = RX8 ∧ yX8_diff.cls ≠ "java/lang/invoke/MethodHandle" ∧ yX8_diff.cls ≠ "java/lang/invoke/VarHandle" ∧ (parseMethodDescriptor yX8_diff.desc).map (fun d => d.parameters.length) = some 2 := by decide +kernel
theorem hd_X8_fault : yX8_fault.cls = RX8 ∧ yX8_fault.cls ≠ "java/lang/invoke/MethodHandle" ∧ yX8_fault.cls ≠ "java/lang/invoke/VarHandle" ∧ (parseMethodDescriptor yX8_fault.desc).map (fun d => d.parameters.length) = some 1 := by decide +kernel
theorem hd_X8_feed : yX8_feed.cls = RX8 ∧ yX8_feed.cls ≠ "java/lang/invoke/MethodHandle" ∧ yX8_feed.cls ≠ "java/lang/invoke/VarHandle" ∧ (parseMethodDescriptor yX8_feed.desc).map (fun d => d.parameters.length) = some 5 := by decide +kernel
theorem hd_X8_get : yX8_get.cls = RX8 ∧ yX8_get.cls ≠ "java/lang/invoke/MethodHandle" ∧ yX8_get.cls ≠ "java/lang/invoke/VarHandle" ∧ (parseMethodDescriptor yX8_get.desc).map (fun d => d.parameters.length) = some 2 := by decide +kernel
theorem hd_X8_groups : yX8_groups.cls = RX8 ∧ yX8_groups.cls ≠ "java/lang/invoke/MethodHandle" ∧ yX8_groups.cls ≠ "java/lang/invoke/VarHandle" ∧ (parseMethodDescriptor yX8_groups.desc).map (fun d => d.parameters.length) = some 2 := by decide +kernel
theorem hd_X8_hash : yX8_hash.cls = RX8 ∧ yX8_hash.cls ≠ "java/lang/invoke/MethodHandle" ∧ yX8_hash.cls ≠ "java/lang/invoke/VarHandle" ∧ (parseMethodDescriptor yX8_hash.desc).map (fun d => d.parameters.length) = some 1 := by decide +kernel
theorem hd_X8_image : yX8_image.cls = RX8 ∧ yX8_image.cls ≠ "java/lang/invoke/MethodHandle" ∧ yX8_image.cls ≠ "java/lang/invoke/VarHandle" ∧ (parseMethodDescriptor yX8_image.desc).map (fun d => d.parameters.length) = some 1 := by decide +kernel
theorem hd_X8_index : yX8_index.cls = RX8 ∧ yX8_index.cls ≠ "java/lang/invoke/MethodHandle" ∧ yX8_index.cls ≠ "java/lang/invoke/VarHandle" ∧ (parseMethodDescriptor yX8_index.desc).map (fun d => d.parameters.length) = some 1 := by decide +kernel
theorem hd_X8_keys : yX8_keys.cls = RX8 ∧ yX8_keys.cls ≠ "java/lang/invoke/MethodHandle" ∧ yX8_keys.cls ≠ "java/lang/invoke/VarHandle" ∧ (parseMethodDescriptor yX8_keys.desc).map (fun d => d.parameters.length) = some 1 := by decide +kernel
theorem hd_X8_left : yX8_left.cls = RX8 ∧ yX8_left.cls ≠ "java/lang/invoke/MethodHandle" ∧ yX8_left.cls ≠ "java/lang/invoke/VarHandle" ∧ (parseMethodDescriptor yX8_left.desc).map (fun d => d.parameters.length) = some 1 := by decide +kernel
theorem hd_X8_next : yX8_next.cls = RX8 ∧ yX8_next.cls ≠ "java/lang/invoke/MethodHandle" ∧ yX8_next.cls ≠ "java/lang/invoke/VarHandle" ∧ (parseMethodDescriptor yX8_next.desc).map (fun d => d.parameters.length) = some 1 := by decide +kernel
theorem hd_X8_open : yX8_open.cls = RX8 ∧ yX8_open.cls ≠ "java/lang/invoke/MethodHandle" ∧ yX8_open.cls ≠ "java/lang/invoke/VarHandle" ∧ (parseMethodDescriptor yX8_open.desc).map (fun d => d.parameters.length) = some 3 := by decide +kernel
theorem hd_X8_packs : yX8_packs.cls = RX8 ∧ yX8_packs.cls ≠ "java/lang/invoke/MethodHandle" ∧ yX8_packs.cls ≠ "java/lang/invoke/VarHandle" ∧ (parseMethodDescriptor yX8_packs.desc).map (fun d => d.parameters.length) = some 1 := by decide +kernel
theorem hd_X8_page : yX8_page.cls = RX8 ∧ yX8_page.cls ≠ "java/lang/invoke/MethodHandle" ∧ yX8_page.cls ≠ "java/lang/invoke/VarHandle" ∧ (parseMethodDescriptor yX8_page.desc).map (fun d => d.parameters.length) = some 2 := by decide +kernel
theorem hd_X8_put : yX8_put.cls = RX8 ∧ yX8_put.cls ≠ "java/lang/invoke/MethodHandle" ∧ yX8_put.cls ≠ "java/lang/invoke/VarHandle" ∧ (parseMethodDescriptor yX8_put.desc).map (fun d => d.parameters.length) = some 2 := by decide +kernel
theorem hd_X8_remove : yX8_remove.cls = RX8 ∧ yX8_remove.cls ≠ "java/lang/invoke/MethodHandle" ∧ yX8_remove.cls ≠ "java/lang/invoke/VarHandle" ∧ (parseMethodDescriptor yX8_remove.desc).map (fun d => d.parameters.length) = some 1 := by decide +kernel
theorem hd_X8_restore : yX8_restore.cls = RX8 ∧ yX8_restore.cls ≠ "java/lang/invoke/MethodHandle" ∧ yX8_restore.cls ≠ "java/lang/invoke/VarHandle" ∧ (parseMethodDescriptor yX8_restore.desc).map (fun d => d.parameters.length) = some 1 := by decide +kernel
theorem hd_X8_roll : yX8_roll.cls = RX8 ∧ yX8_roll.cls ≠ "java/lang/invoke/MethodHandle" ∧ yX8_roll.cls ≠ "java/lang/invoke/VarHandle" ∧ (parseMethodDescriptor yX8_roll.desc).map (fun d => d.parameters.length) = some 1 := by decide +kernel
theorem hd_X8_room : yX8_room.cls = RX8 ∧ yX8_room.cls ≠ "java/lang/invoke/MethodHandle" ∧ yX8_room.cls ≠ "java/lang/invoke/VarHandle" ∧ (parseMethodDescriptor yX8_room.desc).map (fun d => d.parameters.length) = some 1 := by decide +kernel
theorem hd_X8_seek : yX8_seek.cls = RX8 ∧ yX8_seek.cls ≠ "java/lang/invoke/MethodHandle" ∧ yX8_seek.cls ≠ "java/lang/invoke/VarHandle" ∧ (parseMethodDescriptor yX8_seek.desc).map (fun d => d.parameters.length) = some 1 := by decide +kernel
theorem hd_X8_snap : yX8_snap.cls = RX8 ∧ yX8_snap.cls ≠ "java/lang/invoke/MethodHandle" ∧ yX8_snap.cls ≠ "java/lang/invoke/VarHandle" ∧ (parseMethodDescriptor yX8_snap.desc).map (fun d => d.parameters.length) = some 1 := by decide +kernel
theorem hd_X8_space : yX8_space.cls = RX8 ∧ yX8_space.cls ≠ "java/lang/invoke/MethodHandle" ∧ yX8_space.cls ≠ "java/lang/invoke/VarHandle" ∧ (parseMethodDescriptor yX8_space.desc).map (fun d => d.parameters.length) = some 1 := by decide +kernel
theorem hd_X8_sum : yX8_sum.cls = RX8 ∧ yX8_sum.cls ≠ "java/lang/invoke/MethodHandle" ∧ yX8_sum.cls ≠ "java/lang/invoke/VarHandle" ∧ (parseMethodDescriptor yX8_sum.desc).map (fun d => d.parameters.length) = some 1 := by decide +kernel
theorem hd_X8_sure : yX8_sure.cls = RX8 ∧ yX8_sure.cls ≠ "java/lang/invoke/MethodHandle" ∧ yX8_sure.cls ≠ "java/lang/invoke/VarHandle" ∧ (parseMethodDescriptor yX8_sure.desc).map (fun d => d.parameters.length) = some 1 := by decide +kernel
theorem hd_X8_sweep : yX8_sweep.cls = RX8 ∧ yX8_sweep.cls ≠ "java/lang/invoke/MethodHandle" ∧ yX8_sweep.cls ≠ "java/lang/invoke/VarHandle" ∧ (parseMethodDescriptor yX8_sweep.desc).map (fun d => d.parameters.length) = some 1 := by decide +kernel
theorem hd_X8_terms : yX8_terms.cls = RX8 ∧ yX8_terms.cls ≠ "java/lang/invoke/MethodHandle" ∧ yX8_terms.cls ≠ "java/lang/invoke/VarHandle" ∧ (parseMethodDescriptor yX8_terms.desc).map (fun d => d.parameters.length) = some 2 := by decide +kernel
theorem hd_X8_trim : yX8_trim.cls = RX8 ∧ yX8_trim.cls ≠ "java/lang/invoke/MethodHandle" ∧ yX8_trim.cls ≠ "java/lang/invoke/VarHandle" ∧ (parseMethodDescriptor yX8_trim.desc).map (fun d => d.parameters.length) = some 0 := by decide +kernel
theorem hd_X8_trimmed : yX8_trimmed.cls = RX8 ∧ yX8_trimmed.cls ≠ "java/lang/invoke/MethodHandle" ∧ yX8_trimmed.cls ≠ "java/lang/invoke/VarHandle" ∧ (parseMethodDescriptor yX8_trimmed.desc).map (fun d => d.parameters.length) = some 1 := by decide +kernel
theorem hd_X8_undo : yX8_undo.cls = RX8 ∧ yX8_undo.cls ≠ "java/lang/invoke/MethodHandle" ∧ yX8_undo.cls ≠ "java/lang/invoke/VarHandle" ∧ (parseMethodDescriptor yX8_undo.desc).map (fun d => d.parameters.length) = some 1 := by decide +kernel
theorem hd_X8_unsnap : yX8_unsnap.cls = RX8 ∧ yX8_unsnap.cls ≠ "java/lang/invoke/MethodHandle" ∧ yX8_unsnap.cls ≠ "java/lang/invoke/VarHandle" ∧ (parseMethodDescriptor yX8_unsnap.desc).map (fun d => d.parameters.length) = some 1 := by decide +kernel
theorem hd_X8_version : yX8_version.cls = RX8 ∧ yX8_version.cls ≠ "java/lang/invoke/MethodHandle" ∧ yX8_version.cls ≠ "java/lang/invoke/VarHandle" ∧ (parseMethodDescriptor yX8_version.desc).map (fun d => d.parameters.length) = some 3 := by decide +kernel
theorem hd_X8_versions : yX8_versions.cls = RX8 ∧ yX8_versions.cls ≠ "java/lang/invoke/MethodHandle" ∧ yX8_versions.cls ≠ "java/lang/invoke/VarHandle" ∧ (parseMethodDescriptor yX8_versions.desc).map (fun d => d.parameters.length) = some 1 := by decide +kernel
theorem hd_X8_victim : yX8_victim.cls = RX8 ∧ yX8_victim.cls ≠ "java/lang/invoke/MethodHandle" ∧ yX8_victim.cls ≠ "java/lang/invoke/VarHandle" ∧ (parseMethodDescriptor yX8_victim.desc).map (fun d => d.parameters.length) = some 1 := by decide +kernel
theorem hd_X8_wear : yX8_wear.cls = RX8 ∧ yX8_wear.cls ≠ "java/lang/invoke/MethodHandle" ∧ yX8_wear.cls ≠ "java/lang/invoke/VarHandle" ∧ (parseMethodDescriptor yX8_wear.desc).map (fun d => d.parameters.length) = some 1 := by decide +kernel
theorem hd_X8_would : yX8_would.cls = RX8 ∧ yX8_would.cls ≠ "java/lang/invoke/MethodHandle" ∧ yX8_would.cls ≠ "java/lang/invoke/VarHandle" ∧ (parseMethodDescriptor yX8_would.desc).map (fun d => d.parameters.length) = some 1 := by decide +kernel
theorem hd_X9_alike : yX9_alike.cls = RX9 ∧ yX9_alike.cls ≠ "java/lang/invoke/MethodHandle" ∧ yX9_alike.cls ≠ "java/lang/invoke/VarHandle" ∧ (parseMethodDescriptor yX9_alike.desc).map (fun d => d.parameters.length) = some 1 := by decide +kernel
theorem hd_X9_answer : yX9_answer.cls = RX9 ∧ yX9_answer.cls ≠ "java/lang/invoke/MethodHandle" ∧ yX9_answer.cls ≠ "java/lang/invoke/VarHandle" ∧ (parseMethodDescriptor yX9_answer.desc).map (fun d => d.parameters.length) = some 1 := by decide +kernel
theorem hd_X9_batch : yX9_batch.cls = RX9 ∧ yX9_batch.cls ≠ "java/lang/invoke/MethodHandle" ∧ yX9_batch.cls ≠ "java/lang/invoke/VarHandle" ∧ (parseMethodDescriptor yX9_batch.desc).map (fun d => d.parameters.length) = some 1 := by decide +kernel
theorem hd_X9_best : yX9_best.cls = RX9 ∧ yX9_best.cls ≠ "java/lang/invoke/MethodHandle" ∧ yX9_best.cls ≠ "java/lang/invoke/VarHandle" ∧ (parseMethodDescriptor yX9_best.desc).map (fun d => d.parameters.length) = some 1 := by decide +kernel
theorem hd_X9_between : yX9_between.cls = RX9 ∧ yX9_between.cls ≠ "java/lang/invoke/MethodHandle" ∧ yX9_between.cls ≠ "java/lang/invoke/VarHandle" ∧ (parseMethodDescriptor yX9_between.desc).map (fun d => d.parameters.length) = some 2 := by decide +kernel
theorem hd_X9_bucket : yX9_bucket.cls = RX9 ∧ yX9_bucket.cls ≠ "java/lang/invoke/MethodHandle" ∧ yX9_bucket.cls ≠ "java/lang/invoke/VarHandle" ∧ (parseMethodDescriptor yX9_bucket.desc).map (fun d => d.parameters.length) = some 2 := by decide +kernel
theorem hd_X9_clear : yX9_clear.cls = RX9 ∧ yX9_clear.cls ≠ "java/lang/invoke/MethodHandle" ∧ yX9_clear.cls ≠ "java/lang/invoke/VarHandle" ∧ (parseMethodDescriptor yX9_clear.desc).map (fun d => d.parameters.length) = some 1 := by decide +kernel
theorem hd_X9_close : yX9_close.cls = RX9 ∧ yX9_close.cls ≠ "java/lang/invoke/MethodHandle" ∧ yX9_close.cls ≠ "java/lang/invoke/VarHandle" ∧ (parseMethodDescriptor yX9_close.desc).map (fun d => d.parameters.length) = some 1 := by decide +kernel
theorem hd_X9_count : yX9_count.cls = RX9 ∧ yX9_count.cls ≠ "java/lang/invoke/MethodHandle" ∧ yX9_count.cls ≠ "java/lang/invoke/VarHandle" ∧ (parseMethodDescriptor yX9_count.desc).map (fun d => d.parameters.length) = some 1 := by decide +kernel
theorem hd_X9_diff : yX9_diff.cls = RX9 ∧ yX9_diff.cls ≠ "java/lang/invoke/MethodHandle" ∧ yX9_diff.cls ≠ "java/lang/invoke/VarHandle" ∧ (parseMethodDescriptor yX9_diff.desc).map (fun d => d.parameters.length) = some 2 := by decide +kernel
theorem hd_X9_fault : yX9_fault.cls = RX9 ∧ yX9_fault.cls ≠ "java/lang/invoke/MethodHandle" ∧ yX9_fault.cls ≠ "java/lang/invoke/VarHandle" ∧ (parseMethodDescriptor yX9_fault.desc).map (fun d => d.parameters.length) = some 1 := by decide +kernel
theorem hd_X9_feed : yX9_feed.cls = RX9 ∧ yX9_feed.cls ≠ "java/lang/invoke/MethodHandle" ∧ yX9_feed.cls ≠ "java/lang/invoke/VarHandle" ∧ (parseMethodDescriptor yX9_feed.desc).map (fun d => d.parameters.length) = some 5 := by decide +kernel
theorem hd_X9_get : yX9_get.cls = RX9 ∧ yX9_get.cls ≠ "java/lang/invoke/MethodHandle" ∧ yX9_get.cls ≠ "java/lang/invoke/VarHandle" ∧ (parseMethodDescriptor yX9_get.desc).map (fun d => d.parameters.length) = some 2 := by decide +kernel
theorem hd_X9_groups : yX9_groups.cls = RX9 ∧ yX9_groups.cls ≠ "java/lang/invoke/MethodHandle" ∧ yX9_groups.cls ≠ "java/lang/invoke/VarHandle" ∧ (parseMethodDescriptor yX9_groups.desc).map (fun d => d.parameters.length) = some 2 := by decide +kernel
theorem hd_X9_hash : yX9_hash.cls = RX9 ∧ yX9_hash.cls ≠ "java/lang/invoke/MethodHandle" ∧ yX9_hash.cls ≠ "java/lang/invoke/VarHandle" ∧ (parseMethodDescriptor yX9_hash.desc).map (fun d => d.parameters.length) = some 1 := by decide +kernel
theorem hd_X9_image : yX9_image.cls = RX9 ∧ yX9_image.cls ≠ "java/lang/invoke/MethodHandle" ∧ yX9_image.cls ≠ "java/lang/invoke/VarHandle" ∧ (parseMethodDescriptor yX9_image.desc).map (fun d => d.parameters.length) = some 1 := by decide +kernel
theorem hd_X9_index : yX9_index.cls = RX9 ∧ yX9_index.cls ≠ "java/lang/invoke/MethodHandle" ∧ yX9_index.cls ≠ "java/lang/invoke/VarHandle" ∧ (parseMethodDescriptor yX9_index.desc).map (fun d => d.parameters.length) = some 1 := by decide +kernel
theorem hd_X9_keys : yX9_keys.cls = RX9 ∧ yX9_keys.cls ≠ "java/lang/invoke/MethodHandle" ∧ yX9_keys.cls ≠ "java/lang/invoke/VarHandle" ∧ (parseMethodDescriptor yX9_keys.desc).map (fun d => d.parameters.length) = some 1 := by decide +kernel
theorem hd_X9_left : yX9_left.cls = RX9 ∧ yX9_left.cls ≠ "java/lang/invoke/MethodHandle" ∧ yX9_left.cls ≠ "java/lang/invoke/VarHandle" ∧ (parseMethodDescriptor yX9_left.desc).map (fun d => d.parameters.length) = some 1 := by decide +kernel
theorem hd_X9_next : yX9_next.cls = RX9 ∧ yX9_next.cls ≠ "java/lang/invoke/MethodHandle" ∧ yX9_next.cls ≠ "java/lang/invoke/VarHandle" ∧ (parseMethodDescriptor yX9_next.desc).map (fun d => d.parameters.length) = some 1 := by decide +kernel
theorem hd_X9_open : yX9_open.cls = RX9 ∧ yX9_open.cls ≠ "java/lang/invoke/MethodHandle" ∧ yX9_open.cls ≠ "java/lang/invoke/VarHandle" ∧ (parseMethodDescriptor yX9_open.desc).map (fun d => d.parameters.length) = some 3 := by decide +kernel
theorem hd_X9_packs : yX9_packs.cls = RX9 ∧ yX9_packs.cls ≠ "java/lang/invoke/MethodHandle" ∧ yX9_packs.cls ≠ "java/lang/invoke/VarHandle" ∧ (parseMethodDescriptor yX9_packs.desc).map (fun d => d.parameters.length) = some 1 := by decide +kernel
theorem hd_X9_page : yX9_page.cls = RX9 ∧ yX9_page.cls ≠ "java/lang/invoke/MethodHandle" ∧ yX9_page.cls ≠ "java/lang/invoke/VarHandle" ∧ (parseMethodDescriptor yX9_page.desc).map (fun d => d.parameters.length) = some 2 := by decide +kernel
theorem hd_X9_put : yX9_put.cls = RX9 ∧ yX9_put.cls ≠ "java/lang/invoke/MethodHandle" ∧ yX9_put.cls ≠ "java/lang/invoke/VarHandle" ∧ (parseMethodDescriptor yX9_put.desc).map (fun d => d.parameters.length) = some 2 := by decide +kernel
theorem hd_X9_remove : yX9_remove.cls = RX9 ∧ yX9_remove.cls ≠ "java/lang/invoke/MethodHandle" ∧ yX9_remove.cls ≠ "java/lang/invoke/VarHandle" ∧ (parseMethodDescriptor yX9_remove.desc).map (fun d => d.parameters.length) = some 1 := by decide +kernel
theorem hd_X9_restore : yX9_restore.cls = RX9 ∧ yX9_restore.cls ≠ "java/lang/invoke/MethodHandle" ∧ yX9_restore.cls ≠ "java/lang/invoke/VarHandle" ∧ (parseMethodDescriptor yX9_restore.desc).map (fun d => d.parameters.length) = some 1 := by decide +kernel
theorem hd_X9_roll : yX9_roll.cls = RX9 ∧ yX9_roll.cls ≠ "java/lang/invoke/MethodHandle" ∧ yX9_roll.cls ≠ "java/lang/invoke/VarHandle" ∧ (parseMethodDescriptor yX9_roll.desc).map (fun d => d.parameters.length) = some 1 := by decide +kernel
theorem hd_X9_room : yX9_room.cls = RX9 ∧ yX9_room.cls ≠ "java/lang/invoke/MethodHandle" ∧ yX9_room.cls ≠ "java/lang/invoke/VarHandle" ∧ (parseMethodDescriptor yX9_room.desc).map (fun d => d.parameters.length) = some 1 := by decide +kernel
theorem hd_X9_seek : yX9_seek.cls = RX9 ∧ yX9_seek.cls ≠ "java/lang/invoke/MethodHandle" ∧ yX9_seek.cls ≠ "java/lang/invoke/VarHandle" ∧ (parseMethodDescriptor yX9_seek.desc).map (fun d => d.parameters.length) = some 1 := by decide +kernel
theorem hd_X9_snap : yX9_snap.cls = RX9 ∧ yX9_snap.cls ≠ "java/lang/invoke/MethodHandle" ∧ yX9_snap.cls ≠ "java/lang/invoke/VarHandle" ∧ (parseMethodDescriptor yX9_snap.desc).map (fun d => d.parameters.length) = some 1 := by decide +kernel
theorem hd_X9_space : yX9_space.cls = RX9 ∧ yX9_space.cls ≠ "java/lang/invoke/MethodHandle" ∧ yX9_space.cls ≠ "java/lang/invoke/VarHandle" ∧ (parseMethodDescriptor yX9_space.desc).map (fun d => d.parameters.length) = some 1 := by decide +kernel
theorem hd_X9_sum : yX9_sum.cls = RX9 ∧ yX9_sum.cls ≠ "java/lang/invoke/MethodHandle" ∧ yX9_sum.cls ≠ "java/lang/invoke/VarHandle" ∧ (parseMethodDescriptor yX9_sum.desc).map (fun d => d.parameters.length) = some 1 := by decide +kernel
theorem hd_X9_sure : yX9_sure.cls = RX9 ∧ yX9_sure.cls ≠ "java/lang/invoke/MethodHandle" ∧ yX9_sure.cls ≠ "java/lang/invoke/VarHandle" ∧ (parseMethodDescriptor yX9_sure.desc).map (fun d => d.parameters.length) = some 1 := by decide +kernel
theorem hd_X9_sweep : yX9_sweep.cls = RX9 ∧ yX9_sweep.cls ≠ "java/lang/invoke/MethodHandle" ∧ yX9_sweep.cls ≠ "java/lang/invoke/VarHandle" ∧ (parseMethodDescriptor yX9_sweep.desc).map (fun d => d.parameters.length) = some 1 := by decide +kernel
theorem hd_X9_terms : yX9_terms.cls = RX9 ∧ yX9_terms.cls ≠ "java/lang/invoke/MethodHandle" ∧ yX9_terms.cls ≠ "java/lang/invoke/VarHandle" ∧ (parseMethodDescriptor yX9_terms.desc).map (fun d => d.parameters.length) = some 2 := by decide +kernel
theorem hd_X9_trim : yX9_trim.cls = RX9 ∧ yX9_trim.cls ≠ "java/lang/invoke/MethodHandle" ∧ yX9_trim.cls ≠ "java/lang/invoke/VarHandle" ∧ (parseMethodDescriptor yX9_trim.desc).map (fun d => d.parameters.length) = some 0 := by decide +kernel
theorem hd_X9_trimmed : yX9_trimmed.cls = RX9 ∧ yX9_trimmed.cls ≠ "java/lang/invoke/MethodHandle" ∧ yX9_trimmed.cls ≠ "java/lang/invoke/VarHandle" ∧ (parseMethodDescriptor yX9_trimmed.desc).map (fun d => d.parameters.length) = some 1 := by decide +kernel
theorem hd_X9_undo : yX9_undo.cls = RX9 ∧ yX9_undo.cls ≠ "java/lang/invoke/MethodHandle" ∧ yX9_undo.cls ≠ "java/lang/invoke/VarHandle" ∧ (parseMethodDescriptor yX9_undo.desc).map (fun d => d.parameters.length) = some 1 := by decide +kernel
theorem hd_X9_unsnap : yX9_unsnap.cls = RX9 ∧ yX9_unsnap.cls ≠ "java/lang/invoke/MethodHandle" ∧ yX9_unsnap.cls ≠ "java/lang/invoke/VarHandle" ∧ (parseMethodDescriptor yX9_unsnap.desc).map (fun d => d.parameters.length) = some 1 := by decide +kernel
theorem hd_X9_version : yX9_version.cls = RX9 ∧ yX9_version.cls ≠ "java/lang/invoke/MethodHandle" ∧ yX9_version.cls ≠ "java/lang/invoke/VarHandle" ∧ (parseMethodDescriptor yX9_version.desc).map (fun d => d.parameters.length) = some 3 := by decide +kernel
theorem hd_X9_versions : yX9_versions.cls = RX9 ∧ yX9_versions.cls ≠ "java/lang/invoke/MethodHandle" ∧ yX9_versions.cls ≠ "java/lang/invoke/VarHandle" ∧ (parseMethodDescriptor yX9_versions.desc).map (fun d => d.parameters.length) = some 1 := by decide +kernel
theorem hd_X9_victim : yX9_victim.cls = RX9 ∧ yX9_victim.cls ≠ "java/lang/invoke/MethodHandle" ∧ yX9_victim.cls ≠ "java/lang/invoke/VarHandle" ∧ (parseMethodDescriptor yX9_victim.desc).map (fun d => d.parameters.length) = some 1 := by decide +kernel
theorem hd_X9_wear : yX9_wear.cls = RX9 ∧ yX9_wear.cls ≠ "java/lang/invoke/MethodHandle" ∧ yX9_wear.cls ≠ "java/lang/invoke/VarHandle" ∧ (parseMethodDescriptor yX9_wear.desc).map (fun d => d.parameters.length) = some 1 := by decide +kernel
theorem hd_X9_would : yX9_would.cls = RX9 ∧ yX9_would.cls ≠ "java/lang/invoke/MethodHandle" ∧ yX9_would.cls ≠ "java/lang/invoke/VarHandle" ∧ (parseMethodDescriptor yX9_would.desc).map (fun d => d.parameters.length) = some 1 := by decide +kernel
set_option maxHeartbeats 4000000 in
set_option maxRecDepth 100000 in
theorem law_c0 {p : Program} {l : Launch} {e : Env} {s : State} {m : MethodId} {below : List Frame} {meth : Method} {c : Code} {b : Nat} {xs : Nat → Int32} {D : va_G} {cs : Nat → ClassId} (hx : p.tables.exec = Jvm.exec) (hb : c.code = code) (hr : meth.sig.returnType = ret) (hml : c.maxLocals = 4) (hown : s.vm.findClass RL = some m.cls) (hlocks : meth.locks = false) (hu : ∀ w ∈ U0, w.before #[Value.ref b] s = true) (hK : kK D cs s) (hX : va_X b 6 xs s s.heap) (hbl : b < s.heap.size) (kd md : Nat) (ua : Nat → Nat) (uf : Nat → Nat → Int32) (va : Nat → Nat) (vf : Nat → Nat → Int32) (u_f_pp6 : ∀ j, j < 240 → ¬ uf 0 j < 0 ∧ uf 0 j < 240) (u_f_drp6 : ∀ j, j < 240 → ¬ uf 1 j < 0 ∧ uf 1 j < 240) (u_f_spp6 : ∀ j, j < 240 → ¬ uf 4 j < 0 ∧ uf 4 j < 240) (h_f_drm1 : ∀ j, j < 7 → uf 3 j = -1) (h_f_spm1 : ∀ j, j < 7 → uf 6 j = -1) (kAL : ∀ j, j < 51207 → vf 0 j = AL j) (H : Heap) (locs : List Loc) (hP : va_P D vwCl (lwW cs kd md ua uf va vf) H) (hD : va_D (fun q : Nat => s.heap.size ≤ q) (lwW cs kd md ua uf va vf)) (hS : va_S (fun q : Nat => s.heap.size ≤ q) s.heap H locs) (ls : Array Slot) (hl : lv_has ls 4 [(3, .int 0), (2, .ref md), (1, .ref kd), (0, .ref b)]) : W p l e room_1 s m #[Value.ref b] below meth c H locs 97 262423 (lw_Z below #[Value.ref b] s) (F0 m 224 ls []) := by
  have hbA : ¬ (fun q : Nat => s.heap.size ≤ q) b := Nat.not_le.mpr hbl
  have hA : ∀ q : Nat, s.heap.size ≤ q → (fun q : Nat => s.heap.size ≤ q) q := fun _ h => h
  refine lv_aload_n hx hb dL_law_224 rfl (lv_at hl 2 rfl) ?_
  refine lv_aload_n hx hb dL_law_225 rfl (lv_at hl 3 rfl) ?_
  refine lv_iload_n hx hb dL_law_226 rfl (lv_at hl 0 rfl) ?_
  refine lv_iconst (v := 1) hx hb dL_law_227 (by decide) ?_
  refine lv_iadd hx hb dL_law_228 ?_
  refine tpi (y := 1) (by decide) ?_
  refine va_sld hx hb hX hbl hbA hS (vin_c _ _ rfl) dL_law_229 ?_
  refine tpi (y := xs 1) rfl ?_
  refine lv_aload_n hx hb dL_law_230 rfl (lv_at hl 3 rfl) ?_
  refine lv_iload_n hx hb dL_law_231 rfl (lv_at hl 0 rfl) ?_
  refine lv_iconst (v := 2) hx hb dL_law_232 (by decide) ?_
  refine lv_iadd hx hb dL_law_233 ?_
  refine tpi (y := 2) (by decide) ?_
  refine va_sld hx hb hX hbl hbA hS (vin_c _ _ rfl) dL_law_234 ?_
  refine tpi (y := xs 2) rfl ?_
  refine lv_aload_n hx hb dL_law_235 rfl (lv_at hl 3 rfl) ?_
  refine lv_iload_n hx hb dL_law_236 rfl (lv_at hl 0 rfl) ?_
  refine lv_iconst (v := 3) hx hb dL_law_237 (by decide) ?_
  refine lv_iadd hx hb dL_law_238 ?_
  refine tpi (y := 3) (by decide) ?_
  refine va_sld hx hb hX hbl hbA hS (vin_c _ _ rfl) dL_law_239 ?_
  refine tpi (y := xs 3) rfl ?_
  refine lv_aload_n hx hb dL_law_240 rfl (lv_at hl 3 rfl) ?_
  refine lv_iload_n hx hb dL_law_241 rfl (lv_at hl 0 rfl) ?_
  refine lv_iconst (v := 4) hx hb dL_law_242 (by decide) ?_
  refine lv_iadd hx hb dL_law_243 ?_
  refine tpi (y := 4) (by decide) ?_
  refine va_sld hx hb hX hbl hbA hS (vin_c _ _ rfl) dL_law_244 ?_
  refine tpi (y := xs 4) rfl ?_
  refine lv_aload_n hx hb dL_law_245 rfl (lv_at hl 3 rfl) ?_
  refine lv_iload_n hx hb dL_law_246 rfl (lv_at hl 0 rfl) ?_
  refine lv_iconst (v := 5) hx hb dL_law_247 (by decide) ?_
  refine lv_iadd hx hb dL_law_248 ?_
  refine tpi (y := 5) (by decide) ?_
  refine va_sld hx hb hX hbl hbA hS (vin_c _ _ rfl) dL_law_249 ?_
  refine tpi (y := xs 5) rfl ?_
  refine kV_i (ci := 8) (As := [.int (xs 1), .int (xs 2), .int (xs 3), .int (xs 4), .int (xs 5)]) (rest := []) (wc := [(kd, .inr (8, [.ref (ua 0), .ref (ua 2), .ref (ua 4), .ref (ua 6), .ref (ua 12), .ref (ua 15), .ref (ua 19), .ref (ua 30), .ref (ua 31), .int 0, .ref (ua 32), .ref (ua 56)])), (ua 0, .inr (7, [.ref (ua 1), .int 0])), (ua 1, aI cs 60 (fun _ => 0))]) (wr := [(md, .inr (9, [.int 0, .ref (va 0), .ref (va 1), .ref (va 2), .int 0, .ref (va 3), .ref (va 4), .ref (va 5), .ref (va 6), .int 0, .int 0, .int 0, .ref (va 7), .int 0, .ref (va 8), .ref (va 9), .ref (va 10), .int 0, .ref (va 11), .int 0, .int (-1), .int 0, .ref (va 12), .ref (va 13), .ref (va 14)])), (va 0, aI cs 51207 (vf 0)), (va 1, aI cs 170690 (fun _ => 0)), (va 2, aI cs 17069 (fun _ => 0)), (va 3, aZ cs 2 (fun _ => 0)), (va 4, aI cs 60 (fun _ => 0)), (va 5, aI cs 8 (fun _ => 0)), (va 6, aI cs 40 (fun _ => 0)), (va 7, aZ cs 1930 (fun _ => 0)), (va 8, aI cs 4 (fun _ => 0)), (va 9, aI cs 3 (fun _ => 0)), (va 10, aZ cs 8 (fun _ => 0)), (va 11, aI cs 40 (fun _ => 0)), (va 12, aZ cs 20 (fun _ => 0)), (va 13, aI cs 240 (fun _ => 0)), (va 14, aI cs 240 (fun _ => 0))]) hx hb hml hown hu hK hP hD hS hA hl.1 (c_X8_feed l D cs H.size kd (ua 0) (ua 1) (fun _ => 0) (ua 2) (ua 4) (ua 6) (ua 12) (ua 15) (ua 19) (ua 30) (ua 31) (ua 32) (ua 56) (xs 1) (xs 2) (xs 3) (xs 4) (xs 5) zr) (gV u_374 u_375 u_376 u_66 u_377) hd_X8_feed ⟨(Nat.le_of_ble_eq_true rfl), (Nat.le_of_ble_eq_true rfl)⟩ [0, 1, 2] [81, 82, 83, 84, 85, 86, 87, 88, 89, 90, 91, 92, 93, 94, 95, 96] rfl rfl rfl rfl (by decide) rfl 0 rfl rfl rfl (Nat.le_of_ble_eq_true rfl) dL_law_250 ⟨(Nat.le_of_ble_eq_true rfl), (Nat.le_of_ble_eq_true rfl)⟩ (fun r_1 ut_2 H locs hw_3 hP hD hS => ?_)
  have hP : va_P D vwCl [(md, .inr (9, [.int 0, .ref (va 0), .ref (va 1), .ref (va 2), .int 0, .ref (va 3), .ref (va 4), .ref (va 5), .ref (va 6), .int 0, .int 0, .int 0, .ref (va 7), .int 0, .ref (va 8), .ref (va 9), .ref (va 10), .int 0, .ref (va 11), .int 0, .int (-1), .int 0, .ref (va 12), .ref (va 13), .ref (va 14)])), (va 0, aI cs 51207 (vf 0)), (va 1, aI cs 170690 (fun _ => 0)), (va 2, aI cs 17069 (fun _ => 0)), (va 3, aZ cs 2 (fun _ => 0)), (va 4, aI cs 60 (fun _ => 0)), (va 5, aI cs 8 (fun _ => 0)), (va 6, aI cs 40 (fun _ => 0)), (va 7, aZ cs 1930 (fun _ => 0)), (va 8, aI cs 4 (fun _ => 0)), (va 9, aI cs 3 (fun _ => 0)), (va 10, aZ cs 8 (fun _ => 0)), (va 11, aI cs 40 (fun _ => 0)), (va 12, aZ cs 20 (fun _ => 0)), (va 13, aI cs 240 (fun _ => 0)), (va 14, aI cs 240 (fun _ => 0))] H := hP
  have hD : va_D (fun q : Nat => s.heap.size ≤ q) [(md, .inr (9, [.int 0, .ref (va 0), .ref (va 1), .ref (va 2), .int 0, .ref (va 3), .ref (va 4), .ref (va 5), .ref (va 6), .int 0, .int 0, .int 0, .ref (va 7), .int 0, .ref (va 8), .ref (va 9), .ref (va 10), .int 0, .ref (va 11), .int 0, .int (-1), .int 0, .ref (va 12), .ref (va 13), .ref (va 14)])), (va 0, aI cs 51207 (vf 0)), (va 1, aI cs 170690 (fun _ => 0)), (va 2, aI cs 17069 (fun _ => 0)), (va 3, aZ cs 2 (fun _ => 0)), (va 4, aI cs 60 (fun _ => 0)), (va 5, aI cs 8 (fun _ => 0)), (va 6, aI cs 40 (fun _ => 0)), (va 7, aZ cs 1930 (fun _ => 0)), (va 8, aI cs 4 (fun _ => 0)), (va 9, aI cs 3 (fun _ => 0)), (va 10, aZ cs 8 (fun _ => 0)), (va 11, aI cs 40 (fun _ => 0)), (va 12, aZ cs 20 (fun _ => 0)), (va 13, aI cs 240 (fun _ => 0)), (va 14, aI cs 240 (fun _ => 0))] := hD
  refine lv_aload_n hx hb dL_law_253 rfl (lv_at hl 1 rfl) ?_
  refine lv_aload_n hx hb dL_law_254 rfl (lv_at hl 3 rfl) ?_
  refine lv_iload_n hx hb dL_law_255 rfl (lv_at hl 0 rfl) ?_
  refine lv_iconst (v := 1) hx hb dL_law_256 (by decide) ?_
  refine lv_iadd hx hb dL_law_257 ?_
  refine tpi (y := 1) (by decide) ?_
  refine va_sld hx hb hX hbl hbA hS (vin_c _ _ rfl) dL_law_258 ?_
  refine tpi (y := xs 1) rfl ?_
  refine lv_aload_n hx hb dL_law_259 rfl (lv_at hl 3 rfl) ?_
  refine lv_iload_n hx hb dL_law_260 rfl (lv_at hl 0 rfl) ?_
  refine lv_iconst (v := 2) hx hb dL_law_261 (by decide) ?_
  refine lv_iadd hx hb dL_law_262 ?_
  refine tpi (y := 2) (by decide) ?_
  refine va_sld hx hb hX hbl hbA hS (vin_c _ _ rfl) dL_law_263 ?_
  refine tpi (y := xs 2) rfl ?_
  refine lv_aload_n hx hb dL_law_264 rfl (lv_at hl 3 rfl) ?_
  refine lv_iload_n hx hb dL_law_265 rfl (lv_at hl 0 rfl) ?_
  refine lv_iconst (v := 3) hx hb dL_law_266 (by decide) ?_
  refine lv_iadd hx hb dL_law_267 ?_
  refine tpi (y := 3) (by decide) ?_
  refine va_sld hx hb hX hbl hbA hS (vin_c _ _ rfl) dL_law_268 ?_
  refine tpi (y := xs 3) rfl ?_
  refine lv_aload_n hx hb dL_law_269 rfl (lv_at hl 3 rfl) ?_
  refine lv_iload_n hx hb dL_law_270 rfl (lv_at hl 0 rfl) ?_
  refine lv_iconst (v := 4) hx hb dL_law_271 (by decide) ?_
  refine lv_iadd hx hb dL_law_272 ?_
  refine tpi (y := 4) (by decide) ?_
  refine va_sld hx hb hX hbl hbA hS (vin_c _ _ rfl) dL_law_273 ?_
  refine tpi (y := xs 4) rfl ?_
  refine lv_aload_n hx hb dL_law_274 rfl (lv_at hl 3 rfl) ?_
  refine lv_iload_n hx hb dL_law_275 rfl (lv_at hl 0 rfl) ?_
  refine lv_iconst (v := 5) hx hb dL_law_276 (by decide) ?_
  refine lv_iadd hx hb dL_law_277 ?_
  refine tpi (y := 5) (by decide) ?_
  refine va_sld hx hb hX hbl hbA hS (vin_c _ _ rfl) dL_law_278 ?_
  refine tpi (y := xs 5) rfl ?_
  refine kV_i (ci := 9) (As := [.int (xs 1), .int (xs 2), .int (xs 3), .int (xs 4), .int (xs 5)]) (rest := [.int r_1]) (wc := [(md, .inr (9, [.int 0, .ref (va 0), .ref (va 1), .ref (va 2), .int 0, .ref (va 3), .ref (va 4), .ref (va 5), .ref (va 6), .int 0, .int 0, .int 0, .ref (va 7), .int 0, .ref (va 8), .ref (va 9), .ref (va 10), .int 0, .ref (va 11), .int 0, .int (-1), .int 0, .ref (va 12), .ref (va 13), .ref (va 14)])), (va 4, aI cs 60 (fun _ => 0))]) (wr := []) hx hb hml hown hu hK hP hD hS hA hl.1 (c_X9_feed l D cs H.size (xs 1) (xs 2) (xs 3) (xs 4) (xs 5) md (va 0) (va 1) (va 2) (va 3) (va 4) (fun _ => 0) (va 5) (va 6) (va 7) (va 8) (va 9) (va 10) (va 11) (va 12) (va 13) (va 14)) (gV u_1156 u_1157 u_1158 u_76 u_1159) hd_X9_feed ⟨(Nat.le_of_ble_eq_true rfl), (Nat.le_of_ble_eq_true rfl)⟩ [0, 5] [] rfl rfl rfl rfl (by decide) rfl 0 rfl rfl rfl (Nat.le_of_ble_eq_true rfl) dL_law_279 ⟨(Nat.le_of_ble_eq_true rfl), (Nat.le_of_ble_eq_true rfl)⟩ (fun r_4 ut_5 H locs hw_6 hP hD hS => ?_)
  have hP : va_P D vwCl [] H := hP
  have hD : va_D (fun q : Nat => s.heap.size ≤ q) [] := hD
  refine lv_icmp_eq (tgt := 1387) hx hb dL_law_282 (by decide) (fun c_7 => ?_) (fun c_7 => absurd (by grind) c_7)
  exact law_tail hx hb hr hml hown hlocks hu hK hX hbl _ _ hS ls (lv_sub hl [3, 0] rfl) (Nat.le_of_ble_eq_true rfl) (Nat.le_of_ble_eq_true rfl)

set_option maxHeartbeats 4000000 in
set_option maxRecDepth 100000 in
theorem law_c1 {p : Program} {l : Launch} {e : Env} {s : State} {m : MethodId} {below : List Frame} {meth : Method} {c : Code} {b : Nat} {xs : Nat → Int32} {D : va_G} {cs : Nat → ClassId} (hx : p.tables.exec = Jvm.exec) (hb : c.code = code) (hr : meth.sig.returnType = ret) (hml : c.maxLocals = 4) (hown : s.vm.findClass RL = some m.cls) (hlocks : meth.locks = false) (hu : ∀ w ∈ U0, w.before #[Value.ref b] s = true) (hK : kK D cs s) (hX : va_X b 6 xs s s.heap) (hbl : b < s.heap.size) (kd md : Nat) (ua : Nat → Nat) (uf : Nat → Nat → Int32) (va : Nat → Nat) (vf : Nat → Nat → Int32) (u_f_pp6 : ∀ j, j < 240 → ¬ uf 0 j < 0 ∧ uf 0 j < 240) (u_f_drp6 : ∀ j, j < 240 → ¬ uf 1 j < 0 ∧ uf 1 j < 240) (u_f_spp6 : ∀ j, j < 240 → ¬ uf 4 j < 0 ∧ uf 4 j < 240) (h_f_drm1 : ∀ j, j < 7 → uf 3 j = -1) (h_f_spm1 : ∀ j, j < 7 → uf 6 j = -1) (kAL : ∀ j, j < 51207 → vf 0 j = AL j) (H : Heap) (locs : List Loc) (hP : va_P D vwCl (lwW cs kd md ua uf va vf) H) (hD : va_D (fun q : Nat => s.heap.size ≤ q) (lwW cs kd md ua uf va vf)) (hS : va_S (fun q : Nat => s.heap.size ≤ q) s.heap H locs) (ls : Array Slot) (hl : lv_has ls 4 [(3, .int 0), (2, .ref md), (1, .ref kd), (0, .ref b)]) : W p l e room_1 s m #[Value.ref b] below meth c H locs 97 262423 (lw_Z below #[Value.ref b] s) (F0 m 287 ls []) := by
  have hbA : ¬ (fun q : Nat => s.heap.size ≤ q) b := Nat.not_le.mpr hbl
  have hA : ∀ q : Nat, s.heap.size ≤ q → (fun q : Nat => s.heap.size ≤ q) q := fun _ h => h
  refine lv_aload_n hx hb dL_law_287 rfl (lv_at hl 2 rfl) ?_
  refine lv_aload_n hx hb dL_law_288 rfl (lv_at hl 3 rfl) ?_
  refine lv_iload_n hx hb dL_law_289 rfl (lv_at hl 0 rfl) ?_
  refine lv_iconst (v := 1) hx hb dL_law_290 (by decide) ?_
  refine lv_iadd hx hb dL_law_291 ?_
  refine tpi (y := 1) (by decide) ?_
  refine va_sld hx hb hX hbl hbA hS (vin_c _ _ rfl) dL_law_292 ?_
  refine tpi (y := xs 1) rfl ?_
  refine lv_aload_n hx hb dL_law_293 rfl (lv_at hl 3 rfl) ?_
  refine lv_iload_n hx hb dL_law_294 rfl (lv_at hl 0 rfl) ?_
  refine lv_iconst (v := 2) hx hb dL_law_295 (by decide) ?_
  refine lv_iadd hx hb dL_law_296 ?_
  refine tpi (y := 2) (by decide) ?_
  refine va_sld hx hb hX hbl hbA hS (vin_c _ _ rfl) dL_law_297 ?_
  refine tpi (y := xs 2) rfl ?_
  refine kV_i (ci := 8) (As := [.int (xs 1), .int (xs 2)]) (rest := []) (wc := [(kd, .inr (8, [.ref (ua 0), .ref (ua 2), .ref (ua 4), .ref (ua 6), .ref (ua 12), .ref (ua 15), .ref (ua 19), .ref (ua 30), .ref (ua 31), .int 0, .ref (ua 32), .ref (ua 56)])), (ua 0, .inr (7, [.ref (ua 1), .int 0]))]) (wr := [(md, .inr (9, [.int 0, .ref (va 0), .ref (va 1), .ref (va 2), .int 0, .ref (va 3), .ref (va 4), .ref (va 5), .ref (va 6), .int 0, .int 0, .int 0, .ref (va 7), .int 0, .ref (va 8), .ref (va 9), .ref (va 10), .int 0, .ref (va 11), .int 0, .int (-1), .int 0, .ref (va 12), .ref (va 13), .ref (va 14)])), (va 0, aI cs 51207 (vf 0)), (va 1, aI cs 170690 (fun _ => 0)), (va 2, aI cs 17069 (fun _ => 0)), (va 3, aZ cs 2 (fun _ => 0)), (va 4, aI cs 60 (fun _ => 0)), (va 5, aI cs 8 (fun _ => 0)), (va 6, aI cs 40 (fun _ => 0)), (va 7, aZ cs 1930 (fun _ => 0)), (va 8, aI cs 4 (fun _ => 0)), (va 9, aI cs 3 (fun _ => 0)), (va 10, aZ cs 8 (fun _ => 0)), (va 11, aI cs 40 (fun _ => 0)), (va 12, aZ cs 20 (fun _ => 0)), (va 13, aI cs 240 (fun _ => 0)), (va 14, aI cs 240 (fun _ => 0))]) hx hb hml hown hu hK hP hD hS hA hl.1 (c_X8_put l D cs H.size kd (ua 0) (ua 1) (ua 2) (ua 4) (ua 6) (ua 12) (ua 15) (ua 19) (ua 30) (ua 31) (ua 32) (ua 56) (xs 1) (xs 2)) (gV u_386 u_387 u_388 u_66 u_389) hd_X8_put ⟨(Nat.le_of_ble_eq_true rfl), (Nat.le_of_ble_eq_true rfl)⟩ [0, 1] [81, 82, 83, 84, 85, 86, 87, 88, 89, 90, 91, 92, 93, 94, 95, 96] rfl rfl rfl rfl (by decide) rfl 0 rfl rfl rfl (Nat.le_of_ble_eq_true rfl) dL_law_298 ⟨(Nat.le_of_ble_eq_true rfl), (Nat.le_of_ble_eq_true rfl)⟩ (fun r_1 ut_2 H locs hw_3 hP hD hS => ?_)
  have hP : va_P D vwCl [(md, .inr (9, [.int 0, .ref (va 0), .ref (va 1), .ref (va 2), .int 0, .ref (va 3), .ref (va 4), .ref (va 5), .ref (va 6), .int 0, .int 0, .int 0, .ref (va 7), .int 0, .ref (va 8), .ref (va 9), .ref (va 10), .int 0, .ref (va 11), .int 0, .int (-1), .int 0, .ref (va 12), .ref (va 13), .ref (va 14)])), (va 0, aI cs 51207 (vf 0)), (va 1, aI cs 170690 (fun _ => 0)), (va 2, aI cs 17069 (fun _ => 0)), (va 3, aZ cs 2 (fun _ => 0)), (va 4, aI cs 60 (fun _ => 0)), (va 5, aI cs 8 (fun _ => 0)), (va 6, aI cs 40 (fun _ => 0)), (va 7, aZ cs 1930 (fun _ => 0)), (va 8, aI cs 4 (fun _ => 0)), (va 9, aI cs 3 (fun _ => 0)), (va 10, aZ cs 8 (fun _ => 0)), (va 11, aI cs 40 (fun _ => 0)), (va 12, aZ cs 20 (fun _ => 0)), (va 13, aI cs 240 (fun _ => 0)), (va 14, aI cs 240 (fun _ => 0))] H := hP
  have hD : va_D (fun q : Nat => s.heap.size ≤ q) [(md, .inr (9, [.int 0, .ref (va 0), .ref (va 1), .ref (va 2), .int 0, .ref (va 3), .ref (va 4), .ref (va 5), .ref (va 6), .int 0, .int 0, .int 0, .ref (va 7), .int 0, .ref (va 8), .ref (va 9), .ref (va 10), .int 0, .ref (va 11), .int 0, .int (-1), .int 0, .ref (va 12), .ref (va 13), .ref (va 14)])), (va 0, aI cs 51207 (vf 0)), (va 1, aI cs 170690 (fun _ => 0)), (va 2, aI cs 17069 (fun _ => 0)), (va 3, aZ cs 2 (fun _ => 0)), (va 4, aI cs 60 (fun _ => 0)), (va 5, aI cs 8 (fun _ => 0)), (va 6, aI cs 40 (fun _ => 0)), (va 7, aZ cs 1930 (fun _ => 0)), (va 8, aI cs 4 (fun _ => 0)), (va 9, aI cs 3 (fun _ => 0)), (va 10, aZ cs 8 (fun _ => 0)), (va 11, aI cs 40 (fun _ => 0)), (va 12, aZ cs 20 (fun _ => 0)), (va 13, aI cs 240 (fun _ => 0)), (va 14, aI cs 240 (fun _ => 0))] := hD
  refine lv_aload_n hx hb dL_law_301 rfl (lv_at hl 1 rfl) ?_
  refine lv_aload_n hx hb dL_law_302 rfl (lv_at hl 3 rfl) ?_
  refine lv_iload_n hx hb dL_law_303 rfl (lv_at hl 0 rfl) ?_
  refine lv_iconst (v := 1) hx hb dL_law_304 (by decide) ?_
  refine lv_iadd hx hb dL_law_305 ?_
  refine tpi (y := 1) (by decide) ?_
  refine va_sld hx hb hX hbl hbA hS (vin_c _ _ rfl) dL_law_306 ?_
  refine tpi (y := xs 1) rfl ?_
  refine lv_aload_n hx hb dL_law_307 rfl (lv_at hl 3 rfl) ?_
  refine lv_iload_n hx hb dL_law_308 rfl (lv_at hl 0 rfl) ?_
  refine lv_iconst (v := 2) hx hb dL_law_309 (by decide) ?_
  refine lv_iadd hx hb dL_law_310 ?_
  refine tpi (y := 2) (by decide) ?_
  refine va_sld hx hb hX hbl hbA hS (vin_c _ _ rfl) dL_law_311 ?_
  refine tpi (y := xs 2) rfl ?_
  refine kV_i (ci := 9) (As := [.int (xs 1), .int (xs 2)]) (rest := [.int r_1]) (wc := [(md, .inr (9, [.int 0, .ref (va 0), .ref (va 1), .ref (va 2), .int 0, .ref (va 3), .ref (va 4), .ref (va 5), .ref (va 6), .int 0, .int 0, .int 0, .ref (va 7), .int 0, .ref (va 8), .ref (va 9), .ref (va 10), .int 0, .ref (va 11), .int 0, .int (-1), .int 0, .ref (va 12), .ref (va 13), .ref (va 14)]))]) (wr := []) hx hb hml hown hu hK hP hD hS hA hl.1 (c_X9_put l D cs H.size (xs 1) (xs 2) md (va 0) (va 1) (va 2) (va 3) (va 4) (va 5) (va 6) (va 7) (va 8) (va 9) (va 10) (va 11) (va 12) (va 13) (va 14)) (gV u_1167 u_1168 u_1169 u_76 u_1170) hd_X9_put ⟨(Nat.le_of_ble_eq_true rfl), (Nat.le_of_ble_eq_true rfl)⟩ [0] [] rfl rfl rfl rfl (by decide) rfl 0 rfl rfl rfl (Nat.le_of_ble_eq_true rfl) dL_law_312 ⟨(Nat.le_of_ble_eq_true rfl), (Nat.le_of_ble_eq_true rfl)⟩ (fun r_4 ut_5 H locs hw_6 hP hD hS => ?_)
  have hP : va_P D vwCl [] H := hP
  have hD : va_D (fun q : Nat => s.heap.size ≤ q) [] := hD
  refine lv_icmp_eq (tgt := 1387) hx hb dL_law_315 (by decide) (fun c_7 => ?_) (fun c_7 => absurd (by grind) c_7)
  exact law_tail hx hb hr hml hown hlocks hu hK hX hbl _ _ hS ls (lv_sub hl [3, 0] rfl) (Nat.le_of_ble_eq_true rfl) (Nat.le_of_ble_eq_true rfl)

set_option maxHeartbeats 4000000 in
set_option maxRecDepth 100000 in
theorem law_c2 {p : Program} {l : Launch} {e : Env} {s : State} {m : MethodId} {below : List Frame} {meth : Method} {c : Code} {b : Nat} {xs : Nat → Int32} {D : va_G} {cs : Nat → ClassId} (hx : p.tables.exec = Jvm.exec) (hb : c.code = code) (hr : meth.sig.returnType = ret) (hml : c.maxLocals = 4) (hown : s.vm.findClass RL = some m.cls) (hlocks : meth.locks = false) (hu : ∀ w ∈ U0, w.before #[Value.ref b] s = true) (hK : kK D cs s) (hX : va_X b 6 xs s s.heap) (hbl : b < s.heap.size) (kd md : Nat) (ua : Nat → Nat) (uf : Nat → Nat → Int32) (va : Nat → Nat) (vf : Nat → Nat → Int32) (u_f_pp6 : ∀ j, j < 240 → ¬ uf 0 j < 0 ∧ uf 0 j < 240) (u_f_drp6 : ∀ j, j < 240 → ¬ uf 1 j < 0 ∧ uf 1 j < 240) (u_f_spp6 : ∀ j, j < 240 → ¬ uf 4 j < 0 ∧ uf 4 j < 240) (h_f_drm1 : ∀ j, j < 7 → uf 3 j = -1) (h_f_spm1 : ∀ j, j < 7 → uf 6 j = -1) (kAL : ∀ j, j < 51207 → vf 0 j = AL j) (H : Heap) (locs : List Loc) (hP : va_P D vwCl (lwW cs kd md ua uf va vf) H) (hD : va_D (fun q : Nat => s.heap.size ≤ q) (lwW cs kd md ua uf va vf)) (hS : va_S (fun q : Nat => s.heap.size ≤ q) s.heap H locs) (ls : Array Slot) (hl : lv_has ls 4 [(3, .int 0), (2, .ref md), (1, .ref kd), (0, .ref b)]) : W p l e room_1 s m #[Value.ref b] below meth c H locs 97 262423 (lw_Z below #[Value.ref b] s) (F0 m 320 ls []) := by
  have hbA : ¬ (fun q : Nat => s.heap.size ≤ q) b := Nat.not_le.mpr hbl
  have hA : ∀ q : Nat, s.heap.size ≤ q → (fun q : Nat => s.heap.size ≤ q) q := fun _ h => h
  refine lv_aload_n hx hb dL_law_320 rfl (lv_at hl 2 rfl) ?_
  refine lv_aload_n hx hb dL_law_321 rfl (lv_at hl 3 rfl) ?_
  refine lv_iload_n hx hb dL_law_322 rfl (lv_at hl 0 rfl) ?_
  refine lv_iconst (v := 1) hx hb dL_law_323 (by decide) ?_
  refine lv_iadd hx hb dL_law_324 ?_
  refine tpi (y := 1) (by decide) ?_
  refine va_sld hx hb hX hbl hbA hS (vin_c _ _ rfl) dL_law_325 ?_
  refine tpi (y := xs 1) rfl ?_
  refine lv_aload_n hx hb dL_law_326 rfl (lv_at hl 3 rfl) ?_
  refine lv_iload_n hx hb dL_law_327 rfl (lv_at hl 0 rfl) ?_
  refine lv_iconst (v := 2) hx hb dL_law_328 (by decide) ?_
  refine lv_iadd hx hb dL_law_329 ?_
  refine tpi (y := 2) (by decide) ?_
  refine va_sld hx hb hX hbl hbA hS (vin_c _ _ rfl) dL_law_330 ?_
  refine tpi (y := xs 2) rfl ?_
  refine kV_i (ci := 8) (As := [.int (xs 1), .int (xs 2)]) (rest := []) (wc := [(kd, .inr (8, [.ref (ua 0), .ref (ua 2), .ref (ua 4), .ref (ua 6), .ref (ua 12), .ref (ua 15), .ref (ua 19), .ref (ua 30), .ref (ua 31), .int 0, .ref (ua 32), .ref (ua 56)])), (ua 0, .inr (7, [.ref (ua 1), .int 0])), (ua 32, .inr (2, [.int 0, .ref (ua 33), .ref (ua 44), .ref (ua 51)])), (ua 51, .inr (4, [.ref (ua 52), .ref (ua 53), .ref (ua 54), .ref (ua 55)])), (ua 52, aI cs 7 (uf 3))]) (wr := [(md, .inr (9, [.int 0, .ref (va 0), .ref (va 1), .ref (va 2), .int 0, .ref (va 3), .ref (va 4), .ref (va 5), .ref (va 6), .int 0, .int 0, .int 0, .ref (va 7), .int 0, .ref (va 8), .ref (va 9), .ref (va 10), .int 0, .ref (va 11), .int 0, .int (-1), .int 0, .ref (va 12), .ref (va 13), .ref (va 14)])), (va 0, aI cs 51207 (vf 0)), (va 1, aI cs 170690 (fun _ => 0)), (va 2, aI cs 17069 (fun _ => 0)), (va 3, aZ cs 2 (fun _ => 0)), (va 4, aI cs 60 (fun _ => 0)), (va 5, aI cs 8 (fun _ => 0)), (va 6, aI cs 40 (fun _ => 0)), (va 7, aZ cs 1930 (fun _ => 0)), (va 8, aI cs 4 (fun _ => 0)), (va 9, aI cs 3 (fun _ => 0)), (va 10, aZ cs 8 (fun _ => 0)), (va 11, aI cs 40 (fun _ => 0)), (va 12, aZ cs 20 (fun _ => 0)), (va 13, aI cs 240 (fun _ => 0)), (va 14, aI cs 240 (fun _ => 0))]) hx hb hml hown hu hK hP hD hS hA hl.1 (c_X8_get l D cs H.size kd (ua 0) (ua 1) (ua 2) (ua 4) (ua 6) (ua 12) (ua 15) (ua 19) (ua 30) (ua 31) (ua 32) (ua 33) (ua 44) (ua 51) (ua 52) (uf 3) (ua 53) (ua 54) (ua 55) (ua 56) (xs 1) (xs 2) h_f_drm1) (gV u_604 u_605 u_606 u_66 u_607) hd_X8_get ⟨(Nat.le_of_ble_eq_true rfl), (Nat.le_of_ble_eq_true rfl)⟩ [0, 1, 33, 52, 53] [81, 82, 83, 84, 85, 86, 87, 88, 89, 90, 91, 92, 93, 94, 95, 96] rfl rfl rfl rfl (by decide) rfl 0 rfl rfl rfl (Nat.le_of_ble_eq_true rfl) dL_law_331 ⟨(Nat.le_of_ble_eq_true rfl), (Nat.le_of_ble_eq_true rfl)⟩ (fun r_1 ut_2 H locs hw_3 hP hD hS => ?_)
  have hP : va_P D vwCl [(md, .inr (9, [.int 0, .ref (va 0), .ref (va 1), .ref (va 2), .int 0, .ref (va 3), .ref (va 4), .ref (va 5), .ref (va 6), .int 0, .int 0, .int 0, .ref (va 7), .int 0, .ref (va 8), .ref (va 9), .ref (va 10), .int 0, .ref (va 11), .int 0, .int (-1), .int 0, .ref (va 12), .ref (va 13), .ref (va 14)])), (va 0, aI cs 51207 (vf 0)), (va 1, aI cs 170690 (fun _ => 0)), (va 2, aI cs 17069 (fun _ => 0)), (va 3, aZ cs 2 (fun _ => 0)), (va 4, aI cs 60 (fun _ => 0)), (va 5, aI cs 8 (fun _ => 0)), (va 6, aI cs 40 (fun _ => 0)), (va 7, aZ cs 1930 (fun _ => 0)), (va 8, aI cs 4 (fun _ => 0)), (va 9, aI cs 3 (fun _ => 0)), (va 10, aZ cs 8 (fun _ => 0)), (va 11, aI cs 40 (fun _ => 0)), (va 12, aZ cs 20 (fun _ => 0)), (va 13, aI cs 240 (fun _ => 0)), (va 14, aI cs 240 (fun _ => 0))] H := hP
  have hD : va_D (fun q : Nat => s.heap.size ≤ q) [(md, .inr (9, [.int 0, .ref (va 0), .ref (va 1), .ref (va 2), .int 0, .ref (va 3), .ref (va 4), .ref (va 5), .ref (va 6), .int 0, .int 0, .int 0, .ref (va 7), .int 0, .ref (va 8), .ref (va 9), .ref (va 10), .int 0, .ref (va 11), .int 0, .int (-1), .int 0, .ref (va 12), .ref (va 13), .ref (va 14)])), (va 0, aI cs 51207 (vf 0)), (va 1, aI cs 170690 (fun _ => 0)), (va 2, aI cs 17069 (fun _ => 0)), (va 3, aZ cs 2 (fun _ => 0)), (va 4, aI cs 60 (fun _ => 0)), (va 5, aI cs 8 (fun _ => 0)), (va 6, aI cs 40 (fun _ => 0)), (va 7, aZ cs 1930 (fun _ => 0)), (va 8, aI cs 4 (fun _ => 0)), (va 9, aI cs 3 (fun _ => 0)), (va 10, aZ cs 8 (fun _ => 0)), (va 11, aI cs 40 (fun _ => 0)), (va 12, aZ cs 20 (fun _ => 0)), (va 13, aI cs 240 (fun _ => 0)), (va 14, aI cs 240 (fun _ => 0))] := hD
  refine lv_aload_n hx hb dL_law_334 rfl (lv_at hl 1 rfl) ?_
  refine lv_aload_n hx hb dL_law_335 rfl (lv_at hl 3 rfl) ?_
  refine lv_iload_n hx hb dL_law_336 rfl (lv_at hl 0 rfl) ?_
  refine lv_iconst (v := 1) hx hb dL_law_337 (by decide) ?_
  refine lv_iadd hx hb dL_law_338 ?_
  refine tpi (y := 1) (by decide) ?_
  refine va_sld hx hb hX hbl hbA hS (vin_c _ _ rfl) dL_law_339 ?_
  refine tpi (y := xs 1) rfl ?_
  refine lv_aload_n hx hb dL_law_340 rfl (lv_at hl 3 rfl) ?_
  refine lv_iload_n hx hb dL_law_341 rfl (lv_at hl 0 rfl) ?_
  refine lv_iconst (v := 2) hx hb dL_law_342 (by decide) ?_
  refine lv_iadd hx hb dL_law_343 ?_
  refine tpi (y := 2) (by decide) ?_
  refine va_sld hx hb hX hbl hbA hS (vin_c _ _ rfl) dL_law_344 ?_
  refine tpi (y := xs 2) rfl ?_
  refine kV_i (ci := 9) (As := [.int (xs 1), .int (xs 2)]) (rest := [.int r_1]) (wc := [(md, .inr (9, [.int 0, .ref (va 0), .ref (va 1), .ref (va 2), .int 0, .ref (va 3), .ref (va 4), .ref (va 5), .ref (va 6), .int 0, .int 0, .int 0, .ref (va 7), .int 0, .ref (va 8), .ref (va 9), .ref (va 10), .int 0, .ref (va 11), .int 0, .int (-1), .int 0, .ref (va 12), .ref (va 13), .ref (va 14)]))]) (wr := []) hx hb hml hown hu hK hP hD hS hA hl.1 (c_X9_get l D cs H.size (xs 1) (xs 2) md (va 0) (va 1) (va 2) (va 3) (va 4) (va 5) (va 6) (va 7) (va 8) (va 9) (va 10) (va 11) (va 12) (va 13) (va 14)) (gV u_1294 u_1295 u_1296 u_76 u_1297) hd_X9_get ⟨(Nat.le_of_ble_eq_true rfl), (Nat.le_of_ble_eq_true rfl)⟩ [0] [] rfl rfl rfl rfl (by decide) rfl 0 rfl rfl rfl (Nat.le_of_ble_eq_true rfl) dL_law_345 ⟨(Nat.le_of_ble_eq_true rfl), (Nat.le_of_ble_eq_true rfl)⟩ (fun r_4 ut_5 H locs hw_6 hP hD hS => ?_)
  have hP : va_P D vwCl [] H := hP
  have hD : va_D (fun q : Nat => s.heap.size ≤ q) [] := hD
  refine lv_icmp_eq (tgt := 1387) hx hb dL_law_348 (by decide) (fun c_7 => ?_) (fun c_7 => absurd (by grind) c_7)
  exact law_tail hx hb hr hml hown hlocks hu hK hX hbl _ _ hS ls (lv_sub hl [3, 0] rfl) (Nat.le_of_ble_eq_true rfl) (Nat.le_of_ble_eq_true rfl)

set_option maxHeartbeats 4000000 in
set_option maxRecDepth 100000 in
theorem law_c3 {p : Program} {l : Launch} {e : Env} {s : State} {m : MethodId} {below : List Frame} {meth : Method} {c : Code} {b : Nat} {xs : Nat → Int32} {D : va_G} {cs : Nat → ClassId} (hx : p.tables.exec = Jvm.exec) (hb : c.code = code) (hr : meth.sig.returnType = ret) (hml : c.maxLocals = 4) (hown : s.vm.findClass RL = some m.cls) (hlocks : meth.locks = false) (hu : ∀ w ∈ U0, w.before #[Value.ref b] s = true) (hK : kK D cs s) (hX : va_X b 6 xs s s.heap) (hbl : b < s.heap.size) (kd md : Nat) (ua : Nat → Nat) (uf : Nat → Nat → Int32) (va : Nat → Nat) (vf : Nat → Nat → Int32) (u_f_pp6 : ∀ j, j < 240 → ¬ uf 0 j < 0 ∧ uf 0 j < 240) (u_f_drp6 : ∀ j, j < 240 → ¬ uf 1 j < 0 ∧ uf 1 j < 240) (u_f_spp6 : ∀ j, j < 240 → ¬ uf 4 j < 0 ∧ uf 4 j < 240) (h_f_drm1 : ∀ j, j < 7 → uf 3 j = -1) (h_f_spm1 : ∀ j, j < 7 → uf 6 j = -1) (kAL : ∀ j, j < 51207 → vf 0 j = AL j) (H : Heap) (locs : List Loc) (hP : va_P D vwCl (lwW cs kd md ua uf va vf) H) (hD : va_D (fun q : Nat => s.heap.size ≤ q) (lwW cs kd md ua uf va vf)) (hS : va_S (fun q : Nat => s.heap.size ≤ q) s.heap H locs) (ls : Array Slot) (hl : lv_has ls 4 [(3, .int 0), (2, .ref md), (1, .ref kd), (0, .ref b)]) : W p l e room_1 s m #[Value.ref b] below meth c H locs 97 262423 (lw_Z below #[Value.ref b] s) (F0 m 353 ls []) := by
  have hbA : ¬ (fun q : Nat => s.heap.size ≤ q) b := Nat.not_le.mpr hbl
  have hA : ∀ q : Nat, s.heap.size ≤ q → (fun q : Nat => s.heap.size ≤ q) q := fun _ h => h
  refine lv_aload_n hx hb dL_law_353 rfl (lv_at hl 2 rfl) ?_
  refine lv_aload_n hx hb dL_law_354 rfl (lv_at hl 3 rfl) ?_
  refine lv_iload_n hx hb dL_law_355 rfl (lv_at hl 0 rfl) ?_
  refine lv_iconst (v := 1) hx hb dL_law_356 (by decide) ?_
  refine lv_iadd hx hb dL_law_357 ?_
  refine tpi (y := 1) (by decide) ?_
  refine va_sld hx hb hX hbl hbA hS (vin_c _ _ rfl) dL_law_358 ?_
  refine tpi (y := xs 1) rfl ?_
  refine kV_i (ci := 8) (As := [.int (xs 1)]) (rest := []) (wc := [(kd, .inr (8, [.ref (ua 0), .ref (ua 2), .ref (ua 4), .ref (ua 6), .ref (ua 12), .ref (ua 15), .ref (ua 19), .ref (ua 30), .ref (ua 31), .int 0, .ref (ua 32), .ref (ua 56)])), (ua 2, .inr (7, [.ref (ua 3), .int 0]))]) (wr := [(md, .inr (9, [.int 0, .ref (va 0), .ref (va 1), .ref (va 2), .int 0, .ref (va 3), .ref (va 4), .ref (va 5), .ref (va 6), .int 0, .int 0, .int 0, .ref (va 7), .int 0, .ref (va 8), .ref (va 9), .ref (va 10), .int 0, .ref (va 11), .int 0, .int (-1), .int 0, .ref (va 12), .ref (va 13), .ref (va 14)])), (va 0, aI cs 51207 (vf 0)), (va 1, aI cs 170690 (fun _ => 0)), (va 2, aI cs 17069 (fun _ => 0)), (va 3, aZ cs 2 (fun _ => 0)), (va 4, aI cs 60 (fun _ => 0)), (va 5, aI cs 8 (fun _ => 0)), (va 6, aI cs 40 (fun _ => 0)), (va 7, aZ cs 1930 (fun _ => 0)), (va 8, aI cs 4 (fun _ => 0)), (va 9, aI cs 3 (fun _ => 0)), (va 10, aZ cs 8 (fun _ => 0)), (va 11, aI cs 40 (fun _ => 0)), (va 12, aZ cs 20 (fun _ => 0)), (va 13, aI cs 240 (fun _ => 0)), (va 14, aI cs 240 (fun _ => 0))]) hx hb hml hown hu hK hP hD hS hA hl.1 (c_X8_answer l D cs H.size kd (ua 0) (ua 2) (ua 3) (ua 4) (ua 6) (ua 12) (ua 15) (ua 19) (ua 30) (ua 31) (ua 32) (ua 56) (xs 1)) (gV u_641 u_642 u_643 u_66 u_644) hd_X8_answer ⟨(Nat.le_of_ble_eq_true rfl), (Nat.le_of_ble_eq_true rfl)⟩ [0, 3] [81, 82, 83, 84, 85, 86, 87, 88, 89, 90, 91, 92, 93, 94, 95, 96] rfl rfl rfl rfl (by decide) rfl 0 rfl rfl rfl (Nat.le_of_ble_eq_true rfl) dL_law_359 ⟨(Nat.le_of_ble_eq_true rfl), (Nat.le_of_ble_eq_true rfl)⟩ (fun r_1 ut_2 H locs hw_3 hP hD hS => ?_)
  have hP : va_P D vwCl [(md, .inr (9, [.int 0, .ref (va 0), .ref (va 1), .ref (va 2), .int 0, .ref (va 3), .ref (va 4), .ref (va 5), .ref (va 6), .int 0, .int 0, .int 0, .ref (va 7), .int 0, .ref (va 8), .ref (va 9), .ref (va 10), .int 0, .ref (va 11), .int 0, .int (-1), .int 0, .ref (va 12), .ref (va 13), .ref (va 14)])), (va 0, aI cs 51207 (vf 0)), (va 1, aI cs 170690 (fun _ => 0)), (va 2, aI cs 17069 (fun _ => 0)), (va 3, aZ cs 2 (fun _ => 0)), (va 4, aI cs 60 (fun _ => 0)), (va 5, aI cs 8 (fun _ => 0)), (va 6, aI cs 40 (fun _ => 0)), (va 7, aZ cs 1930 (fun _ => 0)), (va 8, aI cs 4 (fun _ => 0)), (va 9, aI cs 3 (fun _ => 0)), (va 10, aZ cs 8 (fun _ => 0)), (va 11, aI cs 40 (fun _ => 0)), (va 12, aZ cs 20 (fun _ => 0)), (va 13, aI cs 240 (fun _ => 0)), (va 14, aI cs 240 (fun _ => 0))] H := hP
  have hD : va_D (fun q : Nat => s.heap.size ≤ q) [(md, .inr (9, [.int 0, .ref (va 0), .ref (va 1), .ref (va 2), .int 0, .ref (va 3), .ref (va 4), .ref (va 5), .ref (va 6), .int 0, .int 0, .int 0, .ref (va 7), .int 0, .ref (va 8), .ref (va 9), .ref (va 10), .int 0, .ref (va 11), .int 0, .int (-1), .int 0, .ref (va 12), .ref (va 13), .ref (va 14)])), (va 0, aI cs 51207 (vf 0)), (va 1, aI cs 170690 (fun _ => 0)), (va 2, aI cs 17069 (fun _ => 0)), (va 3, aZ cs 2 (fun _ => 0)), (va 4, aI cs 60 (fun _ => 0)), (va 5, aI cs 8 (fun _ => 0)), (va 6, aI cs 40 (fun _ => 0)), (va 7, aZ cs 1930 (fun _ => 0)), (va 8, aI cs 4 (fun _ => 0)), (va 9, aI cs 3 (fun _ => 0)), (va 10, aZ cs 8 (fun _ => 0)), (va 11, aI cs 40 (fun _ => 0)), (va 12, aZ cs 20 (fun _ => 0)), (va 13, aI cs 240 (fun _ => 0)), (va 14, aI cs 240 (fun _ => 0))] := hD
  refine lv_aload_n hx hb dL_law_362 rfl (lv_at hl 1 rfl) ?_
  refine lv_aload_n hx hb dL_law_363 rfl (lv_at hl 3 rfl) ?_
  refine lv_iload_n hx hb dL_law_364 rfl (lv_at hl 0 rfl) ?_
  refine lv_iconst (v := 1) hx hb dL_law_365 (by decide) ?_
  refine lv_iadd hx hb dL_law_366 ?_
  refine tpi (y := 1) (by decide) ?_
  refine va_sld hx hb hX hbl hbA hS (vin_c _ _ rfl) dL_law_367 ?_
  refine tpi (y := xs 1) rfl ?_
  refine kV_i (ci := 9) (As := [.int (xs 1)]) (rest := [.int r_1]) (wc := [(md, .inr (9, [.int 0, .ref (va 0), .ref (va 1), .ref (va 2), .int 0, .ref (va 3), .ref (va 4), .ref (va 5), .ref (va 6), .int 0, .int 0, .int 0, .ref (va 7), .int 0, .ref (va 8), .ref (va 9), .ref (va 10), .int 0, .ref (va 11), .int 0, .int (-1), .int 0, .ref (va 12), .ref (va 13), .ref (va 14)]))]) (wr := []) hx hb hml hown hu hK hP hD hS hA hl.1 (c_X9_answer l D cs H.size (xs 1) md (va 0) (va 1) (va 2) (va 3) (va 4) (va 5) (va 6) (va 7) (va 8) (va 9) (va 10) (va 11) (va 12) (va 13) (va 14)) (gV u_1160 u_1161 u_1162 u_76 u_1163) hd_X9_answer ⟨(Nat.le_of_ble_eq_true rfl), (Nat.le_of_ble_eq_true rfl)⟩ [0] [] rfl rfl rfl rfl (by decide) rfl 0 rfl rfl rfl (Nat.le_of_ble_eq_true rfl) dL_law_368 ⟨(Nat.le_of_ble_eq_true rfl), (Nat.le_of_ble_eq_true rfl)⟩ (fun r_4 ut_5 H locs hw_6 hP hD hS => ?_)
  have hP : va_P D vwCl [] H := hP
  have hD : va_D (fun q : Nat => s.heap.size ≤ q) [] := hD
  refine lv_icmp_eq (tgt := 1387) hx hb dL_law_371 (by decide) (fun c_7 => ?_) (fun c_7 => absurd (by grind) c_7)
  exact law_tail hx hb hr hml hown hlocks hu hK hX hbl _ _ hS ls (lv_sub hl [3, 0] rfl) (Nat.le_of_ble_eq_true rfl) (Nat.le_of_ble_eq_true rfl)

set_option maxHeartbeats 4000000 in
set_option maxRecDepth 100000 in
theorem law_c4 {p : Program} {l : Launch} {e : Env} {s : State} {m : MethodId} {below : List Frame} {meth : Method} {c : Code} {b : Nat} {xs : Nat → Int32} {D : va_G} {cs : Nat → ClassId} (hx : p.tables.exec = Jvm.exec) (hb : c.code = code) (hr : meth.sig.returnType = ret) (hml : c.maxLocals = 4) (hown : s.vm.findClass RL = some m.cls) (hlocks : meth.locks = false) (hu : ∀ w ∈ U0, w.before #[Value.ref b] s = true) (hK : kK D cs s) (hX : va_X b 6 xs s s.heap) (hbl : b < s.heap.size) (kd md : Nat) (ua : Nat → Nat) (uf : Nat → Nat → Int32) (va : Nat → Nat) (vf : Nat → Nat → Int32) (u_f_pp6 : ∀ j, j < 240 → ¬ uf 0 j < 0 ∧ uf 0 j < 240) (u_f_drp6 : ∀ j, j < 240 → ¬ uf 1 j < 0 ∧ uf 1 j < 240) (u_f_spp6 : ∀ j, j < 240 → ¬ uf 4 j < 0 ∧ uf 4 j < 240) (h_f_drm1 : ∀ j, j < 7 → uf 3 j = -1) (h_f_spm1 : ∀ j, j < 7 → uf 6 j = -1) (kAL : ∀ j, j < 51207 → vf 0 j = AL j) (H : Heap) (locs : List Loc) (hP : va_P D vwCl (lwW cs kd md ua uf va vf) H) (hD : va_D (fun q : Nat => s.heap.size ≤ q) (lwW cs kd md ua uf va vf)) (hS : va_S (fun q : Nat => s.heap.size ≤ q) s.heap H locs) (ls : Array Slot) (hl : lv_has ls 4 [(3, .int 0), (2, .ref md), (1, .ref kd), (0, .ref b)]) : W p l e room_1 s m #[Value.ref b] below meth c H locs 97 262423 (lw_Z below #[Value.ref b] s) (F0 m 376 ls []) := by
  have hbA : ¬ (fun q : Nat => s.heap.size ≤ q) b := Nat.not_le.mpr hbl
  have hA : ∀ q : Nat, s.heap.size ≤ q → (fun q : Nat => s.heap.size ≤ q) q := fun _ h => h
  refine lv_aload_n hx hb dL_law_376 rfl (lv_at hl 2 rfl) ?_
  refine lv_aload_n hx hb dL_law_377 rfl (lv_at hl 3 rfl) ?_
  refine lv_iload_n hx hb dL_law_378 rfl (lv_at hl 0 rfl) ?_
  refine lv_iconst (v := 1) hx hb dL_law_379 (by decide) ?_
  refine lv_iadd hx hb dL_law_380 ?_
  refine tpi (y := 1) (by decide) ?_
  refine va_sld hx hb hX hbl hbA hS (vin_c _ _ rfl) dL_law_381 ?_
  refine tpi (y := xs 1) rfl ?_
  refine kV_i (ci := 8) (As := [.int (xs 1)]) (rest := []) (wc := [(kd, .inr (8, [.ref (ua 0), .ref (ua 2), .ref (ua 4), .ref (ua 6), .ref (ua 12), .ref (ua 15), .ref (ua 19), .ref (ua 30), .ref (ua 31), .int 0, .ref (ua 32), .ref (ua 56)])), (ua 0, .inr (7, [.ref (ua 1), .int 0]))]) (wr := [(md, .inr (9, [.int 0, .ref (va 0), .ref (va 1), .ref (va 2), .int 0, .ref (va 3), .ref (va 4), .ref (va 5), .ref (va 6), .int 0, .int 0, .int 0, .ref (va 7), .int 0, .ref (va 8), .ref (va 9), .ref (va 10), .int 0, .ref (va 11), .int 0, .int (-1), .int 0, .ref (va 12), .ref (va 13), .ref (va 14)])), (va 0, aI cs 51207 (vf 0)), (va 1, aI cs 170690 (fun _ => 0)), (va 2, aI cs 17069 (fun _ => 0)), (va 3, aZ cs 2 (fun _ => 0)), (va 4, aI cs 60 (fun _ => 0)), (va 5, aI cs 8 (fun _ => 0)), (va 6, aI cs 40 (fun _ => 0)), (va 7, aZ cs 1930 (fun _ => 0)), (va 8, aI cs 4 (fun _ => 0)), (va 9, aI cs 3 (fun _ => 0)), (va 10, aZ cs 8 (fun _ => 0)), (va 11, aI cs 40 (fun _ => 0)), (va 12, aZ cs 20 (fun _ => 0)), (va 13, aI cs 240 (fun _ => 0)), (va 14, aI cs 240 (fun _ => 0))]) hx hb hml hown hu hK hP hD hS hA hl.1 (c_X8_remove l D cs H.size kd (ua 0) (ua 1) (ua 2) (ua 4) (ua 6) (ua 12) (ua 15) (ua 19) (ua 30) (ua 31) (ua 32) (ua 56) (xs 1)) (gV u_646 u_647 u_648 u_66 u_649) hd_X8_remove ⟨(Nat.le_of_ble_eq_true rfl), (Nat.le_of_ble_eq_true rfl)⟩ [0, 1] [81, 82, 83, 84, 85, 86, 87, 88, 89, 90, 91, 92, 93, 94, 95, 96] rfl rfl rfl rfl (by decide) rfl 0 rfl rfl rfl (Nat.le_of_ble_eq_true rfl) dL_law_382 ⟨(Nat.le_of_ble_eq_true rfl), (Nat.le_of_ble_eq_true rfl)⟩ (fun r_1 ut_2 H locs hw_3 hP hD hS => ?_)
  have hP : va_P D vwCl [(md, .inr (9, [.int 0, .ref (va 0), .ref (va 1), .ref (va 2), .int 0, .ref (va 3), .ref (va 4), .ref (va 5), .ref (va 6), .int 0, .int 0, .int 0, .ref (va 7), .int 0, .ref (va 8), .ref (va 9), .ref (va 10), .int 0, .ref (va 11), .int 0, .int (-1), .int 0, .ref (va 12), .ref (va 13), .ref (va 14)])), (va 0, aI cs 51207 (vf 0)), (va 1, aI cs 170690 (fun _ => 0)), (va 2, aI cs 17069 (fun _ => 0)), (va 3, aZ cs 2 (fun _ => 0)), (va 4, aI cs 60 (fun _ => 0)), (va 5, aI cs 8 (fun _ => 0)), (va 6, aI cs 40 (fun _ => 0)), (va 7, aZ cs 1930 (fun _ => 0)), (va 8, aI cs 4 (fun _ => 0)), (va 9, aI cs 3 (fun _ => 0)), (va 10, aZ cs 8 (fun _ => 0)), (va 11, aI cs 40 (fun _ => 0)), (va 12, aZ cs 20 (fun _ => 0)), (va 13, aI cs 240 (fun _ => 0)), (va 14, aI cs 240 (fun _ => 0))] H := hP
  have hD : va_D (fun q : Nat => s.heap.size ≤ q) [(md, .inr (9, [.int 0, .ref (va 0), .ref (va 1), .ref (va 2), .int 0, .ref (va 3), .ref (va 4), .ref (va 5), .ref (va 6), .int 0, .int 0, .int 0, .ref (va 7), .int 0, .ref (va 8), .ref (va 9), .ref (va 10), .int 0, .ref (va 11), .int 0, .int (-1), .int 0, .ref (va 12), .ref (va 13), .ref (va 14)])), (va 0, aI cs 51207 (vf 0)), (va 1, aI cs 170690 (fun _ => 0)), (va 2, aI cs 17069 (fun _ => 0)), (va 3, aZ cs 2 (fun _ => 0)), (va 4, aI cs 60 (fun _ => 0)), (va 5, aI cs 8 (fun _ => 0)), (va 6, aI cs 40 (fun _ => 0)), (va 7, aZ cs 1930 (fun _ => 0)), (va 8, aI cs 4 (fun _ => 0)), (va 9, aI cs 3 (fun _ => 0)), (va 10, aZ cs 8 (fun _ => 0)), (va 11, aI cs 40 (fun _ => 0)), (va 12, aZ cs 20 (fun _ => 0)), (va 13, aI cs 240 (fun _ => 0)), (va 14, aI cs 240 (fun _ => 0))] := hD
  refine lv_aload_n hx hb dL_law_385 rfl (lv_at hl 1 rfl) ?_
  refine lv_aload_n hx hb dL_law_386 rfl (lv_at hl 3 rfl) ?_
  refine lv_iload_n hx hb dL_law_387 rfl (lv_at hl 0 rfl) ?_
  refine lv_iconst (v := 1) hx hb dL_law_388 (by decide) ?_
  refine lv_iadd hx hb dL_law_389 ?_
  refine tpi (y := 1) (by decide) ?_
  refine va_sld hx hb hX hbl hbA hS (vin_c _ _ rfl) dL_law_390 ?_
  refine tpi (y := xs 1) rfl ?_
  refine kV_i (ci := 9) (As := [.int (xs 1)]) (rest := [.int r_1]) (wc := [(md, .inr (9, [.int 0, .ref (va 0), .ref (va 1), .ref (va 2), .int 0, .ref (va 3), .ref (va 4), .ref (va 5), .ref (va 6), .int 0, .int 0, .int 0, .ref (va 7), .int 0, .ref (va 8), .ref (va 9), .ref (va 10), .int 0, .ref (va 11), .int 0, .int (-1), .int 0, .ref (va 12), .ref (va 13), .ref (va 14)]))]) (wr := []) hx hb hml hown hu hK hP hD hS hA hl.1 (c_X9_remove l D cs H.size (xs 1) md (va 0) (va 1) (va 2) (va 3) (va 4) (va 5) (va 6) (va 7) (va 8) (va 9) (va 10) (va 11) (va 12) (va 13) (va 14)) (gV u_1323 u_1324 u_1325 u_76 u_1326) hd_X9_remove ⟨(Nat.le_of_ble_eq_true rfl), (Nat.le_of_ble_eq_true rfl)⟩ [0] [] rfl rfl rfl rfl (by decide) rfl 0 rfl rfl rfl (Nat.le_of_ble_eq_true rfl) dL_law_391 ⟨(Nat.le_of_ble_eq_true rfl), (Nat.le_of_ble_eq_true rfl)⟩ (fun r_4 ut_5 H locs hw_6 hP hD hS => ?_)
  have hP : va_P D vwCl [] H := hP
  have hD : va_D (fun q : Nat => s.heap.size ≤ q) [] := hD
  refine lv_icmp_eq (tgt := 1387) hx hb dL_law_394 (by decide) (fun c_7 => ?_) (fun c_7 => absurd (by grind) c_7)
  exact law_tail hx hb hr hml hown hlocks hu hK hX hbl _ _ hS ls (lv_sub hl [3, 0] rfl) (Nat.le_of_ble_eq_true rfl) (Nat.le_of_ble_eq_true rfl)

set_option maxHeartbeats 4000000 in
set_option maxRecDepth 100000 in
theorem law_c5 {p : Program} {l : Launch} {e : Env} {s : State} {m : MethodId} {below : List Frame} {meth : Method} {c : Code} {b : Nat} {xs : Nat → Int32} {D : va_G} {cs : Nat → ClassId} (hx : p.tables.exec = Jvm.exec) (hb : c.code = code) (hr : meth.sig.returnType = ret) (hml : c.maxLocals = 4) (hown : s.vm.findClass RL = some m.cls) (hlocks : meth.locks = false) (hu : ∀ w ∈ U0, w.before #[Value.ref b] s = true) (hK : kK D cs s) (hX : va_X b 6 xs s s.heap) (hbl : b < s.heap.size) (kd md : Nat) (ua : Nat → Nat) (uf : Nat → Nat → Int32) (va : Nat → Nat) (vf : Nat → Nat → Int32) (u_f_pp6 : ∀ j, j < 240 → ¬ uf 0 j < 0 ∧ uf 0 j < 240) (u_f_drp6 : ∀ j, j < 240 → ¬ uf 1 j < 0 ∧ uf 1 j < 240) (u_f_spp6 : ∀ j, j < 240 → ¬ uf 4 j < 0 ∧ uf 4 j < 240) (h_f_drm1 : ∀ j, j < 7 → uf 3 j = -1) (h_f_spm1 : ∀ j, j < 7 → uf 6 j = -1) (kAL : ∀ j, j < 51207 → vf 0 j = AL j) (H : Heap) (locs : List Loc) (hP : va_P D vwCl (lwW cs kd md ua uf va vf) H) (hD : va_D (fun q : Nat => s.heap.size ≤ q) (lwW cs kd md ua uf va vf)) (hS : va_S (fun q : Nat => s.heap.size ≤ q) s.heap H locs) (ls : Array Slot) (hl : lv_has ls 4 [(3, .int 0), (2, .ref md), (1, .ref kd), (0, .ref b)]) : W p l e room_1 s m #[Value.ref b] below meth c H locs 97 262423 (lw_Z below #[Value.ref b] s) (F0 m 399 ls []) := by
  have hbA : ¬ (fun q : Nat => s.heap.size ≤ q) b := Nat.not_le.mpr hbl
  have hA : ∀ q : Nat, s.heap.size ≤ q → (fun q : Nat => s.heap.size ≤ q) q := fun _ h => h
  refine lv_aload_n hx hb dL_law_399 rfl (lv_at hl 2 rfl) ?_
  refine lv_aload_n hx hb dL_law_400 rfl (lv_at hl 3 rfl) ?_
  refine lv_iload_n hx hb dL_law_401 rfl (lv_at hl 0 rfl) ?_
  refine lv_iconst (v := 1) hx hb dL_law_402 (by decide) ?_
  refine lv_iadd hx hb dL_law_403 ?_
  refine tpi (y := 1) (by decide) ?_
  refine va_sld hx hb hX hbl hbA hS (vin_c _ _ rfl) dL_law_404 ?_
  refine tpi (y := xs 1) rfl ?_
  refine kV_i (ci := 8) (As := [.int (xs 1)]) (rest := []) (wc := [(kd, .inr (8, [.ref (ua 0), .ref (ua 2), .ref (ua 4), .ref (ua 6), .ref (ua 12), .ref (ua 15), .ref (ua 19), .ref (ua 30), .ref (ua 31), .int 0, .ref (ua 32), .ref (ua 56)])), (ua 0, .inr (7, [.ref (ua 1), .int 0]))]) (wr := [(md, .inr (9, [.int 0, .ref (va 0), .ref (va 1), .ref (va 2), .int 0, .ref (va 3), .ref (va 4), .ref (va 5), .ref (va 6), .int 0, .int 0, .int 0, .ref (va 7), .int 0, .ref (va 8), .ref (va 9), .ref (va 10), .int 0, .ref (va 11), .int 0, .int (-1), .int 0, .ref (va 12), .ref (va 13), .ref (va 14)])), (va 0, aI cs 51207 (vf 0)), (va 1, aI cs 170690 (fun _ => 0)), (va 2, aI cs 17069 (fun _ => 0)), (va 3, aZ cs 2 (fun _ => 0)), (va 4, aI cs 60 (fun _ => 0)), (va 5, aI cs 8 (fun _ => 0)), (va 6, aI cs 40 (fun _ => 0)), (va 7, aZ cs 1930 (fun _ => 0)), (va 8, aI cs 4 (fun _ => 0)), (va 9, aI cs 3 (fun _ => 0)), (va 10, aZ cs 8 (fun _ => 0)), (va 11, aI cs 40 (fun _ => 0)), (va 12, aZ cs 20 (fun _ => 0)), (va 13, aI cs 240 (fun _ => 0)), (va 14, aI cs 240 (fun _ => 0))]) hx hb hml hown hu hK hP hD hS hA hl.1 (c_X8_versions l D cs H.size kd (ua 0) (ua 1) (ua 2) (ua 4) (ua 6) (ua 12) (ua 15) (ua 19) (ua 30) (ua 31) (ua 32) (ua 56) (xs 1)) (gV u_654 u_655 u_656 u_66 u_657) hd_X8_versions ⟨(Nat.le_of_ble_eq_true rfl), (Nat.le_of_ble_eq_true rfl)⟩ [0, 1] [81, 82, 83, 84, 85, 86, 87, 88, 89, 90, 91, 92, 93, 94, 95, 96] rfl rfl rfl rfl (by decide) rfl 0 rfl rfl rfl (Nat.le_of_ble_eq_true rfl) dL_law_405 ⟨(Nat.le_of_ble_eq_true rfl), (Nat.le_of_ble_eq_true rfl)⟩ (fun r_1 ut_2 H locs hw_3 hP hD hS => ?_)
  have hP : va_P D vwCl [(md, .inr (9, [.int 0, .ref (va 0), .ref (va 1), .ref (va 2), .int 0, .ref (va 3), .ref (va 4), .ref (va 5), .ref (va 6), .int 0, .int 0, .int 0, .ref (va 7), .int 0, .ref (va 8), .ref (va 9), .ref (va 10), .int 0, .ref (va 11), .int 0, .int (-1), .int 0, .ref (va 12), .ref (va 13), .ref (va 14)])), (va 0, aI cs 51207 (vf 0)), (va 1, aI cs 170690 (fun _ => 0)), (va 2, aI cs 17069 (fun _ => 0)), (va 3, aZ cs 2 (fun _ => 0)), (va 4, aI cs 60 (fun _ => 0)), (va 5, aI cs 8 (fun _ => 0)), (va 6, aI cs 40 (fun _ => 0)), (va 7, aZ cs 1930 (fun _ => 0)), (va 8, aI cs 4 (fun _ => 0)), (va 9, aI cs 3 (fun _ => 0)), (va 10, aZ cs 8 (fun _ => 0)), (va 11, aI cs 40 (fun _ => 0)), (va 12, aZ cs 20 (fun _ => 0)), (va 13, aI cs 240 (fun _ => 0)), (va 14, aI cs 240 (fun _ => 0))] H := hP
  have hD : va_D (fun q : Nat => s.heap.size ≤ q) [(md, .inr (9, [.int 0, .ref (va 0), .ref (va 1), .ref (va 2), .int 0, .ref (va 3), .ref (va 4), .ref (va 5), .ref (va 6), .int 0, .int 0, .int 0, .ref (va 7), .int 0, .ref (va 8), .ref (va 9), .ref (va 10), .int 0, .ref (va 11), .int 0, .int (-1), .int 0, .ref (va 12), .ref (va 13), .ref (va 14)])), (va 0, aI cs 51207 (vf 0)), (va 1, aI cs 170690 (fun _ => 0)), (va 2, aI cs 17069 (fun _ => 0)), (va 3, aZ cs 2 (fun _ => 0)), (va 4, aI cs 60 (fun _ => 0)), (va 5, aI cs 8 (fun _ => 0)), (va 6, aI cs 40 (fun _ => 0)), (va 7, aZ cs 1930 (fun _ => 0)), (va 8, aI cs 4 (fun _ => 0)), (va 9, aI cs 3 (fun _ => 0)), (va 10, aZ cs 8 (fun _ => 0)), (va 11, aI cs 40 (fun _ => 0)), (va 12, aZ cs 20 (fun _ => 0)), (va 13, aI cs 240 (fun _ => 0)), (va 14, aI cs 240 (fun _ => 0))] := hD
  refine lv_aload_n hx hb dL_law_408 rfl (lv_at hl 1 rfl) ?_
  refine lv_aload_n hx hb dL_law_409 rfl (lv_at hl 3 rfl) ?_
  refine lv_iload_n hx hb dL_law_410 rfl (lv_at hl 0 rfl) ?_
  refine lv_iconst (v := 1) hx hb dL_law_411 (by decide) ?_
  refine lv_iadd hx hb dL_law_412 ?_
  refine tpi (y := 1) (by decide) ?_
  refine va_sld hx hb hX hbl hbA hS (vin_c _ _ rfl) dL_law_413 ?_
  refine tpi (y := xs 1) rfl ?_
  refine kV_i (ci := 9) (As := [.int (xs 1)]) (rest := [.int r_1]) (wc := [(md, .inr (9, [.int 0, .ref (va 0), .ref (va 1), .ref (va 2), .int 0, .ref (va 3), .ref (va 4), .ref (va 5), .ref (va 6), .int 0, .int 0, .int 0, .ref (va 7), .int 0, .ref (va 8), .ref (va 9), .ref (va 10), .int 0, .ref (va 11), .int 0, .int (-1), .int 0, .ref (va 12), .ref (va 13), .ref (va 14)]))]) (wr := []) hx hb hml hown hu hK hP hD hS hA hl.1 (c_X9_versions l D cs H.size (xs 1) md (va 0) (va 1) (va 2) (va 3) (va 4) (va 5) (va 6) (va 7) (va 8) (va 9) (va 10) (va 11) (va 12) (va 13) (va 14)) (gV u_1400 u_1401 u_1402 u_76 u_1403) hd_X9_versions ⟨(Nat.le_of_ble_eq_true rfl), (Nat.le_of_ble_eq_true rfl)⟩ [0] [] rfl rfl rfl rfl (by decide) rfl 0 rfl rfl rfl (Nat.le_of_ble_eq_true rfl) dL_law_414 ⟨(Nat.le_of_ble_eq_true rfl), (Nat.le_of_ble_eq_true rfl)⟩ (fun r_4 ut_5 H locs hw_6 hP hD hS => ?_)
  have hP : va_P D vwCl [] H := hP
  have hD : va_D (fun q : Nat => s.heap.size ≤ q) [] := hD
  refine lv_icmp_eq (tgt := 1387) hx hb dL_law_417 (by decide) (fun c_7 => ?_) (fun c_7 => absurd (by grind) c_7)
  exact law_tail hx hb hr hml hown hlocks hu hK hX hbl _ _ hS ls (lv_sub hl [3, 0] rfl) (Nat.le_of_ble_eq_true rfl) (Nat.le_of_ble_eq_true rfl)

set_option maxHeartbeats 4000000 in
set_option maxRecDepth 100000 in
theorem law_c6 {p : Program} {l : Launch} {e : Env} {s : State} {m : MethodId} {below : List Frame} {meth : Method} {c : Code} {b : Nat} {xs : Nat → Int32} {D : va_G} {cs : Nat → ClassId} (hx : p.tables.exec = Jvm.exec) (hb : c.code = code) (hr : meth.sig.returnType = ret) (hml : c.maxLocals = 4) (hown : s.vm.findClass RL = some m.cls) (hlocks : meth.locks = false) (hu : ∀ w ∈ U0, w.before #[Value.ref b] s = true) (hK : kK D cs s) (hX : va_X b 6 xs s s.heap) (hbl : b < s.heap.size) (kd md : Nat) (ua : Nat → Nat) (uf : Nat → Nat → Int32) (va : Nat → Nat) (vf : Nat → Nat → Int32) (u_f_pp6 : ∀ j, j < 240 → ¬ uf 0 j < 0 ∧ uf 0 j < 240) (u_f_drp6 : ∀ j, j < 240 → ¬ uf 1 j < 0 ∧ uf 1 j < 240) (u_f_spp6 : ∀ j, j < 240 → ¬ uf 4 j < 0 ∧ uf 4 j < 240) (h_f_drm1 : ∀ j, j < 7 → uf 3 j = -1) (h_f_spm1 : ∀ j, j < 7 → uf 6 j = -1) (kAL : ∀ j, j < 51207 → vf 0 j = AL j) (H : Heap) (locs : List Loc) (hP : va_P D vwCl (lwW cs kd md ua uf va vf) H) (hD : va_D (fun q : Nat => s.heap.size ≤ q) (lwW cs kd md ua uf va vf)) (hS : va_S (fun q : Nat => s.heap.size ≤ q) s.heap H locs) (ls : Array Slot) (hl : lv_has ls 4 [(3, .int 0), (2, .ref md), (1, .ref kd), (0, .ref b)]) : W p l e room_1 s m #[Value.ref b] below meth c H locs 97 262423 (lw_Z below #[Value.ref b] s) (F0 m 422 ls []) := by
  have hbA : ¬ (fun q : Nat => s.heap.size ≤ q) b := Nat.not_le.mpr hbl
  have hA : ∀ q : Nat, s.heap.size ≤ q → (fun q : Nat => s.heap.size ≤ q) q := fun _ h => h
  refine lv_aload_n hx hb dL_law_422 rfl (lv_at hl 2 rfl) ?_
  refine lv_aload_n hx hb dL_law_423 rfl (lv_at hl 3 rfl) ?_
  refine lv_iload_n hx hb dL_law_424 rfl (lv_at hl 0 rfl) ?_
  refine lv_iconst (v := 1) hx hb dL_law_425 (by decide) ?_
  refine lv_iadd hx hb dL_law_426 ?_
  refine tpi (y := 1) (by decide) ?_
  refine va_sld hx hb hX hbl hbA hS (vin_c _ _ rfl) dL_law_427 ?_
  refine tpi (y := xs 1) rfl ?_
  refine lv_aload_n hx hb dL_law_428 rfl (lv_at hl 3 rfl) ?_
  refine lv_iload_n hx hb dL_law_429 rfl (lv_at hl 0 rfl) ?_
  refine lv_iconst (v := 2) hx hb dL_law_430 (by decide) ?_
  refine lv_iadd hx hb dL_law_431 ?_
  refine tpi (y := 2) (by decide) ?_
  refine va_sld hx hb hX hbl hbA hS (vin_c _ _ rfl) dL_law_432 ?_
  refine tpi (y := xs 2) rfl ?_
  refine lv_aload_n hx hb dL_law_433 rfl (lv_at hl 3 rfl) ?_
  refine lv_iload_n hx hb dL_law_434 rfl (lv_at hl 0 rfl) ?_
  refine lv_iconst (v := 3) hx hb dL_law_435 (by decide) ?_
  refine lv_iadd hx hb dL_law_436 ?_
  refine tpi (y := 3) (by decide) ?_
  refine va_sld hx hb hX hbl hbA hS (vin_c _ _ rfl) dL_law_437 ?_
  refine tpi (y := xs 3) rfl ?_
  refine kV_i (ci := 8) (As := [.int (xs 1), .int (xs 2), .int (xs 3)]) (rest := []) (wc := [(kd, .inr (8, [.ref (ua 0), .ref (ua 2), .ref (ua 4), .ref (ua 6), .ref (ua 12), .ref (ua 15), .ref (ua 19), .ref (ua 30), .ref (ua 31), .int 0, .ref (ua 32), .ref (ua 56)])), (ua 0, .inr (7, [.ref (ua 1), .int 0]))]) (wr := [(md, .inr (9, [.int 0, .ref (va 0), .ref (va 1), .ref (va 2), .int 0, .ref (va 3), .ref (va 4), .ref (va 5), .ref (va 6), .int 0, .int 0, .int 0, .ref (va 7), .int 0, .ref (va 8), .ref (va 9), .ref (va 10), .int 0, .ref (va 11), .int 0, .int (-1), .int 0, .ref (va 12), .ref (va 13), .ref (va 14)])), (va 0, aI cs 51207 (vf 0)), (va 1, aI cs 170690 (fun _ => 0)), (va 2, aI cs 17069 (fun _ => 0)), (va 3, aZ cs 2 (fun _ => 0)), (va 4, aI cs 60 (fun _ => 0)), (va 5, aI cs 8 (fun _ => 0)), (va 6, aI cs 40 (fun _ => 0)), (va 7, aZ cs 1930 (fun _ => 0)), (va 8, aI cs 4 (fun _ => 0)), (va 9, aI cs 3 (fun _ => 0)), (va 10, aZ cs 8 (fun _ => 0)), (va 11, aI cs 40 (fun _ => 0)), (va 12, aZ cs 20 (fun _ => 0)), (va 13, aI cs 240 (fun _ => 0)), (va 14, aI cs 240 (fun _ => 0))]) hx hb hml hown hu hK hP hD hS hA hl.1 (c_X8_version l D cs H.size kd (ua 0) (ua 1) (ua 2) (ua 4) (ua 6) (ua 12) (ua 15) (ua 19) (ua 30) (ua 31) (ua 32) (ua 56) (xs 1) (xs 2) (xs 3)) (gV u_659 u_660 u_661 u_66 u_662) hd_X8_version ⟨(Nat.le_of_ble_eq_true rfl), (Nat.le_of_ble_eq_true rfl)⟩ [0, 1] [81, 82, 83, 84, 85, 86, 87, 88, 89, 90, 91, 92, 93, 94, 95, 96] rfl rfl rfl rfl (by decide) rfl 0 rfl rfl rfl (Nat.le_of_ble_eq_true rfl) dL_law_438 ⟨(Nat.le_of_ble_eq_true rfl), (Nat.le_of_ble_eq_true rfl)⟩ (fun r_1 ut_2 H locs hw_3 hP hD hS => ?_)
  have hP : va_P D vwCl [(md, .inr (9, [.int 0, .ref (va 0), .ref (va 1), .ref (va 2), .int 0, .ref (va 3), .ref (va 4), .ref (va 5), .ref (va 6), .int 0, .int 0, .int 0, .ref (va 7), .int 0, .ref (va 8), .ref (va 9), .ref (va 10), .int 0, .ref (va 11), .int 0, .int (-1), .int 0, .ref (va 12), .ref (va 13), .ref (va 14)])), (va 0, aI cs 51207 (vf 0)), (va 1, aI cs 170690 (fun _ => 0)), (va 2, aI cs 17069 (fun _ => 0)), (va 3, aZ cs 2 (fun _ => 0)), (va 4, aI cs 60 (fun _ => 0)), (va 5, aI cs 8 (fun _ => 0)), (va 6, aI cs 40 (fun _ => 0)), (va 7, aZ cs 1930 (fun _ => 0)), (va 8, aI cs 4 (fun _ => 0)), (va 9, aI cs 3 (fun _ => 0)), (va 10, aZ cs 8 (fun _ => 0)), (va 11, aI cs 40 (fun _ => 0)), (va 12, aZ cs 20 (fun _ => 0)), (va 13, aI cs 240 (fun _ => 0)), (va 14, aI cs 240 (fun _ => 0))] H := hP
  have hD : va_D (fun q : Nat => s.heap.size ≤ q) [(md, .inr (9, [.int 0, .ref (va 0), .ref (va 1), .ref (va 2), .int 0, .ref (va 3), .ref (va 4), .ref (va 5), .ref (va 6), .int 0, .int 0, .int 0, .ref (va 7), .int 0, .ref (va 8), .ref (va 9), .ref (va 10), .int 0, .ref (va 11), .int 0, .int (-1), .int 0, .ref (va 12), .ref (va 13), .ref (va 14)])), (va 0, aI cs 51207 (vf 0)), (va 1, aI cs 170690 (fun _ => 0)), (va 2, aI cs 17069 (fun _ => 0)), (va 3, aZ cs 2 (fun _ => 0)), (va 4, aI cs 60 (fun _ => 0)), (va 5, aI cs 8 (fun _ => 0)), (va 6, aI cs 40 (fun _ => 0)), (va 7, aZ cs 1930 (fun _ => 0)), (va 8, aI cs 4 (fun _ => 0)), (va 9, aI cs 3 (fun _ => 0)), (va 10, aZ cs 8 (fun _ => 0)), (va 11, aI cs 40 (fun _ => 0)), (va 12, aZ cs 20 (fun _ => 0)), (va 13, aI cs 240 (fun _ => 0)), (va 14, aI cs 240 (fun _ => 0))] := hD
  refine lv_aload_n hx hb dL_law_441 rfl (lv_at hl 1 rfl) ?_
  refine lv_aload_n hx hb dL_law_442 rfl (lv_at hl 3 rfl) ?_
  refine lv_iload_n hx hb dL_law_443 rfl (lv_at hl 0 rfl) ?_
  refine lv_iconst (v := 1) hx hb dL_law_444 (by decide) ?_
  refine lv_iadd hx hb dL_law_445 ?_
  refine tpi (y := 1) (by decide) ?_
  refine va_sld hx hb hX hbl hbA hS (vin_c _ _ rfl) dL_law_446 ?_
  refine tpi (y := xs 1) rfl ?_
  refine lv_aload_n hx hb dL_law_447 rfl (lv_at hl 3 rfl) ?_
  refine lv_iload_n hx hb dL_law_448 rfl (lv_at hl 0 rfl) ?_
  refine lv_iconst (v := 2) hx hb dL_law_449 (by decide) ?_
  refine lv_iadd hx hb dL_law_450 ?_
  refine tpi (y := 2) (by decide) ?_
  refine va_sld hx hb hX hbl hbA hS (vin_c _ _ rfl) dL_law_451 ?_
  refine tpi (y := xs 2) rfl ?_
  refine lv_aload_n hx hb dL_law_452 rfl (lv_at hl 3 rfl) ?_
  refine lv_iload_n hx hb dL_law_453 rfl (lv_at hl 0 rfl) ?_
  refine lv_iconst (v := 3) hx hb dL_law_454 (by decide) ?_
  refine lv_iadd hx hb dL_law_455 ?_
  refine tpi (y := 3) (by decide) ?_
  refine va_sld hx hb hX hbl hbA hS (vin_c _ _ rfl) dL_law_456 ?_
  refine tpi (y := xs 3) rfl ?_
  refine kV_i (ci := 9) (As := [.int (xs 1), .int (xs 2), .int (xs 3)]) (rest := [.int r_1]) (wc := [(md, .inr (9, [.int 0, .ref (va 0), .ref (va 1), .ref (va 2), .int 0, .ref (va 3), .ref (va 4), .ref (va 5), .ref (va 6), .int 0, .int 0, .int 0, .ref (va 7), .int 0, .ref (va 8), .ref (va 9), .ref (va 10), .int 0, .ref (va 11), .int 0, .int (-1), .int 0, .ref (va 12), .ref (va 13), .ref (va 14)]))]) (wr := []) hx hb hml hown hu hK hP hD hS hA hl.1 (c_X9_version l D cs H.size (xs 1) (xs 2) (xs 3) md (va 0) (va 1) (va 2) (va 3) (va 4) (va 5) (va 6) (va 7) (va 8) (va 9) (va 10) (va 11) (va 12) (va 13) (va 14)) (gV u_1404 u_1405 u_1406 u_76 u_1407) hd_X9_version ⟨(Nat.le_of_ble_eq_true rfl), (Nat.le_of_ble_eq_true rfl)⟩ [0] [] rfl rfl rfl rfl (by decide) rfl 0 rfl rfl rfl (Nat.le_of_ble_eq_true rfl) dL_law_457 ⟨(Nat.le_of_ble_eq_true rfl), (Nat.le_of_ble_eq_true rfl)⟩ (fun r_4 ut_5 H locs hw_6 hP hD hS => ?_)
  have hP : va_P D vwCl [] H := hP
  have hD : va_D (fun q : Nat => s.heap.size ≤ q) [] := hD
  refine lv_icmp_eq (tgt := 1387) hx hb dL_law_460 (by decide) (fun c_7 => ?_) (fun c_7 => absurd (by grind) c_7)
  exact law_tail hx hb hr hml hown hlocks hu hK hX hbl _ _ hS ls (lv_sub hl [3, 0] rfl) (Nat.le_of_ble_eq_true rfl) (Nat.le_of_ble_eq_true rfl)

set_option maxHeartbeats 4000000 in
set_option maxRecDepth 100000 in
theorem law_c7 {p : Program} {l : Launch} {e : Env} {s : State} {m : MethodId} {below : List Frame} {meth : Method} {c : Code} {b : Nat} {xs : Nat → Int32} {D : va_G} {cs : Nat → ClassId} (hx : p.tables.exec = Jvm.exec) (hb : c.code = code) (hr : meth.sig.returnType = ret) (hml : c.maxLocals = 4) (hown : s.vm.findClass RL = some m.cls) (hlocks : meth.locks = false) (hu : ∀ w ∈ U0, w.before #[Value.ref b] s = true) (hK : kK D cs s) (hX : va_X b 6 xs s s.heap) (hbl : b < s.heap.size) (kd md : Nat) (ua : Nat → Nat) (uf : Nat → Nat → Int32) (va : Nat → Nat) (vf : Nat → Nat → Int32) (u_f_pp6 : ∀ j, j < 240 → ¬ uf 0 j < 0 ∧ uf 0 j < 240) (u_f_drp6 : ∀ j, j < 240 → ¬ uf 1 j < 0 ∧ uf 1 j < 240) (u_f_spp6 : ∀ j, j < 240 → ¬ uf 4 j < 0 ∧ uf 4 j < 240) (h_f_drm1 : ∀ j, j < 7 → uf 3 j = -1) (h_f_spm1 : ∀ j, j < 7 → uf 6 j = -1) (kAL : ∀ j, j < 51207 → vf 0 j = AL j) (H : Heap) (locs : List Loc) (hP : va_P D vwCl (lwW cs kd md ua uf va vf) H) (hD : va_D (fun q : Nat => s.heap.size ≤ q) (lwW cs kd md ua uf va vf)) (hS : va_S (fun q : Nat => s.heap.size ≤ q) s.heap H locs) (ls : Array Slot) (hl : lv_has ls 4 [(3, .int 0), (2, .ref md), (1, .ref kd), (0, .ref b)]) : W p l e room_1 s m #[Value.ref b] below meth c H locs 97 262423 (lw_Z below #[Value.ref b] s) (F0 m 465 ls []) := by
  have hbA : ¬ (fun q : Nat => s.heap.size ≤ q) b := Nat.not_le.mpr hbl
  have hA : ∀ q : Nat, s.heap.size ≤ q → (fun q : Nat => s.heap.size ≤ q) q := fun _ h => h
  refine lv_aload_n hx hb dL_law_465 rfl (lv_at hl 2 rfl) ?_
  refine lv_aload_n hx hb dL_law_466 rfl (lv_at hl 3 rfl) ?_
  refine lv_iload_n hx hb dL_law_467 rfl (lv_at hl 0 rfl) ?_
  refine lv_iconst (v := 1) hx hb dL_law_468 (by decide) ?_
  refine lv_iadd hx hb dL_law_469 ?_
  refine tpi (y := 1) (by decide) ?_
  refine va_sld hx hb hX hbl hbA hS (vin_c _ _ rfl) dL_law_470 ?_
  refine tpi (y := xs 1) rfl ?_
  refine kV_i (ci := 8) (As := [.int (xs 1)]) (rest := []) (wc := [(kd, .inr (8, [.ref (ua 0), .ref (ua 2), .ref (ua 4), .ref (ua 6), .ref (ua 12), .ref (ua 15), .ref (ua 19), .ref (ua 30), .ref (ua 31), .int 0, .ref (ua 32), .ref (ua 56)])), (ua 0, .inr (7, [.ref (ua 1), .int 0]))]) (wr := [(md, .inr (9, [.int 0, .ref (va 0), .ref (va 1), .ref (va 2), .int 0, .ref (va 3), .ref (va 4), .ref (va 5), .ref (va 6), .int 0, .int 0, .int 0, .ref (va 7), .int 0, .ref (va 8), .ref (va 9), .ref (va 10), .int 0, .ref (va 11), .int 0, .int (-1), .int 0, .ref (va 12), .ref (va 13), .ref (va 14)])), (va 0, aI cs 51207 (vf 0)), (va 1, aI cs 170690 (fun _ => 0)), (va 2, aI cs 17069 (fun _ => 0)), (va 3, aZ cs 2 (fun _ => 0)), (va 4, aI cs 60 (fun _ => 0)), (va 5, aI cs 8 (fun _ => 0)), (va 6, aI cs 40 (fun _ => 0)), (va 7, aZ cs 1930 (fun _ => 0)), (va 8, aI cs 4 (fun _ => 0)), (va 9, aI cs 3 (fun _ => 0)), (va 10, aZ cs 8 (fun _ => 0)), (va 11, aI cs 40 (fun _ => 0)), (va 12, aZ cs 20 (fun _ => 0)), (va 13, aI cs 240 (fun _ => 0)), (va 14, aI cs 240 (fun _ => 0))]) hx hb hml hown hu hK hP hD hS hA hl.1 (c_X8_hash l D cs H.size kd (ua 0) (ua 1) (ua 2) (ua 4) (ua 6) (ua 12) (ua 15) (ua 19) (ua 30) (ua 31) (ua 32) (ua 56) (xs 1)) (gV u_669 u_670 u_671 u_66 u_672) hd_X8_hash ⟨(Nat.le_of_ble_eq_true rfl), (Nat.le_of_ble_eq_true rfl)⟩ [0, 1] [81, 82, 83, 84, 85, 86, 87, 88, 89, 90, 91, 92, 93, 94, 95, 96] rfl rfl rfl rfl (by decide) rfl 0 rfl rfl rfl (Nat.le_of_ble_eq_true rfl) dL_law_471 ⟨(Nat.le_of_ble_eq_true rfl), (Nat.le_of_ble_eq_true rfl)⟩ (fun r_1 ut_2 H locs hw_3 hP hD hS => ?_)
  have hP : va_P D vwCl [(md, .inr (9, [.int 0, .ref (va 0), .ref (va 1), .ref (va 2), .int 0, .ref (va 3), .ref (va 4), .ref (va 5), .ref (va 6), .int 0, .int 0, .int 0, .ref (va 7), .int 0, .ref (va 8), .ref (va 9), .ref (va 10), .int 0, .ref (va 11), .int 0, .int (-1), .int 0, .ref (va 12), .ref (va 13), .ref (va 14)])), (va 0, aI cs 51207 (vf 0)), (va 1, aI cs 170690 (fun _ => 0)), (va 2, aI cs 17069 (fun _ => 0)), (va 3, aZ cs 2 (fun _ => 0)), (va 4, aI cs 60 (fun _ => 0)), (va 5, aI cs 8 (fun _ => 0)), (va 6, aI cs 40 (fun _ => 0)), (va 7, aZ cs 1930 (fun _ => 0)), (va 8, aI cs 4 (fun _ => 0)), (va 9, aI cs 3 (fun _ => 0)), (va 10, aZ cs 8 (fun _ => 0)), (va 11, aI cs 40 (fun _ => 0)), (va 12, aZ cs 20 (fun _ => 0)), (va 13, aI cs 240 (fun _ => 0)), (va 14, aI cs 240 (fun _ => 0))] H := hP
  have hD : va_D (fun q : Nat => s.heap.size ≤ q) [(md, .inr (9, [.int 0, .ref (va 0), .ref (va 1), .ref (va 2), .int 0, .ref (va 3), .ref (va 4), .ref (va 5), .ref (va 6), .int 0, .int 0, .int 0, .ref (va 7), .int 0, .ref (va 8), .ref (va 9), .ref (va 10), .int 0, .ref (va 11), .int 0, .int (-1), .int 0, .ref (va 12), .ref (va 13), .ref (va 14)])), (va 0, aI cs 51207 (vf 0)), (va 1, aI cs 170690 (fun _ => 0)), (va 2, aI cs 17069 (fun _ => 0)), (va 3, aZ cs 2 (fun _ => 0)), (va 4, aI cs 60 (fun _ => 0)), (va 5, aI cs 8 (fun _ => 0)), (va 6, aI cs 40 (fun _ => 0)), (va 7, aZ cs 1930 (fun _ => 0)), (va 8, aI cs 4 (fun _ => 0)), (va 9, aI cs 3 (fun _ => 0)), (va 10, aZ cs 8 (fun _ => 0)), (va 11, aI cs 40 (fun _ => 0)), (va 12, aZ cs 20 (fun _ => 0)), (va 13, aI cs 240 (fun _ => 0)), (va 14, aI cs 240 (fun _ => 0))] := hD
  refine lv_aload_n hx hb dL_law_474 rfl (lv_at hl 1 rfl) ?_
  refine lv_aload_n hx hb dL_law_475 rfl (lv_at hl 3 rfl) ?_
  refine lv_iload_n hx hb dL_law_476 rfl (lv_at hl 0 rfl) ?_
  refine lv_iconst (v := 1) hx hb dL_law_477 (by decide) ?_
  refine lv_iadd hx hb dL_law_478 ?_
  refine tpi (y := 1) (by decide) ?_
  refine va_sld hx hb hX hbl hbA hS (vin_c _ _ rfl) dL_law_479 ?_
  refine tpi (y := xs 1) rfl ?_
  refine kV_i (ci := 9) (As := [.int (xs 1)]) (rest := [.int r_1]) (wc := [(md, .inr (9, [.int 0, .ref (va 0), .ref (va 1), .ref (va 2), .int 0, .ref (va 3), .ref (va 4), .ref (va 5), .ref (va 6), .int 0, .int 0, .int 0, .ref (va 7), .int 0, .ref (va 8), .ref (va 9), .ref (va 10), .int 0, .ref (va 11), .int 0, .int (-1), .int 0, .ref (va 12), .ref (va 13), .ref (va 14)]))]) (wr := []) hx hb hml hown hu hK hP hD hS hA hl.1 (c_X9_hash l D cs H.size (xs 1) md (va 0) (va 1) (va 2) (va 3) (va 4) (va 5) (va 6) (va 7) (va 8) (va 9) (va 10) (va 11) (va 12) (va 13) (va 14)) (gV u_1408 u_1409 u_1410 u_76 u_1411) hd_X9_hash ⟨(Nat.le_of_ble_eq_true rfl), (Nat.le_of_ble_eq_true rfl)⟩ [0] [] rfl rfl rfl rfl (by decide) rfl 0 rfl rfl rfl (Nat.le_of_ble_eq_true rfl) dL_law_480 ⟨(Nat.le_of_ble_eq_true rfl), (Nat.le_of_ble_eq_true rfl)⟩ (fun r_4 ut_5 H locs hw_6 hP hD hS => ?_)
  have hP : va_P D vwCl [] H := hP
  have hD : va_D (fun q : Nat => s.heap.size ≤ q) [] := hD
  refine lv_icmp_eq (tgt := 1387) hx hb dL_law_483 (by decide) (fun c_7 => ?_) (fun c_7 => absurd (by grind) c_7)
  exact law_tail hx hb hr hml hown hlocks hu hK hX hbl _ _ hS ls (lv_sub hl [3, 0] rfl) (Nat.le_of_ble_eq_true rfl) (Nat.le_of_ble_eq_true rfl)

set_option maxHeartbeats 4000000 in
set_option maxRecDepth 100000 in
theorem law_c8 {p : Program} {l : Launch} {e : Env} {s : State} {m : MethodId} {below : List Frame} {meth : Method} {c : Code} {b : Nat} {xs : Nat → Int32} {D : va_G} {cs : Nat → ClassId} (hx : p.tables.exec = Jvm.exec) (hb : c.code = code) (hr : meth.sig.returnType = ret) (hml : c.maxLocals = 4) (hown : s.vm.findClass RL = some m.cls) (hlocks : meth.locks = false) (hu : ∀ w ∈ U0, w.before #[Value.ref b] s = true) (hK : kK D cs s) (hX : va_X b 6 xs s s.heap) (hbl : b < s.heap.size) (kd md : Nat) (ua : Nat → Nat) (uf : Nat → Nat → Int32) (va : Nat → Nat) (vf : Nat → Nat → Int32) (u_f_pp6 : ∀ j, j < 240 → ¬ uf 0 j < 0 ∧ uf 0 j < 240) (u_f_drp6 : ∀ j, j < 240 → ¬ uf 1 j < 0 ∧ uf 1 j < 240) (u_f_spp6 : ∀ j, j < 240 → ¬ uf 4 j < 0 ∧ uf 4 j < 240) (h_f_drm1 : ∀ j, j < 7 → uf 3 j = -1) (h_f_spm1 : ∀ j, j < 7 → uf 6 j = -1) (kAL : ∀ j, j < 51207 → vf 0 j = AL j) (H : Heap) (locs : List Loc) (hP : va_P D vwCl (lwW cs kd md ua uf va vf) H) (hD : va_D (fun q : Nat => s.heap.size ≤ q) (lwW cs kd md ua uf va vf)) (hS : va_S (fun q : Nat => s.heap.size ≤ q) s.heap H locs) (ls : Array Slot) (hl : lv_has ls 4 [(3, .int 0), (2, .ref md), (1, .ref kd), (0, .ref b)]) : W p l e room_1 s m #[Value.ref b] below meth c H locs 97 262423 (lw_Z below #[Value.ref b] s) (F0 m 488 ls []) := by
  have hbA : ¬ (fun q : Nat => s.heap.size ≤ q) b := Nat.not_le.mpr hbl
  have hA : ∀ q : Nat, s.heap.size ≤ q → (fun q : Nat => s.heap.size ≤ q) q := fun _ h => h
  refine lv_aload_n hx hb dL_law_488 rfl (lv_at hl 2 rfl) ?_
  refine lv_aload_n hx hb dL_law_489 rfl (lv_at hl 3 rfl) ?_
  refine lv_iload_n hx hb dL_law_490 rfl (lv_at hl 0 rfl) ?_
  refine lv_iconst (v := 1) hx hb dL_law_491 (by decide) ?_
  refine lv_iadd hx hb dL_law_492 ?_
  refine tpi (y := 1) (by decide) ?_
  refine va_sld hx hb hX hbl hbA hS (vin_c _ _ rfl) dL_law_493 ?_
  refine tpi (y := xs 1) rfl ?_
  refine kV_i (ci := 8) (As := [.int (xs 1)]) (rest := []) (wc := [(kd, .inr (8, [.ref (ua 0), .ref (ua 2), .ref (ua 4), .ref (ua 6), .ref (ua 12), .ref (ua 15), .ref (ua 19), .ref (ua 30), .ref (ua 31), .int 0, .ref (ua 32), .ref (ua 56)])), (ua 0, .inr (7, [.ref (ua 1), .int 0])), (ua 6, .inr (1, [.int 0, .int (-1), .int 0, .ref (ua 7), .ref (ua 8), .ref (ua 9), .ref (ua 10), .ref (ua 11)])), (ua 30, aD cs 10 (fun _ => none)), (ua 32, .inr (2, [.int 0, .ref (ua 33), .ref (ua 44), .ref (ua 51)])), (ua 33, .inr (6, [.int 0, .int 0, .int (-1), .int 0, .int 0, .int 0, .int 240, .ref (ua 34), .ref (ua 35), .ref (ua 36), .ref (ua 37), .ref (ua 38), .ref (ua 39), .ref (ua 40), .ref (ua 41), .ref (ua 42), .ref (ua 43)])), (ua 34, aI cs 24 (fun _ => 0)), (ua 35, aI cs 24 (fun _ => 0)), (ua 36, aI cs 24 (fun _ => 0)), (ua 37, aI cs 240 (fun _ => 0)), (ua 38, aI cs 240 (fun _ => 0)), (ua 39, aI cs 240 (uf 1)), (ua 40, aI cs 240 (fun _ => 0)), (ua 41, aI cs 240 (fun _ => 0)), (ua 42, aI cs 240 (fun _ => 0)), (ua 43, aB cs 1536 (fun _ => 0)), (ua 44, .inr (3, [.int 0, .ref (ua 45), .ref (ua 46), .ref (ua 47), .ref (ua 48), .ref (ua 49), .ref (ua 50)])), (ua 45, aI cs 240 (uf 2)), (ua 46, aJ cs 240 (fun _ => 0)), (ua 47, aI cs 240 (fun _ => 0)), (ua 48, aI cs 240 (fun _ => 0)), (ua 49, aI cs 2160 (fun _ => 0)), (ua 50, aI cs 2160 (fun _ => 0)), (ua 51, .inr (4, [.ref (ua 52), .ref (ua 53), .ref (ua 54), .ref (ua 55)])), (ua 52, aI cs 7 (uf 3)), (ua 53, aJ cs 3 (fun _ => 0)), (ua 54, aI cs 3 (fun _ => 0)), (ua 55, aI cs 3 (fun _ => 0)), (ua 56, .inr (2, [.int 0, .ref (ua 57), .ref (ua 68), .ref (ua 75)])), (ua 57, .inr (6, [.int 0, .int 0, .int (-1), .int 0, .int 0, .int 0, .int 240, .ref (ua 58), .ref (ua 59), .ref (ua 60), .ref (ua 61), .ref (ua 62), .ref (ua 63), .ref (ua 64), .ref (ua 65), .ref (ua 66), .ref (ua 67)])), (ua 58, aI cs 24 (fun _ => 0)), (ua 59, aI cs 24 (fun _ => 0)), (ua 60, aI cs 24 (fun _ => 0)), (ua 61, aI cs 240 (fun _ => 0)), (ua 62, aI cs 240 (fun _ => 0)), (ua 63, aI cs 240 (uf 4)), (ua 64, aI cs 240 (fun _ => 0)), (ua 65, aI cs 240 (fun _ => 0)), (ua 66, aI cs 240 (fun _ => 0)), (ua 67, aB cs 1536 (fun _ => 0)), (ua 68, .inr (3, [.int 0, .ref (ua 69), .ref (ua 70), .ref (ua 71), .ref (ua 72), .ref (ua 73), .ref (ua 74)])), (ua 69, aI cs 240 (uf 5)), (ua 70, aJ cs 240 (fun _ => 0)), (ua 71, aI cs 240 (fun _ => 0)), (ua 72, aI cs 240 (fun _ => 0)), (ua 73, aI cs 2160 (fun _ => 0)), (ua 74, aI cs 2160 (fun _ => 0)), (ua 75, .inr (4, [.ref (ua 76), .ref (ua 77), .ref (ua 78), .ref (ua 79)])), (ua 76, aI cs 7 (uf 6)), (ua 77, aJ cs 3 (fun _ => 0)), (ua 78, aI cs 3 (fun _ => 0)), (ua 79, aI cs 3 (fun _ => 0))]) (wr := [(md, .inr (9, [.int 0, .ref (va 0), .ref (va 1), .ref (va 2), .int 0, .ref (va 3), .ref (va 4), .ref (va 5), .ref (va 6), .int 0, .int 0, .int 0, .ref (va 7), .int 0, .ref (va 8), .ref (va 9), .ref (va 10), .int 0, .ref (va 11), .int 0, .int (-1), .int 0, .ref (va 12), .ref (va 13), .ref (va 14)])), (va 0, aI cs 51207 (vf 0)), (va 1, aI cs 170690 (fun _ => 0)), (va 2, aI cs 17069 (fun _ => 0)), (va 3, aZ cs 2 (fun _ => 0)), (va 4, aI cs 60 (fun _ => 0)), (va 5, aI cs 8 (fun _ => 0)), (va 6, aI cs 40 (fun _ => 0)), (va 7, aZ cs 1930 (fun _ => 0)), (va 8, aI cs 4 (fun _ => 0)), (va 9, aI cs 3 (fun _ => 0)), (va 10, aZ cs 8 (fun _ => 0)), (va 11, aI cs 40 (fun _ => 0)), (va 12, aZ cs 20 (fun _ => 0)), (va 13, aI cs 240 (fun _ => 0)), (va 14, aI cs 240 (fun _ => 0))]) hx hb hml hown hu hK hP hD hS hA hl.1 (c_X8_batch l D cs H.size kd (ua 0) (ua 1) (ua 2) (ua 4) (ua 6) (ua 7) (ua 8) (ua 9) (ua 10) (ua 11) (ua 12) (ua 15) (ua 19) (ua 30) (ua 31) (ua 32) (ua 33) (ua 34) (fun _ => 0) (ua 35) (fun _ => 0) (ua 36) (fun _ => 0) (ua 37) (fun _ => 0) (ua 38) (fun _ => 0) (ua 39) (uf 1) (ua 40) (fun _ => 0) (ua 41) (fun _ => 0) (ua 42) (fun _ => 0) (ua 43) (fun _ => 0) (ua 44) (ua 45) (uf 2) (ua 46) (fun _ => 0) (ua 47) (fun _ => 0) (ua 48) (fun _ => 0) (ua 49) (fun _ => 0) (ua 50) (fun _ => 0) (ua 51) (ua 52) (uf 3) (ua 53) (fun _ => 0) (ua 54) (fun _ => 0) (ua 55) (fun _ => 0) (ua 56) (ua 57) (ua 58) (fun _ => 0) (ua 59) (fun _ => 0) (ua 60) (fun _ => 0) (ua 61) (fun _ => 0) (ua 62) (fun _ => 0) (ua 63) (uf 4) (ua 64) (fun _ => 0) (ua 65) (fun _ => 0) (ua 66) (fun _ => 0) (ua 67) (fun _ => 0) (ua 68) (ua 69) (uf 5) (ua 70) (fun _ => 0) (ua 71) (fun _ => 0) (ua 72) (fun _ => 0) (ua 73) (fun _ => 0) (ua 74) (fun _ => 0) (ua 75) (ua 76) (uf 6) (ua 77) (fun _ => 0) (ua 78) (fun _ => 0) (ua 79) (fun _ => 0) (xs 1) zr zr zr zr zr zr zr zr zr zr zr zr zr h_f_drm1 zr zr) (gV u_673 u_674 u_675 u_66 u_676) hd_X8_batch ⟨(Nat.le_of_ble_eq_true rfl), (Nat.le_of_ble_eq_true rfl)⟩ [0, 1, 7, 31, 33, 34, 35, 36, 37, 38, 39, 40, 41, 42, 43, 44, 45, 46, 47, 48, 49, 50, 51, 52, 53, 54, 55, 56, 57, 58, 59, 60, 61, 62, 63, 64, 65, 66, 67, 68, 69, 70, 71, 72, 73, 74, 75, 76, 77, 78, 79, 80] [81, 82, 83, 84, 85, 86, 87, 88, 89, 90, 91, 92, 93, 94, 95, 96] rfl rfl rfl rfl (by decide) rfl 0 rfl rfl rfl (Nat.le_of_ble_eq_true rfl) dL_law_494 ⟨(Nat.le_of_ble_eq_true rfl), (Nat.le_of_ble_eq_true rfl)⟩ (fun r_1 ut_2 H locs hw_3 hP hD hS => ?_)
  have hP : va_P D vwCl [(md, .inr (9, [.int 0, .ref (va 0), .ref (va 1), .ref (va 2), .int 0, .ref (va 3), .ref (va 4), .ref (va 5), .ref (va 6), .int 0, .int 0, .int 0, .ref (va 7), .int 0, .ref (va 8), .ref (va 9), .ref (va 10), .int 0, .ref (va 11), .int 0, .int (-1), .int 0, .ref (va 12), .ref (va 13), .ref (va 14)])), (va 0, aI cs 51207 (vf 0)), (va 1, aI cs 170690 (fun _ => 0)), (va 2, aI cs 17069 (fun _ => 0)), (va 3, aZ cs 2 (fun _ => 0)), (va 4, aI cs 60 (fun _ => 0)), (va 5, aI cs 8 (fun _ => 0)), (va 6, aI cs 40 (fun _ => 0)), (va 7, aZ cs 1930 (fun _ => 0)), (va 8, aI cs 4 (fun _ => 0)), (va 9, aI cs 3 (fun _ => 0)), (va 10, aZ cs 8 (fun _ => 0)), (va 11, aI cs 40 (fun _ => 0)), (va 12, aZ cs 20 (fun _ => 0)), (va 13, aI cs 240 (fun _ => 0)), (va 14, aI cs 240 (fun _ => 0))] H := hP
  have hD : va_D (fun q : Nat => s.heap.size ≤ q) [(md, .inr (9, [.int 0, .ref (va 0), .ref (va 1), .ref (va 2), .int 0, .ref (va 3), .ref (va 4), .ref (va 5), .ref (va 6), .int 0, .int 0, .int 0, .ref (va 7), .int 0, .ref (va 8), .ref (va 9), .ref (va 10), .int 0, .ref (va 11), .int 0, .int (-1), .int 0, .ref (va 12), .ref (va 13), .ref (va 14)])), (va 0, aI cs 51207 (vf 0)), (va 1, aI cs 170690 (fun _ => 0)), (va 2, aI cs 17069 (fun _ => 0)), (va 3, aZ cs 2 (fun _ => 0)), (va 4, aI cs 60 (fun _ => 0)), (va 5, aI cs 8 (fun _ => 0)), (va 6, aI cs 40 (fun _ => 0)), (va 7, aZ cs 1930 (fun _ => 0)), (va 8, aI cs 4 (fun _ => 0)), (va 9, aI cs 3 (fun _ => 0)), (va 10, aZ cs 8 (fun _ => 0)), (va 11, aI cs 40 (fun _ => 0)), (va 12, aZ cs 20 (fun _ => 0)), (va 13, aI cs 240 (fun _ => 0)), (va 14, aI cs 240 (fun _ => 0))] := hD
  refine lv_aload_n hx hb dL_law_497 rfl (lv_at hl 1 rfl) ?_
  refine lv_aload_n hx hb dL_law_498 rfl (lv_at hl 3 rfl) ?_
  refine lv_iload_n hx hb dL_law_499 rfl (lv_at hl 0 rfl) ?_
  refine lv_iconst (v := 1) hx hb dL_law_500 (by decide) ?_
  refine lv_iadd hx hb dL_law_501 ?_
  refine tpi (y := 1) (by decide) ?_
  refine va_sld hx hb hX hbl hbA hS (vin_c _ _ rfl) dL_law_502 ?_
  refine tpi (y := xs 1) rfl ?_
  refine kV_i (ci := 9) (As := [.int (xs 1)]) (rest := [.int r_1]) (wc := [(md, .inr (9, [.int 0, .ref (va 0), .ref (va 1), .ref (va 2), .int 0, .ref (va 3), .ref (va 4), .ref (va 5), .ref (va 6), .int 0, .int 0, .int 0, .ref (va 7), .int 0, .ref (va 8), .ref (va 9), .ref (va 10), .int 0, .ref (va 11), .int 0, .int (-1), .int 0, .ref (va 12), .ref (va 13), .ref (va 14)])), (va 0, aI cs 51207 (vf 0)), (va 1, aI cs 170690 (fun _ => 0)), (va 2, aI cs 17069 (fun _ => 0))]) (wr := []) hx hb hml hown hu hK hP hD hS hA hl.1 (c_X9_batch l D cs H.size (xs 1) md (va 0) (vf 0) (va 1) (fun _ => 0) (va 2) (fun _ => 0) (va 3) (va 4) (va 5) (va 6) (va 7) (va 8) (va 9) (va 10) (va 11) (va 12) (va 13) (va 14) kAL) (gV u_1339 u_1340 u_1341 u_76 u_1342) hd_X9_batch ⟨(Nat.le_of_ble_eq_true rfl), (Nat.le_of_ble_eq_true rfl)⟩ [0, 1, 2, 3] [] rfl rfl rfl rfl (by decide) rfl 0 rfl rfl rfl (Nat.le_of_ble_eq_true rfl) dL_law_503 ⟨(Nat.le_of_ble_eq_true rfl), (Nat.le_of_ble_eq_true rfl)⟩ (fun r_4 ut_5 H locs hw_6 hP hD hS => ?_)
  have hP : va_P D vwCl [] H := hP
  have hD : va_D (fun q : Nat => s.heap.size ≤ q) [] := hD
  refine lv_icmp_eq (tgt := 1387) hx hb dL_law_506 (by decide) (fun c_7 => ?_) (fun c_7 => absurd (by grind) c_7)
  exact law_tail hx hb hr hml hown hlocks hu hK hX hbl _ _ hS ls (lv_sub hl [3, 0] rfl) (Nat.le_of_ble_eq_true rfl) (Nat.le_of_ble_eq_true rfl)

set_option maxHeartbeats 4000000 in
set_option maxRecDepth 100000 in
theorem law_c9 {p : Program} {l : Launch} {e : Env} {s : State} {m : MethodId} {below : List Frame} {meth : Method} {c : Code} {b : Nat} {xs : Nat → Int32} {D : va_G} {cs : Nat → ClassId} (hx : p.tables.exec = Jvm.exec) (hb : c.code = code) (hr : meth.sig.returnType = ret) (hml : c.maxLocals = 4) (hown : s.vm.findClass RL = some m.cls) (hlocks : meth.locks = false) (hu : ∀ w ∈ U0, w.before #[Value.ref b] s = true) (hK : kK D cs s) (hX : va_X b 6 xs s s.heap) (hbl : b < s.heap.size) (kd md : Nat) (ua : Nat → Nat) (uf : Nat → Nat → Int32) (va : Nat → Nat) (vf : Nat → Nat → Int32) (u_f_pp6 : ∀ j, j < 240 → ¬ uf 0 j < 0 ∧ uf 0 j < 240) (u_f_drp6 : ∀ j, j < 240 → ¬ uf 1 j < 0 ∧ uf 1 j < 240) (u_f_spp6 : ∀ j, j < 240 → ¬ uf 4 j < 0 ∧ uf 4 j < 240) (h_f_drm1 : ∀ j, j < 7 → uf 3 j = -1) (h_f_spm1 : ∀ j, j < 7 → uf 6 j = -1) (kAL : ∀ j, j < 51207 → vf 0 j = AL j) (H : Heap) (locs : List Loc) (hP : va_P D vwCl (lwW cs kd md ua uf va vf) H) (hD : va_D (fun q : Nat => s.heap.size ≤ q) (lwW cs kd md ua uf va vf)) (hS : va_S (fun q : Nat => s.heap.size ≤ q) s.heap H locs) (ls : Array Slot) (hl : lv_has ls 4 [(3, .int 0), (2, .ref md), (1, .ref kd), (0, .ref b)]) : W p l e room_1 s m #[Value.ref b] below meth c H locs 97 262423 (lw_Z below #[Value.ref b] s) (F0 m 511 ls []) := by
  have hbA : ¬ (fun q : Nat => s.heap.size ≤ q) b := Nat.not_le.mpr hbl
  have hA : ∀ q : Nat, s.heap.size ≤ q → (fun q : Nat => s.heap.size ≤ q) q := fun _ h => h
  refine lv_aload_n hx hb dL_law_511 rfl (lv_at hl 2 rfl) ?_
  refine lv_aload_n hx hb dL_law_512 rfl (lv_at hl 3 rfl) ?_
  refine lv_iload_n hx hb dL_law_513 rfl (lv_at hl 0 rfl) ?_
  refine lv_iconst (v := 1) hx hb dL_law_514 (by decide) ?_
  refine lv_iadd hx hb dL_law_515 ?_
  refine tpi (y := 1) (by decide) ?_
  refine va_sld hx hb hX hbl hbA hS (vin_c _ _ rfl) dL_law_516 ?_
  refine tpi (y := xs 1) rfl ?_
  refine kV_i (ci := 8) (As := [.int (xs 1)]) (rest := []) (wc := [(kd, .inr (8, [.ref (ua 0), .ref (ua 2), .ref (ua 4), .ref (ua 6), .ref (ua 12), .ref (ua 15), .ref (ua 19), .ref (ua 30), .ref (ua 31), .int 0, .ref (ua 32), .ref (ua 56)])), (ua 6, .inr (1, [.int 0, .int (-1), .int 0, .ref (ua 7), .ref (ua 8), .ref (ua 9), .ref (ua 10), .ref (ua 11)]))]) (wr := [(md, .inr (9, [.int 0, .ref (va 0), .ref (va 1), .ref (va 2), .int 0, .ref (va 3), .ref (va 4), .ref (va 5), .ref (va 6), .int 0, .int 0, .int 0, .ref (va 7), .int 0, .ref (va 8), .ref (va 9), .ref (va 10), .int 0, .ref (va 11), .int 0, .int (-1), .int 0, .ref (va 12), .ref (va 13), .ref (va 14)])), (va 0, aI cs 51207 (vf 0)), (va 1, aI cs 170690 (fun _ => 0)), (va 2, aI cs 17069 (fun _ => 0)), (va 3, aZ cs 2 (fun _ => 0)), (va 4, aI cs 60 (fun _ => 0)), (va 5, aI cs 8 (fun _ => 0)), (va 6, aI cs 40 (fun _ => 0)), (va 7, aZ cs 1930 (fun _ => 0)), (va 8, aI cs 4 (fun _ => 0)), (va 9, aI cs 3 (fun _ => 0)), (va 10, aZ cs 8 (fun _ => 0)), (va 11, aI cs 40 (fun _ => 0)), (va 12, aZ cs 20 (fun _ => 0)), (va 13, aI cs 240 (fun _ => 0)), (va 14, aI cs 240 (fun _ => 0))]) hx hb hml hown hu hK hP hD hS hA hl.1 (c_X8_fault l D cs H.size kd (ua 0) (ua 2) (ua 4) (ua 6) (ua 7) (ua 8) (ua 9) (ua 10) (ua 11) (ua 12) (ua 15) (ua 19) (ua 30) (ua 31) (ua 32) (ua 56) (xs 1)) (gV u_725 u_726 u_727 u_66 u_728) hd_X8_fault ⟨(Nat.le_of_ble_eq_true rfl), (Nat.le_of_ble_eq_true rfl)⟩ [0, 7] [81, 82, 83, 84, 85, 86, 87, 88, 89, 90, 91, 92, 93, 94, 95, 96] rfl rfl rfl rfl (by decide) rfl 0 rfl rfl rfl (Nat.le_of_ble_eq_true rfl) dL_law_517 ⟨(Nat.le_of_ble_eq_true rfl), (Nat.le_of_ble_eq_true rfl)⟩ (fun r_1 ut_2 H locs hw_3 hP hD hS => ?_)
  have hP : va_P D vwCl [(md, .inr (9, [.int 0, .ref (va 0), .ref (va 1), .ref (va 2), .int 0, .ref (va 3), .ref (va 4), .ref (va 5), .ref (va 6), .int 0, .int 0, .int 0, .ref (va 7), .int 0, .ref (va 8), .ref (va 9), .ref (va 10), .int 0, .ref (va 11), .int 0, .int (-1), .int 0, .ref (va 12), .ref (va 13), .ref (va 14)])), (va 0, aI cs 51207 (vf 0)), (va 1, aI cs 170690 (fun _ => 0)), (va 2, aI cs 17069 (fun _ => 0)), (va 3, aZ cs 2 (fun _ => 0)), (va 4, aI cs 60 (fun _ => 0)), (va 5, aI cs 8 (fun _ => 0)), (va 6, aI cs 40 (fun _ => 0)), (va 7, aZ cs 1930 (fun _ => 0)), (va 8, aI cs 4 (fun _ => 0)), (va 9, aI cs 3 (fun _ => 0)), (va 10, aZ cs 8 (fun _ => 0)), (va 11, aI cs 40 (fun _ => 0)), (va 12, aZ cs 20 (fun _ => 0)), (va 13, aI cs 240 (fun _ => 0)), (va 14, aI cs 240 (fun _ => 0))] H := hP
  have hD : va_D (fun q : Nat => s.heap.size ≤ q) [(md, .inr (9, [.int 0, .ref (va 0), .ref (va 1), .ref (va 2), .int 0, .ref (va 3), .ref (va 4), .ref (va 5), .ref (va 6), .int 0, .int 0, .int 0, .ref (va 7), .int 0, .ref (va 8), .ref (va 9), .ref (va 10), .int 0, .ref (va 11), .int 0, .int (-1), .int 0, .ref (va 12), .ref (va 13), .ref (va 14)])), (va 0, aI cs 51207 (vf 0)), (va 1, aI cs 170690 (fun _ => 0)), (va 2, aI cs 17069 (fun _ => 0)), (va 3, aZ cs 2 (fun _ => 0)), (va 4, aI cs 60 (fun _ => 0)), (va 5, aI cs 8 (fun _ => 0)), (va 6, aI cs 40 (fun _ => 0)), (va 7, aZ cs 1930 (fun _ => 0)), (va 8, aI cs 4 (fun _ => 0)), (va 9, aI cs 3 (fun _ => 0)), (va 10, aZ cs 8 (fun _ => 0)), (va 11, aI cs 40 (fun _ => 0)), (va 12, aZ cs 20 (fun _ => 0)), (va 13, aI cs 240 (fun _ => 0)), (va 14, aI cs 240 (fun _ => 0))] := hD
  refine lv_aload_n hx hb dL_law_520 rfl (lv_at hl 1 rfl) ?_
  refine lv_aload_n hx hb dL_law_521 rfl (lv_at hl 3 rfl) ?_
  refine lv_iload_n hx hb dL_law_522 rfl (lv_at hl 0 rfl) ?_
  refine lv_iconst (v := 1) hx hb dL_law_523 (by decide) ?_
  refine lv_iadd hx hb dL_law_524 ?_
  refine tpi (y := 1) (by decide) ?_
  refine va_sld hx hb hX hbl hbA hS (vin_c _ _ rfl) dL_law_525 ?_
  refine tpi (y := xs 1) rfl ?_
  refine kV_i (ci := 9) (As := [.int (xs 1)]) (rest := [.int r_1]) (wc := [(md, .inr (9, [.int 0, .ref (va 0), .ref (va 1), .ref (va 2), .int 0, .ref (va 3), .ref (va 4), .ref (va 5), .ref (va 6), .int 0, .int 0, .int 0, .ref (va 7), .int 0, .ref (va 8), .ref (va 9), .ref (va 10), .int 0, .ref (va 11), .int 0, .int (-1), .int 0, .ref (va 12), .ref (va 13), .ref (va 14)]))]) (wr := []) hx hb hml hown hu hK hP hD hS hA hl.1 (c_X9_fault l D cs H.size (xs 1) md (va 0) (va 1) (va 2) (va 3) (va 4) (va 5) (va 6) (va 7) (va 8) (va 9) (va 10) (va 11) (va 12) (va 13) (va 14)) (gV u_1372 u_1373 u_1374 u_76 u_1375) hd_X9_fault ⟨(Nat.le_of_ble_eq_true rfl), (Nat.le_of_ble_eq_true rfl)⟩ [0] [] rfl rfl rfl rfl (by decide) rfl 0 rfl rfl rfl (Nat.le_of_ble_eq_true rfl) dL_law_526 ⟨(Nat.le_of_ble_eq_true rfl), (Nat.le_of_ble_eq_true rfl)⟩ (fun r_4 ut_5 H locs hw_6 hP hD hS => ?_)
  have hP : va_P D vwCl [] H := hP
  have hD : va_D (fun q : Nat => s.heap.size ≤ q) [] := hD
  refine lv_icmp_eq (tgt := 1387) hx hb dL_law_529 (by decide) (fun c_7 => ?_) (fun c_7 => absurd (by grind) c_7)
  exact law_tail hx hb hr hml hown hlocks hu hK hX hbl _ _ hS ls (lv_sub hl [3, 0] rfl) (Nat.le_of_ble_eq_true rfl) (Nat.le_of_ble_eq_true rfl)

set_option maxHeartbeats 4000000 in
set_option maxRecDepth 100000 in
theorem law_c10 {p : Program} {l : Launch} {e : Env} {s : State} {m : MethodId} {below : List Frame} {meth : Method} {c : Code} {b : Nat} {xs : Nat → Int32} {D : va_G} {cs : Nat → ClassId} (hx : p.tables.exec = Jvm.exec) (hb : c.code = code) (hr : meth.sig.returnType = ret) (hml : c.maxLocals = 4) (hown : s.vm.findClass RL = some m.cls) (hlocks : meth.locks = false) (hu : ∀ w ∈ U0, w.before #[Value.ref b] s = true) (hK : kK D cs s) (hX : va_X b 6 xs s s.heap) (hbl : b < s.heap.size) (kd md : Nat) (ua : Nat → Nat) (uf : Nat → Nat → Int32) (va : Nat → Nat) (vf : Nat → Nat → Int32) (u_f_pp6 : ∀ j, j < 240 → ¬ uf 0 j < 0 ∧ uf 0 j < 240) (u_f_drp6 : ∀ j, j < 240 → ¬ uf 1 j < 0 ∧ uf 1 j < 240) (u_f_spp6 : ∀ j, j < 240 → ¬ uf 4 j < 0 ∧ uf 4 j < 240) (h_f_drm1 : ∀ j, j < 7 → uf 3 j = -1) (h_f_spm1 : ∀ j, j < 7 → uf 6 j = -1) (kAL : ∀ j, j < 51207 → vf 0 j = AL j) (H : Heap) (locs : List Loc) (hP : va_P D vwCl (lwW cs kd md ua uf va vf) H) (hD : va_D (fun q : Nat => s.heap.size ≤ q) (lwW cs kd md ua uf va vf)) (hS : va_S (fun q : Nat => s.heap.size ≤ q) s.heap H locs) (ls : Array Slot) (hl : lv_has ls 4 [(3, .int 0), (2, .ref md), (1, .ref kd), (0, .ref b)]) : W p l e room_1 s m #[Value.ref b] below meth c H locs 97 262423 (lw_Z below #[Value.ref b] s) (F0 m 534 ls []) := by
  have hbA : ¬ (fun q : Nat => s.heap.size ≤ q) b := Nat.not_le.mpr hbl
  have hA : ∀ q : Nat, s.heap.size ≤ q → (fun q : Nat => s.heap.size ≤ q) q := fun _ h => h
  refine lv_aload_n hx hb dL_law_534 rfl (lv_at hl 2 rfl) ?_
  refine lv_aload_n hx hb dL_law_535 rfl (lv_at hl 3 rfl) ?_
  refine lv_iload_n hx hb dL_law_536 rfl (lv_at hl 0 rfl) ?_
  refine lv_iconst (v := 1) hx hb dL_law_537 (by decide) ?_
  refine lv_iadd hx hb dL_law_538 ?_
  refine tpi (y := 1) (by decide) ?_
  refine va_sld hx hb hX hbl hbA hS (vin_c _ _ rfl) dL_law_539 ?_
  refine tpi (y := xs 1) rfl ?_
  refine kV_i (ci := 8) (As := [.int (xs 1)]) (rest := []) (wc := [(kd, .inr (8, [.ref (ua 0), .ref (ua 2), .ref (ua 4), .ref (ua 6), .ref (ua 12), .ref (ua 15), .ref (ua 19), .ref (ua 30), .ref (ua 31), .int 0, .ref (ua 32), .ref (ua 56)])), (ua 0, .inr (7, [.ref (ua 1), .int 0]))]) (wr := [(md, .inr (9, [.int 0, .ref (va 0), .ref (va 1), .ref (va 2), .int 0, .ref (va 3), .ref (va 4), .ref (va 5), .ref (va 6), .int 0, .int 0, .int 0, .ref (va 7), .int 0, .ref (va 8), .ref (va 9), .ref (va 10), .int 0, .ref (va 11), .int 0, .int (-1), .int 0, .ref (va 12), .ref (va 13), .ref (va 14)])), (va 0, aI cs 51207 (vf 0)), (va 1, aI cs 170690 (fun _ => 0)), (va 2, aI cs 17069 (fun _ => 0)), (va 3, aZ cs 2 (fun _ => 0)), (va 4, aI cs 60 (fun _ => 0)), (va 5, aI cs 8 (fun _ => 0)), (va 6, aI cs 40 (fun _ => 0)), (va 7, aZ cs 1930 (fun _ => 0)), (va 8, aI cs 4 (fun _ => 0)), (va 9, aI cs 3 (fun _ => 0)), (va 10, aZ cs 8 (fun _ => 0)), (va 11, aI cs 40 (fun _ => 0)), (va 12, aZ cs 20 (fun _ => 0)), (va 13, aI cs 240 (fun _ => 0)), (va 14, aI cs 240 (fun _ => 0))]) hx hb hml hown hu hK hP hD hS hA hl.1 (c_X8_seek l D cs H.size kd (ua 0) (ua 1) (ua 2) (ua 4) (ua 6) (ua 12) (ua 15) (ua 19) (ua 30) (ua 31) (ua 32) (ua 56) (xs 1)) (gV u_729 u_730 u_731 u_66 u_732) hd_X8_seek ⟨(Nat.le_of_ble_eq_true rfl), (Nat.le_of_ble_eq_true rfl)⟩ [0, 1] [81, 82, 83, 84, 85, 86, 87, 88, 89, 90, 91, 92, 93, 94, 95, 96] rfl rfl rfl rfl (by decide) rfl 0 rfl rfl rfl (Nat.le_of_ble_eq_true rfl) dL_law_540 ⟨(Nat.le_of_ble_eq_true rfl), (Nat.le_of_ble_eq_true rfl)⟩ (fun r_1 ut_2 H locs hw_3 hP hD hS => ?_)
  have hP : va_P D vwCl [(md, .inr (9, [.int 0, .ref (va 0), .ref (va 1), .ref (va 2), .int 0, .ref (va 3), .ref (va 4), .ref (va 5), .ref (va 6), .int 0, .int 0, .int 0, .ref (va 7), .int 0, .ref (va 8), .ref (va 9), .ref (va 10), .int 0, .ref (va 11), .int 0, .int (-1), .int 0, .ref (va 12), .ref (va 13), .ref (va 14)])), (va 0, aI cs 51207 (vf 0)), (va 1, aI cs 170690 (fun _ => 0)), (va 2, aI cs 17069 (fun _ => 0)), (va 3, aZ cs 2 (fun _ => 0)), (va 4, aI cs 60 (fun _ => 0)), (va 5, aI cs 8 (fun _ => 0)), (va 6, aI cs 40 (fun _ => 0)), (va 7, aZ cs 1930 (fun _ => 0)), (va 8, aI cs 4 (fun _ => 0)), (va 9, aI cs 3 (fun _ => 0)), (va 10, aZ cs 8 (fun _ => 0)), (va 11, aI cs 40 (fun _ => 0)), (va 12, aZ cs 20 (fun _ => 0)), (va 13, aI cs 240 (fun _ => 0)), (va 14, aI cs 240 (fun _ => 0))] H := hP
  have hD : va_D (fun q : Nat => s.heap.size ≤ q) [(md, .inr (9, [.int 0, .ref (va 0), .ref (va 1), .ref (va 2), .int 0, .ref (va 3), .ref (va 4), .ref (va 5), .ref (va 6), .int 0, .int 0, .int 0, .ref (va 7), .int 0, .ref (va 8), .ref (va 9), .ref (va 10), .int 0, .ref (va 11), .int 0, .int (-1), .int 0, .ref (va 12), .ref (va 13), .ref (va 14)])), (va 0, aI cs 51207 (vf 0)), (va 1, aI cs 170690 (fun _ => 0)), (va 2, aI cs 17069 (fun _ => 0)), (va 3, aZ cs 2 (fun _ => 0)), (va 4, aI cs 60 (fun _ => 0)), (va 5, aI cs 8 (fun _ => 0)), (va 6, aI cs 40 (fun _ => 0)), (va 7, aZ cs 1930 (fun _ => 0)), (va 8, aI cs 4 (fun _ => 0)), (va 9, aI cs 3 (fun _ => 0)), (va 10, aZ cs 8 (fun _ => 0)), (va 11, aI cs 40 (fun _ => 0)), (va 12, aZ cs 20 (fun _ => 0)), (va 13, aI cs 240 (fun _ => 0)), (va 14, aI cs 240 (fun _ => 0))] := hD
  refine lv_aload_n hx hb dL_law_543 rfl (lv_at hl 1 rfl) ?_
  refine lv_aload_n hx hb dL_law_544 rfl (lv_at hl 3 rfl) ?_
  refine lv_iload_n hx hb dL_law_545 rfl (lv_at hl 0 rfl) ?_
  refine lv_iconst (v := 1) hx hb dL_law_546 (by decide) ?_
  refine lv_iadd hx hb dL_law_547 ?_
  refine tpi (y := 1) (by decide) ?_
  refine va_sld hx hb hX hbl hbA hS (vin_c _ _ rfl) dL_law_548 ?_
  refine tpi (y := xs 1) rfl ?_
  refine kV_i (ci := 9) (As := [.int (xs 1)]) (rest := [.int r_1]) (wc := [(md, .inr (9, [.int 0, .ref (va 0), .ref (va 1), .ref (va 2), .int 0, .ref (va 3), .ref (va 4), .ref (va 5), .ref (va 6), .int 0, .int 0, .int 0, .ref (va 7), .int 0, .ref (va 8), .ref (va 9), .ref (va 10), .int 0, .ref (va 11), .int 0, .int (-1), .int 0, .ref (va 12), .ref (va 13), .ref (va 14)]))]) (wr := []) hx hb hml hown hu hK hP hD hS hA hl.1 (c_X9_seek l D cs H.size (xs 1) md (va 0) (va 1) (va 2) (va 3) (va 4) (va 5) (va 6) (va 7) (va 8) (va 9) (va 10) (va 11) (va 12) (va 13) (va 14)) (gV u_1376 u_1377 u_1378 u_76 u_1379) hd_X9_seek ⟨(Nat.le_of_ble_eq_true rfl), (Nat.le_of_ble_eq_true rfl)⟩ [0] [] rfl rfl rfl rfl (by decide) rfl 0 rfl rfl rfl (Nat.le_of_ble_eq_true rfl) dL_law_549 ⟨(Nat.le_of_ble_eq_true rfl), (Nat.le_of_ble_eq_true rfl)⟩ (fun r_4 ut_5 H locs hw_6 hP hD hS => ?_)
  have hP : va_P D vwCl [] H := hP
  have hD : va_D (fun q : Nat => s.heap.size ≤ q) [] := hD
  refine lv_icmp_eq (tgt := 1387) hx hb dL_law_552 (by decide) (fun c_7 => ?_) (fun c_7 => absurd (by grind) c_7)
  exact law_tail hx hb hr hml hown hlocks hu hK hX hbl _ _ hS ls (lv_sub hl [3, 0] rfl) (Nat.le_of_ble_eq_true rfl) (Nat.le_of_ble_eq_true rfl)

set_option maxHeartbeats 4000000 in
set_option maxRecDepth 100000 in
theorem law_c11 {p : Program} {l : Launch} {e : Env} {s : State} {m : MethodId} {below : List Frame} {meth : Method} {c : Code} {b : Nat} {xs : Nat → Int32} {D : va_G} {cs : Nat → ClassId} (hx : p.tables.exec = Jvm.exec) (hb : c.code = code) (hr : meth.sig.returnType = ret) (hml : c.maxLocals = 4) (hown : s.vm.findClass RL = some m.cls) (hlocks : meth.locks = false) (hu : ∀ w ∈ U0, w.before #[Value.ref b] s = true) (hK : kK D cs s) (hX : va_X b 6 xs s s.heap) (hbl : b < s.heap.size) (kd md : Nat) (ua : Nat → Nat) (uf : Nat → Nat → Int32) (va : Nat → Nat) (vf : Nat → Nat → Int32) (u_f_pp6 : ∀ j, j < 240 → ¬ uf 0 j < 0 ∧ uf 0 j < 240) (u_f_drp6 : ∀ j, j < 240 → ¬ uf 1 j < 0 ∧ uf 1 j < 240) (u_f_spp6 : ∀ j, j < 240 → ¬ uf 4 j < 0 ∧ uf 4 j < 240) (h_f_drm1 : ∀ j, j < 7 → uf 3 j = -1) (h_f_spm1 : ∀ j, j < 7 → uf 6 j = -1) (kAL : ∀ j, j < 51207 → vf 0 j = AL j) (H : Heap) (locs : List Loc) (hP : va_P D vwCl (lwW cs kd md ua uf va vf) H) (hD : va_D (fun q : Nat => s.heap.size ≤ q) (lwW cs kd md ua uf va vf)) (hS : va_S (fun q : Nat => s.heap.size ≤ q) s.heap H locs) (ls : Array Slot) (hl : lv_has ls 4 [(3, .int 0), (2, .ref md), (1, .ref kd), (0, .ref b)]) : W p l e room_1 s m #[Value.ref b] below meth c H locs 97 262423 (lw_Z below #[Value.ref b] s) (F0 m 557 ls []) := by
  have hbA : ¬ (fun q : Nat => s.heap.size ≤ q) b := Nat.not_le.mpr hbl
  have hA : ∀ q : Nat, s.heap.size ≤ q → (fun q : Nat => s.heap.size ≤ q) q := fun _ h => h
  refine lv_aload_n hx hb dL_law_557 rfl (lv_at hl 2 rfl) ?_
  refine lv_aload_n hx hb dL_law_558 rfl (lv_at hl 3 rfl) ?_
  refine lv_iload_n hx hb dL_law_559 rfl (lv_at hl 0 rfl) ?_
  refine lv_iconst (v := 1) hx hb dL_law_560 (by decide) ?_
  refine lv_iadd hx hb dL_law_561 ?_
  refine tpi (y := 1) (by decide) ?_
  refine va_sld hx hb hX hbl hbA hS (vin_c _ _ rfl) dL_law_562 ?_
  refine tpi (y := xs 1) rfl ?_
  refine lv_aload_n hx hb dL_law_563 rfl (lv_at hl 3 rfl) ?_
  refine lv_iload_n hx hb dL_law_564 rfl (lv_at hl 0 rfl) ?_
  refine lv_iconst (v := 2) hx hb dL_law_565 (by decide) ?_
  refine lv_iadd hx hb dL_law_566 ?_
  refine tpi (y := 2) (by decide) ?_
  refine va_sld hx hb hX hbl hbA hS (vin_c _ _ rfl) dL_law_567 ?_
  refine tpi (y := xs 2) rfl ?_
  refine kV_i (ci := 8) (As := [.int (xs 1), .int (xs 2)]) (rest := []) (wc := [(kd, .inr (8, [.ref (ua 0), .ref (ua 2), .ref (ua 4), .ref (ua 6), .ref (ua 12), .ref (ua 15), .ref (ua 19), .ref (ua 30), .ref (ua 31), .int 0, .ref (ua 32), .ref (ua 56)])), (ua 0, .inr (7, [.ref (ua 1), .int 0]))]) (wr := [(md, .inr (9, [.int 0, .ref (va 0), .ref (va 1), .ref (va 2), .int 0, .ref (va 3), .ref (va 4), .ref (va 5), .ref (va 6), .int 0, .int 0, .int 0, .ref (va 7), .int 0, .ref (va 8), .ref (va 9), .ref (va 10), .int 0, .ref (va 11), .int 0, .int (-1), .int 0, .ref (va 12), .ref (va 13), .ref (va 14)])), (va 0, aI cs 51207 (vf 0)), (va 1, aI cs 170690 (fun _ => 0)), (va 2, aI cs 17069 (fun _ => 0)), (va 3, aZ cs 2 (fun _ => 0)), (va 4, aI cs 60 (fun _ => 0)), (va 5, aI cs 8 (fun _ => 0)), (va 6, aI cs 40 (fun _ => 0)), (va 7, aZ cs 1930 (fun _ => 0)), (va 8, aI cs 4 (fun _ => 0)), (va 9, aI cs 3 (fun _ => 0)), (va 10, aZ cs 8 (fun _ => 0)), (va 11, aI cs 40 (fun _ => 0)), (va 12, aZ cs 20 (fun _ => 0)), (va 13, aI cs 240 (fun _ => 0)), (va 14, aI cs 240 (fun _ => 0))]) hx hb hml hown hu hK hP hD hS hA hl.1 (c_X8_between l D cs H.size kd (ua 0) (ua 1) (ua 2) (ua 4) (ua 6) (ua 12) (ua 15) (ua 19) (ua 30) (ua 31) (ua 32) (ua 56) (xs 1) (xs 2)) (gV u_741 u_742 u_743 u_66 u_744) hd_X8_between ⟨(Nat.le_of_ble_eq_true rfl), (Nat.le_of_ble_eq_true rfl)⟩ [0, 1] [81, 82, 83, 84, 85, 86, 87, 88, 89, 90, 91, 92, 93, 94, 95, 96] rfl rfl rfl rfl (by decide) rfl 0 rfl rfl rfl (Nat.le_of_ble_eq_true rfl) dL_law_568 ⟨(Nat.le_of_ble_eq_true rfl), (Nat.le_of_ble_eq_true rfl)⟩ (fun r_1 ut_2 H locs hw_3 hP hD hS => ?_)
  have hP : va_P D vwCl [(md, .inr (9, [.int 0, .ref (va 0), .ref (va 1), .ref (va 2), .int 0, .ref (va 3), .ref (va 4), .ref (va 5), .ref (va 6), .int 0, .int 0, .int 0, .ref (va 7), .int 0, .ref (va 8), .ref (va 9), .ref (va 10), .int 0, .ref (va 11), .int 0, .int (-1), .int 0, .ref (va 12), .ref (va 13), .ref (va 14)])), (va 0, aI cs 51207 (vf 0)), (va 1, aI cs 170690 (fun _ => 0)), (va 2, aI cs 17069 (fun _ => 0)), (va 3, aZ cs 2 (fun _ => 0)), (va 4, aI cs 60 (fun _ => 0)), (va 5, aI cs 8 (fun _ => 0)), (va 6, aI cs 40 (fun _ => 0)), (va 7, aZ cs 1930 (fun _ => 0)), (va 8, aI cs 4 (fun _ => 0)), (va 9, aI cs 3 (fun _ => 0)), (va 10, aZ cs 8 (fun _ => 0)), (va 11, aI cs 40 (fun _ => 0)), (va 12, aZ cs 20 (fun _ => 0)), (va 13, aI cs 240 (fun _ => 0)), (va 14, aI cs 240 (fun _ => 0))] H := hP
  have hD : va_D (fun q : Nat => s.heap.size ≤ q) [(md, .inr (9, [.int 0, .ref (va 0), .ref (va 1), .ref (va 2), .int 0, .ref (va 3), .ref (va 4), .ref (va 5), .ref (va 6), .int 0, .int 0, .int 0, .ref (va 7), .int 0, .ref (va 8), .ref (va 9), .ref (va 10), .int 0, .ref (va 11), .int 0, .int (-1), .int 0, .ref (va 12), .ref (va 13), .ref (va 14)])), (va 0, aI cs 51207 (vf 0)), (va 1, aI cs 170690 (fun _ => 0)), (va 2, aI cs 17069 (fun _ => 0)), (va 3, aZ cs 2 (fun _ => 0)), (va 4, aI cs 60 (fun _ => 0)), (va 5, aI cs 8 (fun _ => 0)), (va 6, aI cs 40 (fun _ => 0)), (va 7, aZ cs 1930 (fun _ => 0)), (va 8, aI cs 4 (fun _ => 0)), (va 9, aI cs 3 (fun _ => 0)), (va 10, aZ cs 8 (fun _ => 0)), (va 11, aI cs 40 (fun _ => 0)), (va 12, aZ cs 20 (fun _ => 0)), (va 13, aI cs 240 (fun _ => 0)), (va 14, aI cs 240 (fun _ => 0))] := hD
  refine lv_aload_n hx hb dL_law_571 rfl (lv_at hl 1 rfl) ?_
  refine lv_aload_n hx hb dL_law_572 rfl (lv_at hl 3 rfl) ?_
  refine lv_iload_n hx hb dL_law_573 rfl (lv_at hl 0 rfl) ?_
  refine lv_iconst (v := 1) hx hb dL_law_574 (by decide) ?_
  refine lv_iadd hx hb dL_law_575 ?_
  refine tpi (y := 1) (by decide) ?_
  refine va_sld hx hb hX hbl hbA hS (vin_c _ _ rfl) dL_law_576 ?_
  refine tpi (y := xs 1) rfl ?_
  refine lv_aload_n hx hb dL_law_577 rfl (lv_at hl 3 rfl) ?_
  refine lv_iload_n hx hb dL_law_578 rfl (lv_at hl 0 rfl) ?_
  refine lv_iconst (v := 2) hx hb dL_law_579 (by decide) ?_
  refine lv_iadd hx hb dL_law_580 ?_
  refine tpi (y := 2) (by decide) ?_
  refine va_sld hx hb hX hbl hbA hS (vin_c _ _ rfl) dL_law_581 ?_
  refine tpi (y := xs 2) rfl ?_
  refine kV_i (ci := 9) (As := [.int (xs 1), .int (xs 2)]) (rest := [.int r_1]) (wc := [(md, .inr (9, [.int 0, .ref (va 0), .ref (va 1), .ref (va 2), .int 0, .ref (va 3), .ref (va 4), .ref (va 5), .ref (va 6), .int 0, .int 0, .int 0, .ref (va 7), .int 0, .ref (va 8), .ref (va 9), .ref (va 10), .int 0, .ref (va 11), .int 0, .int (-1), .int 0, .ref (va 12), .ref (va 13), .ref (va 14)]))]) (wr := []) hx hb hml hown hu hK hP hD hS hA hl.1 (c_X9_between l D cs H.size (xs 1) (xs 2) md (va 0) (va 1) (va 2) (va 3) (va 4) (va 5) (va 6) (va 7) (va 8) (va 9) (va 10) (va 11) (va 12) (va 13) (va 14)) (gV u_1384 u_1385 u_1386 u_76 u_1387) hd_X9_between ⟨(Nat.le_of_ble_eq_true rfl), (Nat.le_of_ble_eq_true rfl)⟩ [0] [] rfl rfl rfl rfl (by decide) rfl 0 rfl rfl rfl (Nat.le_of_ble_eq_true rfl) dL_law_582 ⟨(Nat.le_of_ble_eq_true rfl), (Nat.le_of_ble_eq_true rfl)⟩ (fun r_4 ut_5 H locs hw_6 hP hD hS => ?_)
  have hP : va_P D vwCl [] H := hP
  have hD : va_D (fun q : Nat => s.heap.size ≤ q) [] := hD
  refine lv_icmp_eq (tgt := 1387) hx hb dL_law_585 (by decide) (fun c_7 => ?_) (fun c_7 => absurd (by grind) c_7)
  exact law_tail hx hb hr hml hown hlocks hu hK hX hbl _ _ hS ls (lv_sub hl [3, 0] rfl) (Nat.le_of_ble_eq_true rfl) (Nat.le_of_ble_eq_true rfl)

