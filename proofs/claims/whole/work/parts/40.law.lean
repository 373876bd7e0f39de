theorem rw_u_399 : Cond.code yX11_row cX11_row 5 (some .long) ∈ zU := zm 399 (by decide +kernel) rfl
theorem rw_u_396 : Cond.methodLink RL 13 yX11_row ∈ zU := zm 396 (by decide +kernel) rfl
theorem rw_u_397 : Cond.instanceMethod yX11_row ∈ zU := zm 397 (by decide +kernel) rfl
theorem rw_u_398 : Cond.selects RX11 yX11_row yX11_row ∈ zU := zm 398 (by decide +kernel) rfl
theorem rw_u_1129 : Cond.code yX12_row cX12_row 5 (some .long) ∈ zU := zm 1129 (by decide +kernel) rfl
theorem rw_u_1126 : Cond.methodLink RL 17 yX12_row ∈ zU := zm 1126 (by decide +kernel) rfl
theorem rw_u_1127 : Cond.instanceMethod yX12_row ∈ zU := zm 1127 (by decide +kernel) rfl
theorem rw_u_1128 : Cond.selects RX12 yX12_row yX12_row ∈ zU := zm 1128 (by decide +kernel) rfl
theorem rw_u_416 : Cond.code yX11_set cX11_set 5 (some .long) ∈ zU := zm 416 (by decide +kernel) rfl
theorem rw_u_413 : Cond.methodLink RL 18 yX11_set ∈ zU := zm 413 (by decide +kernel) rfl
theorem rw_u_414 : Cond.instanceMethod yX11_set ∈ zU := zm 414 (by decide +kernel) rfl
theorem rw_u_415 : Cond.selects RX11 yX11_set yX11_set ∈ zU := zm 415 (by decide +kernel) rfl
theorem rw_u_1147 : Cond.code yX12_set cX12_set 4 (some .long) ∈ zU := zm 1147 (by decide +kernel) rfl
theorem rw_u_1144 : Cond.methodLink RL 21 yX12_set ∈ zU := zm 1144 (by decide +kernel) rfl
theorem rw_u_1145 : Cond.instanceMethod yX12_set ∈ zU := zm 1145 (by decide +kernel) rfl
theorem rw_u_1146 : Cond.selects RX12 yX12_set yX12_set ∈ zU := zm 1146 (by decide +kernel) rfl
theorem rw_u_427 : Cond.code yX11_copy cX11_copy 6 (some .long) ∈ zU := zm 427 (by decide +kernel) rfl
theorem rw_u_424 : Cond.methodLink RL 22 yX11_copy ∈ zU := zm 424 (by decide +kernel) rfl
theorem rw_u_425 : Cond.instanceMethod yX11_copy ∈ zU := zm 425 (by decide +kernel) rfl
theorem rw_u_426 : Cond.selects RX11 yX11_copy yX11_copy ∈ zU := zm 426 (by decide +kernel) rfl
theorem rw_u_1151 : Cond.code yX12_copy cX12_copy 9 (some .long) ∈ zU := zm 1151 (by decide +kernel) rfl
theorem rw_u_1148 : Cond.methodLink RL 26 yX12_copy ∈ zU := zm 1148 (by decide +kernel) rfl
theorem rw_u_1149 : Cond.instanceMethod yX12_copy ∈ zU := zm 1149 (by decide +kernel) rfl
theorem rw_u_1150 : Cond.selects RX12 yX12_copy yX12_copy ∈ zU := zm 1150 (by decide +kernel) rfl
theorem rw_u_438 : Cond.code yX11_drop cX11_drop 3 (some .long) ∈ zU := zm 438 (by decide +kernel) rfl
theorem rw_u_435 : Cond.methodLink RL 27 yX11_drop ∈ zU := zm 435 (by decide +kernel) rfl
theorem rw_u_436 : Cond.instanceMethod yX11_drop ∈ zU := zm 436 (by decide +kernel) rfl
theorem rw_u_437 : Cond.selects RX11 yX11_drop yX11_drop ∈ zU := zm 437 (by decide +kernel) rfl
theorem rw_u_1155 : Cond.code yX12_drop cX12_drop 2 (some .long) ∈ zU := zm 1155 (by decide +kernel) rfl
theorem rw_u_1152 : Cond.methodLink RL 31 yX12_drop ∈ zU := zm 1152 (by decide +kernel) rfl
theorem rw_u_1153 : Cond.instanceMethod yX12_drop ∈ zU := zm 1153 (by decide +kernel) rfl
theorem rw_u_1154 : Cond.selects RX12 yX12_drop yX12_drop ∈ zU := zm 1154 (by decide +kernel) rfl
theorem rw_u_1431 : Cond.constantLong RL 32 4294967295 ∈ zU := zm 1431 (by decide +kernel) rfl
theorem rw_u_442 : Cond.code yX11_feed cX11_feed 5 (some .long) ∈ zU := zm 442 (by decide +kernel) rfl
theorem rw_u_439 : Cond.methodLink RL 34 yX11_feed ∈ zU := zm 439 (by decide +kernel) rfl
theorem rw_u_440 : Cond.instanceMethod yX11_feed ∈ zU := zm 440 (by decide +kernel) rfl
theorem rw_u_441 : Cond.selects RX11 yX11_feed yX11_feed ∈ zU := zm 441 (by decide +kernel) rfl
theorem rw_u_1159 : Cond.code yX12_feed cX12_feed 5 (some .long) ∈ zU := zm 1159 (by decide +kernel) rfl
theorem rw_u_1156 : Cond.methodLink RL 38 yX12_feed ∈ zU := zm 1156 (by decide +kernel) rfl
theorem rw_u_1157 : Cond.instanceMethod yX12_feed ∈ zU := zm 1157 (by decide +kernel) rfl
theorem rw_u_1158 : Cond.selects RX12 yX12_feed yX12_feed ∈ zU := zm 1158 (by decide +kernel) rfl
theorem rw_u_451 : Cond.code yX11_life cX11_life 2 (some .long) ∈ zU := zm 451 (by decide +kernel) rfl
theorem rw_u_448 : Cond.methodLink RL 39 yX11_life ∈ zU := zm 448 (by decide +kernel) rfl
theorem rw_u_449 : Cond.instanceMethod yX11_life ∈ zU := zm 449 (by decide +kernel) rfl
theorem rw_u_450 : Cond.selects RX11 yX11_life yX11_life ∈ zU := zm 450 (by decide +kernel) rfl
theorem rw_u_1166 : Cond.code yX12_life cX12_life 2 (some .long) ∈ zU := zm 1166 (by decide +kernel) rfl
theorem rw_u_1163 : Cond.methodLink RL 43 yX12_life ∈ zU := zm 1163 (by decide +kernel) rfl
theorem rw_u_1164 : Cond.instanceMethod yX12_life ∈ zU := zm 1164 (by decide +kernel) rfl
theorem rw_u_1165 : Cond.selects RX12 yX12_life yX12_life ∈ zU := zm 1165 (by decide +kernel) rfl
theorem rw_u_671 : Cond.code yX11_fault cX11_fault 1 (some .int) ∈ zU := zm 671 (by decide +kernel) rfl
theorem rw_u_668 : Cond.methodLink RL 44 yX11_fault ∈ zU := zm 668 (by decide +kernel) rfl
theorem rw_u_669 : Cond.instanceMethod yX11_fault ∈ zU := zm 669 (by decide +kernel) rfl
theorem rw_u_670 : Cond.selects RX11 yX11_fault yX11_fault ∈ zU := zm 670 (by decide +kernel) rfl
theorem rw_u_1249 : Cond.code yX12_fault cX12_fault 1 (some .int) ∈ zU := zm 1249 (by decide +kernel) rfl
theorem rw_u_1246 : Cond.methodLink RL 48 yX12_fault ∈ zU := zm 1246 (by decide +kernel) rfl
theorem rw_u_1247 : Cond.instanceMethod yX12_fault ∈ zU := zm 1247 (by decide +kernel) rfl
theorem rw_u_1248 : Cond.selects RX12 yX12_fault yX12_fault ∈ zU := zm 1248 (by decide +kernel) rfl
theorem rw_u_675 : Cond.code yX11_whose cX11_whose 3 (some .long) ∈ zU := zm 675 (by decide +kernel) rfl
theorem rw_u_672 : Cond.methodLink RL 49 yX11_whose ∈ zU := zm 672 (by decide +kernel) rfl
theorem rw_u_673 : Cond.instanceMethod yX11_whose ∈ zU := zm 673 (by decide +kernel) rfl
theorem rw_u_674 : Cond.selects RX11 yX11_whose yX11_whose ∈ zU := zm 674 (by decide +kernel) rfl
theorem rw_u_1253 : Cond.code yX12_whose cX12_whose 3 (some .long) ∈ zU := zm 1253 (by decide +kernel) rfl
theorem rw_u_1250 : Cond.methodLink RL 53 yX12_whose ∈ zU := zm 1250 (by decide +kernel) rfl
theorem rw_u_1251 : Cond.instanceMethod yX12_whose ∈ zU := zm 1251 (by decide +kernel) rfl
theorem rw_u_1252 : Cond.selects RX12 yX12_whose yX12_whose ∈ zU := zm 1252 (by decide +kernel) rfl
theorem rw_u_691 : Cond.code yX11_thing cX11_thing 3 (some .long) ∈ zU := zm 691 (by decide +kernel) rfl
theorem rw_u_688 : Cond.methodLink RL 54 yX11_thing ∈ zU := zm 688 (by decide +kernel) rfl
theorem rw_u_689 : Cond.instanceMethod yX11_thing ∈ zU := zm 689 (by decide +kernel) rfl
theorem rw_u_690 : Cond.selects RX11 yX11_thing yX11_thing ∈ zU := zm 690 (by decide +kernel) rfl
theorem rw_u_1291 : Cond.code yX12_thing cX12_thing 3 (some .long) ∈ zU := zm 1291 (by decide +kernel) rfl
theorem rw_u_1288 : Cond.methodLink RL 57 yX12_thing ∈ zU := zm 1288 (by decide +kernel) rfl
theorem rw_u_1289 : Cond.instanceMethod yX12_thing ∈ zU := zm 1289 (by decide +kernel) rfl
theorem rw_u_1290 : Cond.selects RX12 yX12_thing yX12_thing ∈ zU := zm 1290 (by decide +kernel) rfl
theorem rw_u_696 : Cond.code yX11_judge cX11_judge 5 (some .long) ∈ zU := zm 696 (by decide +kernel) rfl
theorem rw_u_693 : Cond.methodLink RL 58 yX11_judge ∈ zU := zm 693 (by decide +kernel) rfl
theorem rw_u_694 : Cond.instanceMethod yX11_judge ∈ zU := zm 694 (by decide +kernel) rfl
theorem rw_u_695 : Cond.selects RX11 yX11_judge yX11_judge ∈ zU := zm 695 (by decide +kernel) rfl
theorem rw_u_1304 : Cond.code yX12_judge cX12_judge 4 (some .long) ∈ zU := zm 1304 (by decide +kernel) rfl
theorem rw_u_1301 : Cond.methodLink RL 61 yX12_judge ∈ zU := zm 1301 (by decide +kernel) rfl
theorem rw_u_1302 : Cond.instanceMethod yX12_judge ∈ zU := zm 1302 (by decide +kernel) rfl
theorem rw_u_1303 : Cond.selects RX12 yX12_judge yX12_judge ∈ zU := zm 1303 (by decide +kernel) rfl
theorem rw_u_704 : Cond.code yX11_purse cX11_purse 3 (some .long) ∈ zU := zm 704 (by decide +kernel) rfl
theorem rw_u_701 : Cond.methodLink RL 62 yX11_purse ∈ zU := zm 701 (by decide +kernel) rfl
theorem rw_u_702 : Cond.instanceMethod yX11_purse ∈ zU := zm 702 (by decide +kernel) rfl
theorem rw_u_703 : Cond.selects RX11 yX11_purse yX11_purse ∈ zU := zm 703 (by decide +kernel) rfl
theorem rw_u_1309 : Cond.code yX12_purse cX12_purse 5 (some .long) ∈ zU := zm 1309 (by decide +kernel) rfl
theorem rw_u_1306 : Cond.methodLink RL 65 yX12_purse ∈ zU := zm 1306 (by decide +kernel) rfl
theorem rw_u_1307 : Cond.instanceMethod yX12_purse ∈ zU := zm 1307 (by decide +kernel) rfl
theorem rw_u_1308 : Cond.selects RX12 yX12_purse yX12_purse ∈ zU := zm 1308 (by decide +kernel) rfl
theorem rw_u_708 : Cond.code yX11_fed cX11_fed 3 (some .long) ∈ zU := zm 708 (by decide +kernel) rfl
theorem rw_u_705 : Cond.methodLink RL 66 yX11_fed ∈ zU := zm 705 (by decide +kernel) rfl
theorem rw_u_706 : Cond.instanceMethod yX11_fed ∈ zU := zm 706 (by decide +kernel) rfl
theorem rw_u_707 : Cond.selects RX11 yX11_fed yX11_fed ∈ zU := zm 707 (by decide +kernel) rfl
theorem rw_u_1322 : Cond.code yX12_fed cX12_fed 3 (some .long) ∈ zU := zm 1322 (by decide +kernel) rfl
theorem rw_u_1319 : Cond.methodLink RL 69 yX12_fed ∈ zU := zm 1319 (by decide +kernel) rfl
theorem rw_u_1320 : Cond.instanceMethod yX12_fed ∈ zU := zm 1320 (by decide +kernel) rfl
theorem rw_u_1321 : Cond.selects RX12 yX12_fed yX12_fed ∈ zU := zm 1321 (by decide +kernel) rfl
theorem rw_u_715 : Cond.code yX11_owed cX11_owed 4 (some .long) ∈ zU := zm 715 (by decide +kernel) rfl
theorem rw_u_712 : Cond.methodLink RL 70 yX11_owed ∈ zU := zm 712 (by decide +kernel) rfl
theorem rw_u_713 : Cond.instanceMethod yX11_owed ∈ zU := zm 713 (by decide +kernel) rfl
theorem rw_u_714 : Cond.selects RX11 yX11_owed yX11_owed ∈ zU := zm 714 (by decide +kernel) rfl
theorem rw_u_1326 : Cond.code yX12_owed cX12_owed 4 (some .long) ∈ zU := zm 1326 (by decide +kernel) rfl
theorem rw_u_1323 : Cond.methodLink RL 73 yX12_owed ∈ zU := zm 1323 (by decide +kernel) rfl
theorem rw_u_1324 : Cond.instanceMethod yX12_owed ∈ zU := zm 1324 (by decide +kernel) rfl
theorem rw_u_1325 : Cond.selects RX12 yX12_owed yX12_owed ∈ zU := zm 1325 (by decide +kernel) rfl
theorem rw_u_731 : Cond.code yX11_net cX11_net 3 (some .long) ∈ zU := zm 731 (by decide +kernel) rfl
theorem rw_u_728 : Cond.methodLink RL 74 yX11_net ∈ zU := zm 728 (by decide +kernel) rfl
theorem rw_u_729 : Cond.instanceMethod yX11_net ∈ zU := zm 729 (by decide +kernel) rfl
theorem rw_u_730 : Cond.selects RX11 yX11_net yX11_net ∈ zU := zm 730 (by decide +kernel) rfl
theorem rw_u_1349 : Cond.code yX12_net cX12_net 3 (some .long) ∈ zU := zm 1349 (by decide +kernel) rfl
theorem rw_u_1346 : Cond.methodLink RL 77 yX12_net ∈ zU := zm 1346 (by decide +kernel) rfl
theorem rw_u_1347 : Cond.instanceMethod yX12_net ∈ zU := zm 1347 (by decide +kernel) rfl
theorem rw_u_1348 : Cond.selects RX12 yX12_net yX12_net ∈ zU := zm 1348 (by decide +kernel) rfl
theorem rw_u_735 : Cond.code yX11_end cX11_end 3 (some .long) ∈ zU := zm 735 (by decide +kernel) rfl
theorem rw_u_732 : Cond.methodLink RL 78 yX11_end ∈ zU := zm 732 (by decide +kernel) rfl
theorem rw_u_733 : Cond.instanceMethod yX11_end ∈ zU := zm 733 (by decide +kernel) rfl
theorem rw_u_734 : Cond.selects RX11 yX11_end yX11_end ∈ zU := zm 734 (by decide +kernel) rfl
theorem rw_u_1353 : Cond.code yX12_end cX12_end 3 (some .long) ∈ zU := zm 1353 (by decide +kernel) rfl
theorem rw_u_1350 : Cond.methodLink RL 81 yX12_end ∈ zU := zm 1350 (by decide +kernel) rfl
theorem rw_u_1351 : Cond.instanceMethod yX12_end ∈ zU := zm 1351 (by decide +kernel) rfl
theorem rw_u_1352 : Cond.selects RX12 yX12_end yX12_end ∈ zU := zm 1352 (by decide +kernel) rfl
theorem rw_u_743 : Cond.code yX11_beside cX11_beside 5 (some .long) ∈ zU := zm 743 (by decide +kernel) rfl
theorem rw_u_740 : Cond.methodLink RL 82 yX11_beside ∈ zU := zm 740 (by decide +kernel) rfl
theorem rw_u_741 : Cond.instanceMethod yX11_beside ∈ zU := zm 741 (by decide +kernel) rfl
theorem rw_u_742 : Cond.selects RX11 yX11_beside yX11_beside ∈ zU := zm 742 (by decide +kernel) rfl
theorem rw_u_1362 : Cond.code yX12_beside cX12_beside 4 (some .long) ∈ zU := zm 1362 (by decide +kernel) rfl
theorem rw_u_1359 : Cond.methodLink RL 85 yX12_beside ∈ zU := zm 1359 (by decide +kernel) rfl
theorem rw_u_1360 : Cond.instanceMethod yX12_beside ∈ zU := zm 1360 (by decide +kernel) rfl
theorem rw_u_1361 : Cond.selects RX12 yX12_beside yX12_beside ∈ zU := zm 1361 (by decide +kernel) rfl
theorem rw_u_749 : Cond.code yX11_hangs cX11_hangs 9 (some .long) ∈ zU := zm 749 (by decide +kernel) rfl
theorem rw_u_746 : Cond.methodLink RL 86 yX11_hangs ∈ zU := zm 746 (by decide +kernel) rfl
theorem rw_u_747 : Cond.instanceMethod yX11_hangs ∈ zU := zm 747 (by decide +kernel) rfl
theorem rw_u_748 : Cond.selects RX11 yX11_hangs yX11_hangs ∈ zU := zm 748 (by decide +kernel) rfl
theorem rw_u_1366 : Cond.code yX12_hangs cX12_hangs 10 (some .long) ∈ zU := zm 1366 (by decide +kernel) rfl
theorem rw_u_1363 : Cond.methodLink RL 89 yX12_hangs ∈ zU := zm 1363 (by decide +kernel) rfl
theorem rw_u_1364 : Cond.instanceMethod yX12_hangs ∈ zU := zm 1364 (by decide +kernel) rfl
theorem rw_u_1365 : Cond.selects RX12 yX12_hangs yX12_hangs ∈ zU := zm 1365 (by decide +kernel) rfl
theorem rw_u_767 : Cond.code yX11_beforehand cX11_beforehand 5 (some .long) ∈ zU := zm 767 (by decide +kernel) rfl
theorem rw_u_764 : Cond.methodLink RL 90 yX11_beforehand ∈ zU := zm 764 (by decide +kernel) rfl
theorem rw_u_765 : Cond.instanceMethod yX11_beforehand ∈ zU := zm 765 (by decide +kernel) rfl
theorem rw_u_766 : Cond.selects RX11 yX11_beforehand yX11_beforehand ∈ zU := zm 766 (by decide +kernel) rfl
theorem rw_u_1370 : Cond.code yX12_beforehand cX12_beforehand 4 (some .long) ∈ zU := zm 1370 (by decide +kernel) rfl
theorem rw_u_1367 : Cond.methodLink RL 93 yX12_beforehand ∈ zU := zm 1367 (by decide +kernel) rfl
theorem rw_u_1368 : Cond.instanceMethod yX12_beforehand ∈ zU := zm 1368 (by decide +kernel) rfl
theorem rw_u_1369 : Cond.selects RX12 yX12_beforehand yX12_beforehand ∈ zU := zm 1369 (by decide +kernel) rfl
theorem rw_u_779 : Cond.code yX11_kind cX11_kind 4 (some .long) ∈ zU := zm 779 (by decide +kernel) rfl
theorem rw_u_776 : Cond.methodLink RL 94 yX11_kind ∈ zU := zm 776 (by decide +kernel) rfl
theorem rw_u_777 : Cond.instanceMethod yX11_kind ∈ zU := zm 777 (by decide +kernel) rfl
theorem rw_u_778 : Cond.selects RX11 yX11_kind yX11_kind ∈ zU := zm 778 (by decide +kernel) rfl
theorem rw_u_1381 : Cond.code yX12_kind cX12_kind 2 (some .long) ∈ zU := zm 1381 (by decide +kernel) rfl
theorem rw_u_1378 : Cond.methodLink RL 97 yX12_kind ∈ zU := zm 1378 (by decide +kernel) rfl
theorem rw_u_1379 : Cond.instanceMethod yX12_kind ∈ zU := zm 1379 (by decide +kernel) rfl
theorem rw_u_1380 : Cond.selects RX12 yX12_kind yX12_kind ∈ zU := zm 1380 (by decide +kernel) rfl
theorem rw_u_871 : Cond.code yX11_as cX11_as 3 (some .long) ∈ zU := zm 871 (by decide +kernel) rfl
theorem rw_u_868 : Cond.methodLink RL 98 yX11_as ∈ zU := zm 868 (by decide +kernel) rfl
theorem rw_u_869 : Cond.instanceMethod yX11_as ∈ zU := zm 869 (by decide +kernel) rfl
theorem rw_u_870 : Cond.selects RX11 yX11_as yX11_as ∈ zU := zm 870 (by decide +kernel) rfl
theorem rw_u_1393 : Cond.code yX12_as cX12_as 3 (some .long) ∈ zU := zm 1393 (by decide +kernel) rfl
theorem rw_u_1390 : Cond.methodLink RL 101 yX12_as ∈ zU := zm 1390 (by decide +kernel) rfl
theorem rw_u_1391 : Cond.instanceMethod yX12_as ∈ zU := zm 1391 (by decide +kernel) rfl
theorem rw_u_1392 : Cond.selects RX12 yX12_as yX12_as ∈ zU := zm 1392 (by decide +kernel) rfl
theorem rw_u_875 : Cond.code yX11_ask cX11_ask 4 (some .long) ∈ zU := zm 875 (by decide +kernel) rfl
theorem rw_u_872 : Cond.methodLink RL 102 yX11_ask ∈ zU := zm 872 (by decide +kernel) rfl
theorem rw_u_873 : Cond.instanceMethod yX11_ask ∈ zU := zm 873 (by decide +kernel) rfl
theorem rw_u_874 : Cond.selects RX11 yX11_ask yX11_ask ∈ zU := zm 874 (by decide +kernel) rfl
theorem rw_u_1402 : Cond.code yX12_ask cX12_ask 3 (some .long) ∈ zU := zm 1402 (by decide +kernel) rfl
theorem rw_u_1399 : Cond.methodLink RL 105 yX12_ask ∈ zU := zm 1399 (by decide +kernel) rfl
theorem rw_u_1400 : Cond.instanceMethod yX12_ask ∈ zU := zm 1400 (by decide +kernel) rfl
theorem rw_u_1401 : Cond.selects RX12 yX12_ask yX12_ask ∈ zU := zm 1401 (by decide +kernel) rfl
theorem rw_u_941 : Cond.code yX11_trace cX11_trace 2 (some .int) ∈ zU := zm 941 (by decide +kernel) rfl
theorem rw_u_938 : Cond.methodLink RL 106 yX11_trace ∈ zU := zm 938 (by decide +kernel) rfl
theorem rw_u_939 : Cond.instanceMethod yX11_trace ∈ zU := zm 939 (by decide +kernel) rfl
theorem rw_u_940 : Cond.selects RX11 yX11_trace yX11_trace ∈ zU := zm 940 (by decide +kernel) rfl
theorem rw_u_1422 : Cond.code yX12_trace cX12_trace 2 (some .int) ∈ zU := zm 1422 (by decide +kernel) rfl
theorem rw_u_1419 : Cond.methodLink RL 110 yX12_trace ∈ zU := zm 1419 (by decide +kernel) rfl
theorem rw_u_1420 : Cond.instanceMethod yX12_trace ∈ zU := zm 1420 (by decide +kernel) rfl
theorem rw_u_1421 : Cond.selects RX12 yX12_trace yX12_trace ∈ zU := zm 1421 (by decide +kernel) rfl
theorem rw_u_945 : Cond.code yX11_count cX11_count 2 (some .long) ∈ zU := zm 945 (by decide +kernel) rfl
theorem rw_u_942 : Cond.methodLink RL 111 yX11_count ∈ zU := zm 942 (by decide +kernel) rfl
theorem rw_u_943 : Cond.instanceMethod yX11_count ∈ zU := zm 943 (by decide +kernel) rfl
theorem rw_u_944 : Cond.selects RX11 yX11_count yX11_count ∈ zU := zm 944 (by decide +kernel) rfl
theorem rw_u_1426 : Cond.code yX12_count cX12_count 4 (some .long) ∈ zU := zm 1426 (by decide +kernel) rfl
theorem rw_u_1423 : Cond.methodLink RL 114 yX12_count ∈ zU := zm 1423 (by decide +kernel) rfl
theorem rw_u_1424 : Cond.instanceMethod yX12_count ∈ zU := zm 1424 (by decide +kernel) rfl
theorem rw_u_1425 : Cond.selects RX12 yX12_count yX12_count ∈ zU := zm 1425 (by decide +kernel) rfl
theorem rw_u_953 : Cond.code yX11_status cX11_status 1 (some .int) ∈ zU := zm 953 (by decide +kernel) rfl
theorem rw_u_950 : Cond.methodLink RL 115 yX11_status ∈ zU := zm 950 (by decide +kernel) rfl
theorem rw_u_951 : Cond.instanceMethod yX11_status ∈ zU := zm 951 (by decide +kernel) rfl
theorem rw_u_952 : Cond.selects RX11 yX11_status yX11_status ∈ zU := zm 952 (by decide +kernel) rfl
theorem rw_u_1430 : Cond.code yX12_status cX12_status 1 (some .int) ∈ zU := zm 1430 (by decide +kernel) rfl
theorem rw_u_1427 : Cond.methodLink RL 118 yX12_status ∈ zU := zm 1427 (by decide +kernel) rfl
theorem rw_u_1428 : Cond.instanceMethod yX12_status ∈ zU := zm 1428 (by decide +kernel) rfl
theorem rw_u_1429 : Cond.selects RX12 yX12_status yX12_status ∈ zU := zm 1429 (by decide +kernel) rfl
/-! THE LAW -/
abbrev zLS : Type := zSt × zSt × zSt × zSt × zSt × zSt × zSt × zSt × zSt × zSt
theorem Ctr.frame {l : Launch} {G : zG} {y : MethodName} {cc : ByteArray} {maxL : Nat} {ret : Option FieldType} {rm : Room} {av : List Value} {Z : Type} {wc : va_W} {wc1 : Z → va_W} {r : Z → Option Value} (h : Ctr l G y cc maxL ret rm av wc r wc1) {w wr : va_W} {w' : Z → va_W} (isC isR isP : List Nat) (hC : isC.map (fun i => w[i]?) = wc.map some) (hnC : va_nd isC = true) (hR : isR.map (fun i => w[i]?) = wr.map some) (hnR : va_nd isR = true) (hdis : ∀ i ∈ isR, i ∉ isC) (hP' : ∀ z, isP.map (fun i => (wr ++ wc1 z)[i]?) = (w' z).map some) (hnP : va_nd isP = true) : Ctr l G y cc maxL ret rm av w r w' := by
  intro sz p e ha hc hk s m args below hf happ hP _
  obtain ⟨q0, q1, qP, qK, qD, qE⟩ := hP
  have hsub := zA_sub (sz := sz) isC hC
  have hPc : va_P G.1 vwCl wc s.heap := by
    intro k q hq
    have h1 : (isC.map (fun i => w[i]?))[k]? = some (some q) := by rw [hC, List.getElem?_map, hq]; rfl
    rw [List.getElem?_map] at h1
    cases hi : isC[k]? with
    | none => rw [hi] at h1; cases h1
    | some i => rw [hi] at h1; exact qP i q (Option.some.inj h1)
  obtain ⟨n, o, a1, a2, a3, ⟨⟨z, b1, b2, b3, b4, b5⟩, L, b6, b7⟩⟩ := h sz p e ha hc hk s m args below hf happ ⟨q0, q1, hPc, qK, qD.sub isC hnC hC, zE.narrow hsub qE⟩ trivial
  refine ⟨n, o, a1, a2, a3, ⟨⟨z, b1, ?_⟩, L, b6, fun q hq => hsub _ (b7 q hq)⟩⟩
  subst q1
  obtain ⟨j1, j2⟩ := va_join (A0 := va_A w s.heap.size) (wr := wr) qP (qD.self (sz := s.heap.size)) isC isR hC hR hnR hdis (fun q h1 h2 => b5.2 q h1 h2) hsub b2 b4
  refine ⟨?_, b3, j2.sub isP hnP (hP' z), b5.1, fun q h1 h2 => b5.2 q h1 (fun z => h2 (hsub q z))⟩
  intro k q hq
  have h1 : (isP.map (fun i => (wr ++ wc1 z)[i]?))[k]? = some (some q) := by rw [hP' z, List.getElem?_map, hq]; rfl
  rw [List.getElem?_map] at h1
  cases hi : isP[k]? with
  | none => rw [hi] at h1; cases h1
  | some i => rw [hi] at h1; exact j1 i q (Option.some.inj h1)
theorem zrmL {rm' : Room} {maxL ce sl : Nat} (h : zRmb room_1 rm' maxL 6000 60000 = true) (hce : ce ≤ 6000) (hsl : sl ≤ 60000) : zRm room_1 rm' maxL ce sl := by
  simp only [zRmb, Bool.and_eq_true, Nat.ble_eq] at h
  exact ⟨h.1, by omega, by omega⟩
theorem z_sld {x : zX} {G : zG} {ce sl pc : Nat} {lv : List (Nat × Value)} {st : List Value} {w : va_W} {own : String} {cc : ByteArray} {nL : Nat} {ret : Option FieldType} {rm : Room} (C : zC x G own cc nL ret rm) {b L : Nat} {sc : Nat → Int32} (hX : va_X b L sc (xs x) (xs x).heap) (hbl : b < (xs x).heap.size) (hbA : ¬ xA x b) (hL : L ≤ 3072) (j : Nat) (hj : j < L) {i : Int32} (hi : i = nI j) (hd : decode cc pc = .ok (.iaload, 1)) (K : zW x G ce sl (pc + 1) lv (.int (sc j) :: st) w) : zW x G ce sl pc lv (.int i :: .ref b :: st) w := fun H locs ls hP hD hS hl => va_sld C.1 C.2.1 hX hbl hbA hS (by rw [hi]; exact vp_in_nI hj (by omega)) hd (by rw [hi, nI_clamp (by omega)]; exact K H locs ls hP hD hS hl)
theorem z_slen {x : zX} {G : zG} {ce sl pc : Nat} {lv : List (Nat × Value)} {st : List Value} {w : va_W} {own : String} {cc : ByteArray} {nL : Nat} {ret : Option FieldType} {rm : Room} (C : zC x G own cc nL ret rm) {b L : Nat} {sc : Nat → Int32} (hX : va_X b L sc (xs x) (xs x).heap) (hbl : b < (xs x).heap.size) (hbA : ¬ xA x b) (hd : decode cc pc = .ok (.arraylength, 1)) (K : zW x G ce sl (pc + 1) lv (.int (nI L) :: st) w) : zW x G ce sl pc lv (.ref b :: st) w := fun H locs ls hP hD hS hl => va_slen C.1 C.2.1 hX hbl hbA hS hd (K H locs ls hP hD hS hl)
theorem znI (k j : Nat) {c : Int32} (h : c = nI j) : nI (6 * k) + c = nI (6 * k + j) := by rw [h, nI_add]
def ls_row (a1 a2 a3 : Int32) (u : zLS) : Option (Bool × zLS) :=
  Option.bind (fX_row u.1 a1 a2 a3) fun y1 => Option.bind (fM_row u.2.2.2.2.2.2.2.2.2 a1 a2 a3) fun y2 => some (decide (y1.1 = y2.1), (y1.2, u.2.1, u.2.2.1, u.2.2.2.1, u.2.2.2.2.1, u.2.2.2.2.2.1, u.2.2.2.2.2.2.1, u.2.2.2.2.2.2.2.1, u.2.2.2.2.2.2.2.2.1, y2.2))
def ls_set (a1 a2 a3 : Int32) (u : zLS) : Option (Bool × zLS) :=
  Option.bind (fX_set u.1 a1 a2 a3) fun y1 => Option.bind (fM_set u.2.2.2.2.2.2.2.2.2 a1 a2 a3) fun y2 => some (decide (y1.1 = y2.1), (y1.2, u.2.1, u.2.2.1, u.2.2.2.1, u.2.2.2.2.1, u.2.2.2.2.2.1, u.2.2.2.2.2.2.1, u.2.2.2.2.2.2.2.1, u.2.2.2.2.2.2.2.2.1, y2.2))
def ls_copy (a1 a2 a3 a4 a5 : Int32) (u : zLS) : Option (Bool × zLS) :=
  Option.bind (fX_copy u.1 a1 a2 a3 a4 a5) fun y1 => Option.bind (fM_copy u.2.2.2.2.2.2.2.2.2 a1 a2 a3 a4 a5) fun y2 => some (decide (y1.1 = y2.1), (y1.2, u.2.1, u.2.2.1, u.2.2.2.1, u.2.2.2.2.1, u.2.2.2.2.2.1, u.2.2.2.2.2.2.1, u.2.2.2.2.2.2.2.1, u.2.2.2.2.2.2.2.2.1, y2.2))
def ls_drop (a1 : Int32) (u : zLS) : Option (Bool × zLS) :=
  Option.bind (fX_drop u.1 a1) fun y1 => Option.bind (fM_drop u.2.2.2.2.2.2.2.2.2 a1) fun y2 => some (decide (y1.1 = y2.1), (y1.2, u.2.1, u.2.2.1, u.2.2.2.1, u.2.2.2.2.1, u.2.2.2.2.2.1, u.2.2.2.2.2.2.1, u.2.2.2.2.2.2.2.1, u.2.2.2.2.2.2.2.2.1, y2.2))
def ls_feed (a1 a2 a3 : Int32) (u : zLS) : Option (Bool × zLS) :=
  Option.bind (fX_feed u.1 u.2.1 (((a1.toInt64) <<< ((32 : Int32).toInt64 &&& 63)) ||| ((a2.toInt64) &&& 4294967295)) a3) fun y1 => Option.bind (fM_feed u.2.2.2.2.2.2.2.2.2 (((a1.toInt64) <<< ((32 : Int32).toInt64 &&& 63)) ||| ((a2.toInt64) &&& 4294967295)) a3) fun y2 => some (decide (y1.1 = y2.1), (u.1, y1.2, u.2.2.1, u.2.2.2.1, u.2.2.2.2.1, u.2.2.2.2.2.1, u.2.2.2.2.2.2.1, u.2.2.2.2.2.2.2.1, u.2.2.2.2.2.2.2.2.1, y2.2))
def ls_life (u : zLS) : Option (Bool × zLS) :=
  Option.bind (fX_life u.1 u.2.1 u.2.2.1 u.2.2.2.1 u.2.2.2.2.1 u.2.2.2.2.2.1) fun y1 => Option.bind (fM_life u.2.2.2.2.2.2.2.2.2) fun y2 => some (decide (y1.1 = y2.1), (y1.2.1, y1.2.2.1, y1.2.2.2.1, y1.2.2.2.2.1, y1.2.2.2.2.2.1, y1.2.2.2.2.2.2, u.2.2.2.2.2.2.1, u.2.2.2.2.2.2.2.1, u.2.2.2.2.2.2.2.2.1, y2.2))
def ls_fault (u : zLS) : Option (Bool × zLS) :=
  Option.bind (fX_fault u.1) fun y1 => Option.bind (fM_fault u.2.2.2.2.2.2.2.2.2) fun y2 => some (decide (y1 = y2.1), (u.1, u.2.1, u.2.2.1, u.2.2.2.1, u.2.2.2.2.1, u.2.2.2.2.2.1, u.2.2.2.2.2.2.1, u.2.2.2.2.2.2.2.1, u.2.2.2.2.2.2.2.2.1, y2.2))
def ls_whose (a1 a2 : Int32) (u : zLS) : Option (Bool × zLS) :=
  Option.bind (fX_whose u.1 u.2.2.1 u.2.2.2.2.1 u.2.2.2.2.2.2.1 a1 a2) fun y1 => Option.bind (fM_whose u.2.2.2.2.2.2.2.2.2 a1 a2) fun y2 => some (decide (y1.1 = y2.1), (u.1, u.2.1, u.2.2.1, u.2.2.2.1, u.2.2.2.2.1, u.2.2.2.2.2.1, y1.2, u.2.2.2.2.2.2.2.1, u.2.2.2.2.2.2.2.2.1, y2.2))
def ls_thing (a1 a2 : Int32) (u : zLS) : Option (Bool × zLS) :=
  Option.bind (fX_thing u.1 u.2.2.1 u.2.2.2.2.1 a1 a2) fun y1 => Option.bind (fM_thing u.2.2.2.2.2.2.2.2.2 a1 a2) fun y2 => some (decide (y1 = y2.1), (u.1, u.2.1, u.2.2.1, u.2.2.2.1, u.2.2.2.2.1, u.2.2.2.2.2.1, u.2.2.2.2.2.2.1, u.2.2.2.2.2.2.2.1, u.2.2.2.2.2.2.2.2.1, y2.2))
def ls_judge (a1 a2 : Int32) (u : zLS) : Option (Bool × zLS) :=
  Option.bind (fX_judge u.1 u.2.2.2.2.1 a1 a2) fun y1 => Option.bind (fM_judge u.2.2.2.2.2.2.2.2.2 a1 a2) fun y2 => some (decide (y1.1 = y2.1), (y1.2, u.2.1, u.2.2.1, u.2.2.2.1, u.2.2.2.2.1, u.2.2.2.2.2.1, u.2.2.2.2.2.2.1, u.2.2.2.2.2.2.2.1, u.2.2.2.2.2.2.2.2.1, y2.2))
def ls_purse (a1 a2 : Int32) (u : zLS) : Option (Bool × zLS) :=
  Option.bind (fX_purse u.1 u.2.2.2.2.1 u.2.2.2.2.2.1 a1 a2) fun y1 => Option.bind (fM_purse u.2.2.2.2.2.2.2.2.2 a1 a2) fun y2 => some (decide (y1 = y2.1), (u.1, u.2.1, u.2.2.1, u.2.2.2.1, u.2.2.2.2.1, u.2.2.2.2.2.1, u.2.2.2.2.2.2.1, u.2.2.2.2.2.2.2.1, u.2.2.2.2.2.2.2.2.1, y2.2))
def ls_fed (a1 a2 : Int32) (u : zLS) : Option (Bool × zLS) :=
  Option.bind (fX_fed u.1 u.2.2.2.2.2.1 a1 a2) fun y1 => Option.bind (fM_fed u.2.2.2.2.2.2.2.2.2 a1 a2) fun y2 => some (decide (y1 = y2.1), (u.1, u.2.1, u.2.2.1, u.2.2.2.1, u.2.2.2.2.1, u.2.2.2.2.2.1, u.2.2.2.2.2.2.1, u.2.2.2.2.2.2.2.1, u.2.2.2.2.2.2.2.2.1, y2.2))
def ls_owed (a1 a2 a3 : Int32) (u : zLS) : Option (Bool × zLS) :=
  Option.bind (fX_owed u.1 u.2.2.2.2.2.1 a1 a2 a3) fun y1 => Option.bind (fM_owed u.2.2.2.2.2.2.2.2.2 a1 a2 a3) fun y2 => some (decide (y1 = y2.1), (u.1, u.2.1, u.2.2.1, u.2.2.2.1, u.2.2.2.2.1, u.2.2.2.2.2.1, u.2.2.2.2.2.2.1, u.2.2.2.2.2.2.2.1, u.2.2.2.2.2.2.2.2.1, y2.2))
def ls_net (a1 a2 : Int32) (u : zLS) : Option (Bool × zLS) :=
  Option.bind (fX_net u.1 u.2.2.2.2.2.1 a1 a2) fun y1 => Option.bind (fM_net u.2.2.2.2.2.2.2.2.2 a1 a2) fun y2 => some (decide (y1 = y2.1), (u.1, u.2.1, u.2.2.1, u.2.2.2.1, u.2.2.2.2.1, u.2.2.2.2.2.1, u.2.2.2.2.2.2.1, u.2.2.2.2.2.2.2.1, u.2.2.2.2.2.2.2.2.1, y2.2))
def ls_end (a1 a2 : Int32) (u : zLS) : Option (Bool × zLS) :=
  Option.bind (fX_end u.1 u.2.2.2.2.2.1 a1 a2) fun y1 => Option.bind (fM_end u.2.2.2.2.2.2.2.2.2 a1 a2) fun y2 => some (decide (y1 = y2.1), (u.1, u.2.1, u.2.2.1, u.2.2.2.1, u.2.2.2.2.1, u.2.2.2.2.2.1, u.2.2.2.2.2.2.1, u.2.2.2.2.2.2.2.1, u.2.2.2.2.2.2.2.2.1, y2.2))
def ls_beside (a1 a2 a3 : Int32) (u : zLS) : Option (Bool × zLS) :=
  Option.bind (fX_beside u.1 u.2.2.1 u.2.2.2.2.2.2.1 u.2.2.2.2.2.2.2.1 a1 a2 a3) fun y1 => Option.bind (fM_beside u.2.2.2.2.2.2.2.2.2 a1 a2 a3) fun y2 => some (decide (y1.1 = y2.1), (u.1, u.2.1, u.2.2.1, u.2.2.2.1, u.2.2.2.2.1, u.2.2.2.2.2.1, y1.2.1, y1.2.2, u.2.2.2.2.2.2.2.2.1, y2.2))
def ls_hangs (u : zLS) : Option (Bool × zLS) :=
  Option.bind (fX_hangs u.1 u.2.2.1 u.2.2.2.2.2.1 u.2.2.2.2.2.2.1 u.2.2.2.2.2.2.2.1) fun y1 => Option.bind (fM_hangs u.2.2.2.2.2.2.2.2.2) fun y2 => some (decide (y1.1 = y2.1), (u.1, u.2.1, u.2.2.1, u.2.2.2.1, u.2.2.2.2.1, u.2.2.2.2.2.1, y1.2.1, y1.2.2, u.2.2.2.2.2.2.2.2.1, y2.2))
def ls_beforehand (a1 a2 : Int32) (u : zLS) : Option (Bool × zLS) :=
  Option.bind (fX_beforehand u.1 u.2.2.1 u.2.2.2.2.2.1 u.2.2.2.2.2.2.1 u.2.2.2.2.2.2.2.1 a1 a2) fun y1 => Option.bind (fM_beforehand u.2.2.2.2.2.2.2.2.2 a1 a2) fun y2 => some (decide (y1.1 = y2.1), (u.1, u.2.1, u.2.2.1, u.2.2.2.1, u.2.2.2.2.1, u.2.2.2.2.2.1, y1.2.1, y1.2.2, u.2.2.2.2.2.2.2.2.1, y2.2))
def ls_kind (a1 : Int32) (u : zLS) : Option (Bool × zLS) :=
  Option.bind (fX_kind u.1 u.2.2.1 u.2.2.2.2.1 u.2.2.2.2.2.2.2.2.1 a1) fun y1 => Option.bind (fM_kind u.2.2.2.2.2.2.2.2.2 a1) fun y2 => some (decide (y1 = y2.1), (u.1, u.2.1, u.2.2.1, u.2.2.2.1, u.2.2.2.2.1, u.2.2.2.2.2.1, u.2.2.2.2.2.2.1, u.2.2.2.2.2.2.2.1, u.2.2.2.2.2.2.2.2.1, y2.2))
def ls_as (a1 a2 : Int32) (u : zLS) : Option (Bool × zLS) :=
  Option.bind (fX_as u.1 u.2.2.1 u.2.2.2.2.1 u.2.2.2.2.2.2.2.2.1 a1 a2) fun y1 => Option.bind (fM_as u.2.2.2.2.2.2.2.2.2 a1 a2) fun y2 => some (decide (y1.1 = y2.1), (y1.2, u.2.1, u.2.2.1, u.2.2.2.1, u.2.2.2.2.1, u.2.2.2.2.2.1, u.2.2.2.2.2.2.1, u.2.2.2.2.2.2.2.1, u.2.2.2.2.2.2.2.2.1, y2.2))
def ls_ask (a1 a2 : Int32) (u : zLS) : Option (Bool × zLS) :=
  Option.bind (fX_ask u.1 u.2.2.1 u.2.2.2.2.1 u.2.2.2.2.2.2.2.2.1 a1 a2) fun y1 => Option.bind (fM_ask u.2.2.2.2.2.2.2.2.2 a1 a2) fun y2 => some (decide (y1.1 = y2.1), (u.1, u.2.1, u.2.2.1, u.2.2.2.1, u.2.2.2.2.1, u.2.2.2.2.2.1, u.2.2.2.2.2.2.1, u.2.2.2.2.2.2.2.1, y1.2, y2.2))
def ls_trace (a1 : Int32) (u : zLS) : Option (Bool × zLS) :=
  Option.bind (fX_trace u.1 u.2.2.2.2.2.2.2.2.1 a1) fun y1 => Option.bind (fM_trace u.2.2.2.2.2.2.2.2.2 a1) fun y2 => some (decide (y1 = y2.1), (u.1, u.2.1, u.2.2.1, u.2.2.2.1, u.2.2.2.2.1, u.2.2.2.2.2.1, u.2.2.2.2.2.2.1, u.2.2.2.2.2.2.2.1, u.2.2.2.2.2.2.2.2.1, y2.2))
def ls_count (a1 : Int32) (u : zLS) : Option (Bool × zLS) :=
  Option.bind (fX_count u.1 u.2.1 u.2.2.1 u.2.2.2.2.1 a1) fun y1 => Option.bind (fM_count u.2.2.2.2.2.2.2.2.2 a1) fun y2 => some (decide (y1 = y2.1), (u.1, u.2.1, u.2.2.1, u.2.2.2.1, u.2.2.2.2.1, u.2.2.2.2.2.1, u.2.2.2.2.2.2.1, u.2.2.2.2.2.2.2.1, u.2.2.2.2.2.2.2.2.1, y2.2))
def ls_status (u : zLS) : Option (Bool × zLS) :=
  Option.bind (fX_status u.1) fun y1 => Option.bind (fM_status u.2.2.2.2.2.2.2.2.2) fun y2 => some (decide (y1 = y2.1), (u.1, u.2.1, u.2.2.1, u.2.2.2.1, u.2.2.2.2.1, u.2.2.2.2.2.1, u.2.2.2.2.2.2.1, u.2.2.2.2.2.2.2.1, u.2.2.2.2.2.2.2.2.1, y2.2))
theorem rw_c_L_13 {x : zX} {G : zG} {ce sl pc : Nat} {lv : List (Nat × Value)} {cc : ByteArray} {nL : Nat} {ret : Option FieldType} {rm : Room} {w w1 : va_W} {rest : List Value} {r : Option Value} {a0 : Int32} {a1 : Int32} {a2 : Int32} {b : Nat} {fs : List Value} (C : zC x G RL cc nL ret rm) (hc : Ct (xl x) G yX11_row cX11_row 5 (some .long) rmX11_row [.ref b, .int a0, .int a1, .int a2] w r w1) (q0 : Nat) (he : w[q0]? = some (b, .inr (10, fs))) (hd : decode cc pc = .ok (.invokevirtual 13, 3)) (hcat : (rest.map fun v => v.category).sum ≤ 8) (hrm : zRm rm rmX11_row 5 ce sl) (K : zW x G (ce + rmX11_row.cells) (sl + rmX11_row.slots) (pc + 3) lv (r.toList ++ rest) w1) : zW x G ce sl pc lv (.int a2 :: .int a1 :: .int a0 :: .ref b :: rest) w := z_callV C 3 rw_u_399 rw_u_71 rw_u_396 rw_u_397 rw_u_398 ⟨by decide, by decide, by decide +kernel⟩ (T := TX11) (N := 14) rfl hc rfl q0 he hd hcat hrm K
theorem rw_c_L_17 {x : zX} {G : zG} {ce sl pc : Nat} {lv : List (Nat × Value)} {cc : ByteArray} {nL : Nat} {ret : Option FieldType} {rm : Room} {w w1 : va_W} {rest : List Value} {r : Option Value} {a0 : Int32} {a1 : Int32} {a2 : Int32} {b : Nat} {fs : List Value} (C : zC x G RL cc nL ret rm) (hc : Ct (xl x) G yX12_row cX12_row 5 (some .long) rmX12_row [.ref b, .int a0, .int a1, .int a2] w r w1) (q0 : Nat) (he : w[q0]? = some (b, .inr (11, fs))) (hd : decode cc pc = .ok (.invokevirtual 17, 3)) (hcat : (rest.map fun v => v.category).sum ≤ 8) (hrm : zRm rm rmX12_row 5 ce sl) (K : zW x G (ce + rmX12_row.cells) (sl + rmX12_row.slots) (pc + 3) lv (r.toList ++ rest) w1) : zW x G ce sl pc lv (.int a2 :: .int a1 :: .int a0 :: .ref b :: rest) w := z_callV C 3 rw_u_1129 rw_u_78 rw_u_1126 rw_u_1127 rw_u_1128 ⟨by decide, by decide, by decide +kernel⟩ (T := TX12) (N := 55) rfl hc rfl q0 he hd hcat hrm K
theorem rw_c_L_18 {x : zX} {G : zG} {ce sl pc : Nat} {lv : List (Nat × Value)} {cc : ByteArray} {nL : Nat} {ret : Option FieldType} {rm : Room} {w w1 : va_W} {rest : List Value} {r : Option Value} {a0 : Int32} {a1 : Int32} {a2 : Int32} {b : Nat} {fs : List Value} (C : zC x G RL cc nL ret rm) (hc : Ct (xl x) G yX11_set cX11_set 5 (some .long) rmX11_set [.ref b, .int a0, .int a1, .int a2] w r w1) (q0 : Nat) (he : w[q0]? = some (b, .inr (10, fs))) (hd : decode cc pc = .ok (.invokevirtual 18, 3)) (hcat : (rest.map fun v => v.category).sum ≤ 8) (hrm : zRm rm rmX11_set 5 ce sl) (K : zW x G (ce + rmX11_set.cells) (sl + rmX11_set.slots) (pc + 3) lv (r.toList ++ rest) w1) : zW x G ce sl pc lv (.int a2 :: .int a1 :: .int a0 :: .ref b :: rest) w := z_callV C 3 rw_u_416 rw_u_71 rw_u_413 rw_u_414 rw_u_415 ⟨by decide, by decide, by decide +kernel⟩ (T := TX11) (N := 14) rfl hc rfl q0 he hd hcat hrm K
theorem rw_c_L_21 {x : zX} {G : zG} {ce sl pc : Nat} {lv : List (Nat × Value)} {cc : ByteArray} {nL : Nat} {ret : Option FieldType} {rm : Room} {w w1 : va_W} {rest : List Value} {r : Option Value} {a0 : Int32} {a1 : Int32} {a2 : Int32} {b : Nat} {fs : List Value} (C : zC x G RL cc nL ret rm) (hc : Ct (xl x) G yX12_set cX12_set 4 (some .long) rmX12_set [.ref b, .int a0, .int a1, .int a2] w r w1) (q0 : Nat) (he : w[q0]? = some (b, .inr (11, fs))) (hd : decode cc pc = .ok (.invokevirtual 21, 3)) (hcat : (rest.map fun v => v.category).sum ≤ 8) (hrm : zRm rm rmX12_set 4 ce sl) (K : zW x G (ce + rmX12_set.cells) (sl + rmX12_set.slots) (pc + 3) lv (r.toList ++ rest) w1) : zW x G ce sl pc lv (.int a2 :: .int a1 :: .int a0 :: .ref b :: rest) w := z_callV C 3 rw_u_1147 rw_u_78 rw_u_1144 rw_u_1145 rw_u_1146 ⟨by decide, by decide, by decide +kernel⟩ (T := TX12) (N := 55) rfl hc rfl q0 he hd hcat hrm K
theorem rw_c_L_22 {x : zX} {G : zG} {ce sl pc : Nat} {lv : List (Nat × Value)} {cc : ByteArray} {nL : Nat} {ret : Option FieldType} {rm : Room} {w w1 : va_W} {rest : List Value} {r : Option Value} {a0 : Int32} {a1 : Int32} {a2 : Int32} {a3 : Int32} {a4 : Int32} {b : Nat} {fs : List Value} (C : zC x G RL cc nL ret rm) (hc : Ct (xl x) G yX11_copy cX11_copy 6 (some .long) rmX11_copy [.ref b, .int a0, .int a1, .int a2, .int a3, .int a4] w r w1) (q0 : Nat) (he : w[q0]? = some (b, .inr (10, fs))) (hd : decode cc pc = .ok (.invokevirtual 22, 3)) (hcat : (rest.map fun v => v.category).sum ≤ 8) (hrm : zRm rm rmX11_copy 6 ce sl) (K : zW x G (ce + rmX11_copy.cells) (sl + rmX11_copy.slots) (pc + 3) lv (r.toList ++ rest) w1) : zW x G ce sl pc lv (.int a4 :: .int a3 :: .int a2 :: .int a1 :: .int a0 :: .ref b :: rest) w := z_callV C 5 rw_u_427 rw_u_71 rw_u_424 rw_u_425 rw_u_426 ⟨by decide, by decide, by decide +kernel⟩ (T := TX11) (N := 14) rfl hc rfl q0 he hd hcat hrm K
theorem rw_c_L_26 {x : zX} {G : zG} {ce sl pc : Nat} {lv : List (Nat × Value)} {cc : ByteArray} {nL : Nat} {ret : Option FieldType} {rm : Room} {w w1 : va_W} {rest : List Value} {r : Option Value} {a0 : Int32} {a1 : Int32} {a2 : Int32} {a3 : Int32} {a4 : Int32} {b : Nat} {fs : List Value} (C : zC x G RL cc nL ret rm) (hc : Ct (xl x) G yX12_copy cX12_copy 9 (some .long) rmX12_copy [.ref b, .int a0, .int a1, .int a2, .int a3, .int a4] w r w1) (q0 : Nat) (he : w[q0]? = some (b, .inr (11, fs))) (hd : decode cc pc = .ok (.invokevirtual 26, 3)) (hcat : (rest.map fun v => v.category).sum ≤ 8) (hrm : zRm rm rmX12_copy 9 ce sl) (K : zW x G (ce + rmX12_copy.cells) (sl + rmX12_copy.slots) (pc + 3) lv (r.toList ++ rest) w1) : zW x G ce sl pc lv (.int a4 :: .int a3 :: .int a2 :: .int a1 :: .int a0 :: .ref b :: rest) w := z_callV C 5 rw_u_1151 rw_u_78 rw_u_1148 rw_u_1149 rw_u_1150 ⟨by decide, by decide, by decide +kernel⟩ (T := TX12) (N := 55) rfl hc rfl q0 he hd hcat hrm K
theorem rw_c_L_27 {x : zX} {G : zG} {ce sl pc : Nat} {lv : List (Nat × Value)} {cc : ByteArray} {nL : Nat} {ret : Option FieldType} {rm : Room} {w w1 : va_W} {rest : List Value} {r : Option Value} {a0 : Int32} {b : Nat} {fs : List Value} (C : zC x G RL cc nL ret rm) (hc : Ct (xl x) G yX11_drop cX11_drop 3 (some .long) rmX11_drop [.ref b, .int a0] w r w1) (q0 : Nat) (he : w[q0]? = some (b, .inr (10, fs))) (hd : decode cc pc = .ok (.invokevirtual 27, 3)) (hcat : (rest.map fun v => v.category).sum ≤ 8) (hrm : zRm rm rmX11_drop 3 ce sl) (K : zW x G (ce + rmX11_drop.cells) (sl + rmX11_drop.slots) (pc + 3) lv (r.toList ++ rest) w1) : zW x G ce sl pc lv (.int a0 :: .ref b :: rest) w := z_callV C 1 rw_u_438 rw_u_71 rw_u_435 rw_u_436 rw_u_437 ⟨by decide, by decide, by decide +kernel⟩ (T := TX11) (N := 14) rfl hc rfl q0 he hd hcat hrm K
theorem rw_c_L_31 {x : zX} {G : zG} {ce sl pc : Nat} {lv : List (Nat × Value)} {cc : ByteArray} {nL : Nat} {ret : Option FieldType} {rm : Room} {w w1 : va_W} {rest : List Value} {r : Option Value} {a0 : Int32} {b : Nat} {fs : List Value} (C : zC x G RL cc nL ret rm) (hc : Ct (xl x) G yX12_drop cX12_drop 2 (some .long) rmX12_drop [.ref b, .int a0] w r w1) (q0 : Nat) (he : w[q0]? = some (b, .inr (11, fs))) (hd : decode cc pc = .ok (.invokevirtual 31, 3)) (hcat : (rest.map fun v => v.category).sum ≤ 8) (hrm : zRm rm rmX12_drop 2 ce sl) (K : zW x G (ce + rmX12_drop.cells) (sl + rmX12_drop.slots) (pc + 3) lv (r.toList ++ rest) w1) : zW x G ce sl pc lv (.int a0 :: .ref b :: rest) w := z_callV C 1 rw_u_1155 rw_u_78 rw_u_1152 rw_u_1153 rw_u_1154 ⟨by decide, by decide, by decide +kernel⟩ (T := TX12) (N := 55) rfl hc rfl q0 he hd hcat hrm K
theorem rw_c_L_34 {x : zX} {G : zG} {ce sl pc : Nat} {lv : List (Nat × Value)} {cc : ByteArray} {nL : Nat} {ret : Option FieldType} {rm : Room} {w w1 : va_W} {rest : List Value} {r : Option Value} {a0 : Int64} {a1 : Int32} {b : Nat} {fs : List Value} (C : zC x G RL cc nL ret rm) (hc : Ct (xl x) G yX11_feed cX11_feed 5 (some .long) rmX11_feed [.ref b, .long a0, .int a1] w r w1) (q0 : Nat) (he : w[q0]? = some (b, .inr (10, fs))) (hd : decode cc pc = .ok (.invokevirtual 34, 3)) (hcat : (rest.map fun v => v.category).sum ≤ 8) (hrm : zRm rm rmX11_feed 5 ce sl) (K : zW x G (ce + rmX11_feed.cells) (sl + rmX11_feed.slots) (pc + 3) lv (r.toList ++ rest) w1) : zW x G ce sl pc lv (.int a1 :: .long a0 :: .ref b :: rest) w := z_callV C 2 rw_u_442 rw_u_71 rw_u_439 rw_u_440 rw_u_441 ⟨by decide, by decide, by decide +kernel⟩ (T := TX11) (N := 14) rfl hc rfl q0 he hd hcat hrm K
theorem rw_c_L_38 {x : zX} {G : zG} {ce sl pc : Nat} {lv : List (Nat × Value)} {cc : ByteArray} {nL : Nat} {ret : Option FieldType} {rm : Room} {w w1 : va_W} {rest : List Value} {r : Option Value} {a0 : Int64} {a1 : Int32} {b : Nat} {fs : List Value} (C : zC x G RL cc nL ret rm) (hc : Ct (xl x) G yX12_feed cX12_feed 5 (some .long) rmX12_feed [.ref b, .long a0, .int a1] w r w1) (q0 : Nat) (he : w[q0]? = some (b, .inr (11, fs))) (hd : decode cc pc = .ok (.invokevirtual 38, 3)) (hcat : (rest.map fun v => v.category).sum ≤ 8) (hrm : zRm rm rmX12_feed 5 ce sl) (K : zW x G (ce + rmX12_feed.cells) (sl + rmX12_feed.slots) (pc + 3) lv (r.toList ++ rest) w1) : zW x G ce sl pc lv (.int a1 :: .long a0 :: .ref b :: rest) w := z_callV C 2 rw_u_1159 rw_u_78 rw_u_1156 rw_u_1157 rw_u_1158 ⟨by decide, by decide, by decide +kernel⟩ (T := TX12) (N := 55) rfl hc rfl q0 he hd hcat hrm K
theorem rw_c_L_39 {x : zX} {G : zG} {ce sl pc : Nat} {lv : List (Nat × Value)} {cc : ByteArray} {nL : Nat} {ret : Option FieldType} {rm : Room} {w : va_W} {w1 : (Nat → Nat) × (Nat → Nat) × Nat → va_W} {rest : List Value} {r : Option Value}  {b : Nat} {fs : List Value} (C : zC x G RL cc nL ret rm) (hc : Ctr (xl x) G yX11_life cX11_life 2 (some .long) rmX11_life [.ref b] w (fun _ : (Nat → Nat) × (Nat → Nat) × Nat => r) w1) (q0 : Nat) (he : w[q0]? = some (b, .inr (10, fs))) (hd : decode cc pc = .ok (.invokevirtual 39, 3)) (hcat : (rest.map fun v => v.category).sum ≤ 8) (hrm : zRm rm rmX11_life 2 ce sl) (K : ∀ z : (Nat → Nat) × (Nat → Nat) × Nat, zW x G (ce + rmX11_life.cells) (sl + rmX11_life.slots) (pc + 3) lv (r.toList ++ rest) (w1 z)) : zW x G ce sl pc lv (.ref b :: rest) w := z_callV1 C 0 rw_u_451 rw_u_71 rw_u_448 rw_u_449 rw_u_450 ⟨by decide, by decide, by decide +kernel⟩ (T := TX11) (N := 14) rfl hc rfl q0 he hd hcat hrm K
theorem rw_c_L_43 {x : zX} {G : zG} {ce sl pc : Nat} {lv : List (Nat × Value)} {cc : ByteArray} {nL : Nat} {ret : Option FieldType} {rm : Room} {w w1 : va_W} {rest : List Value} {r : Option Value}  {b : Nat} {fs : List Value} (C : zC x G RL cc nL ret rm) (hc : Ct (xl x) G yX12_life cX12_life 2 (some .long) rmX12_life [.ref b] w r w1) (q0 : Nat) (he : w[q0]? = some (b, .inr (11, fs))) (hd : decode cc pc = .ok (.invokevirtual 43, 3)) (hcat : (rest.map fun v => v.category).sum ≤ 8) (hrm : zRm rm rmX12_life 2 ce sl) (K : zW x G (ce + rmX12_life.cells) (sl + rmX12_life.slots) (pc + 3) lv (r.toList ++ rest) w1) : zW x G ce sl pc lv (.ref b :: rest) w := z_callV C 0 rw_u_1166 rw_u_78 rw_u_1163 rw_u_1164 rw_u_1165 ⟨by decide, by decide, by decide +kernel⟩ (T := TX12) (N := 55) rfl hc rfl q0 he hd hcat hrm K
theorem rw_c_L_44 {x : zX} {G : zG} {ce sl pc : Nat} {lv : List (Nat × Value)} {cc : ByteArray} {nL : Nat} {ret : Option FieldType} {rm : Room} {w w1 : va_W} {rest : List Value} {r : Option Value}  {b : Nat} {fs : List Value} (C : zC x G RL cc nL ret rm) (hc : Ct (xl x) G yX11_fault cX11_fault 1 (some .int) rmX11_fault [.ref b] w r w1) (q0 : Nat) (he : w[q0]? = some (b, .inr (10, fs))) (hd : decode cc pc = .ok (.invokevirtual 44, 3)) (hcat : (rest.map fun v => v.category).sum ≤ 8) (hrm : zRm rm rmX11_fault 1 ce sl) (K : zW x G (ce + rmX11_fault.cells) (sl + rmX11_fault.slots) (pc + 3) lv (r.toList ++ rest) w1) : zW x G ce sl pc lv (.ref b :: rest) w := z_callV C 0 rw_u_671 rw_u_71 rw_u_668 rw_u_669 rw_u_670 ⟨by decide, by decide, by decide +kernel⟩ (T := TX11) (N := 14) rfl hc rfl q0 he hd hcat hrm K
theorem rw_c_L_48 {x : zX} {G : zG} {ce sl pc : Nat} {lv : List (Nat × Value)} {cc : ByteArray} {nL : Nat} {ret : Option FieldType} {rm : Room} {w w1 : va_W} {rest : List Value} {r : Option Value}  {b : Nat} {fs : List Value} (C : zC x G RL cc nL ret rm) (hc : Ct (xl x) G yX12_fault cX12_fault 1 (some .int) rmX12_fault [.ref b] w r w1) (q0 : Nat) (he : w[q0]? = some (b, .inr (11, fs))) (hd : decode cc pc = .ok (.invokevirtual 48, 3)) (hcat : (rest.map fun v => v.category).sum ≤ 8) (hrm : zRm rm rmX12_fault 1 ce sl) (K : zW x G (ce + rmX12_fault.cells) (sl + rmX12_fault.slots) (pc + 3) lv (r.toList ++ rest) w1) : zW x G ce sl pc lv (.ref b :: rest) w := z_callV C 0 rw_u_1249 rw_u_78 rw_u_1246 rw_u_1247 rw_u_1248 ⟨by decide, by decide, by decide +kernel⟩ (T := TX12) (N := 55) rfl hc rfl q0 he hd hcat hrm K
theorem rw_c_L_49 {x : zX} {G : zG} {ce sl pc : Nat} {lv : List (Nat × Value)} {cc : ByteArray} {nL : Nat} {ret : Option FieldType} {rm : Room} {w : va_W} {w1 : Nat → va_W} {rest : List Value} {r : Option Value} {a0 : Int32} {a1 : Int32} {b : Nat} {fs : List Value} (C : zC x G RL cc nL ret rm) (hc : Ctr (xl x) G yX11_whose cX11_whose 3 (some .long) rmX11_whose [.ref b, .int a0, .int a1] w (fun _ : Nat => r) w1) (q0 : Nat) (he : w[q0]? = some (b, .inr (10, fs))) (hd : decode cc pc = .ok (.invokevirtual 49, 3)) (hcat : (rest.map fun v => v.category).sum ≤ 8) (hrm : zRm rm rmX11_whose 3 ce sl) (K : ∀ z : Nat, zW x G (ce + rmX11_whose.cells) (sl + rmX11_whose.slots) (pc + 3) lv (r.toList ++ rest) (w1 z)) : zW x G ce sl pc lv (.int a1 :: .int a0 :: .ref b :: rest) w := z_callV1 C 2 rw_u_675 rw_u_71 rw_u_672 rw_u_673 rw_u_674 ⟨by decide, by decide, by decide +kernel⟩ (T := TX11) (N := 14) rfl hc rfl q0 he hd hcat hrm K
theorem rw_c_L_53 {x : zX} {G : zG} {ce sl pc : Nat} {lv : List (Nat × Value)} {cc : ByteArray} {nL : Nat} {ret : Option FieldType} {rm : Room} {w w1 : va_W} {rest : List Value} {r : Option Value} {a0 : Int32} {a1 : Int32} {b : Nat} {fs : List Value} (C : zC x G RL cc nL ret rm) (hc : Ct (xl x) G yX12_whose cX12_whose 3 (some .long) rmX12_whose [.ref b, .int a0, .int a1] w r w1) (q0 : Nat) (he : w[q0]? = some (b, .inr (11, fs))) (hd : decode cc pc = .ok (.invokevirtual 53, 3)) (hcat : (rest.map fun v => v.category).sum ≤ 8) (hrm : zRm rm rmX12_whose 3 ce sl) (K : zW x G (ce + rmX12_whose.cells) (sl + rmX12_whose.slots) (pc + 3) lv (r.toList ++ rest) w1) : zW x G ce sl pc lv (.int a1 :: .int a0 :: .ref b :: rest) w := z_callV C 2 rw_u_1253 rw_u_78 rw_u_1250 rw_u_1251 rw_u_1252 ⟨by decide, by decide, by decide +kernel⟩ (T := TX12) (N := 55) rfl hc rfl q0 he hd hcat hrm K
theorem rw_c_L_54 {x : zX} {G : zG} {ce sl pc : Nat} {lv : List (Nat × Value)} {cc : ByteArray} {nL : Nat} {ret : Option FieldType} {rm : Room} {w w1 : va_W} {rest : List Value} {r : Option Value} {a0 : Int32} {a1 : Int32} {b : Nat} {fs : List Value} (C : zC x G RL cc nL ret rm) (hc : Ct (xl x) G yX11_thing cX11_thing 3 (some .long) rmX11_thing [.ref b, .int a0, .int a1] w r w1) (q0 : Nat) (he : w[q0]? = some (b, .inr (10, fs))) (hd : decode cc pc = .ok (.invokevirtual 54, 3)) (hcat : (rest.map fun v => v.category).sum ≤ 8) (hrm : zRm rm rmX11_thing 3 ce sl) (K : zW x G (ce + rmX11_thing.cells) (sl + rmX11_thing.slots) (pc + 3) lv (r.toList ++ rest) w1) : zW x G ce sl pc lv (.int a1 :: .int a0 :: .ref b :: rest) w := z_callV C 2 rw_u_691 rw_u_71 rw_u_688 rw_u_689 rw_u_690 ⟨by decide, by decide, by decide +kernel⟩ (T := TX11) (N := 14) rfl hc rfl q0 he hd hcat hrm K
theorem rw_c_L_57 {x : zX} {G : zG} {ce sl pc : Nat} {lv : List (Nat × Value)} {cc : ByteArray} {nL : Nat} {ret : Option FieldType} {rm : Room} {w w1 : va_W} {rest : List Value} {r : Option Value} {a0 : Int32} {a1 : Int32} {b : Nat} {fs : List Value} (C : zC x G RL cc nL ret rm) (hc : Ct (xl x) G yX12_thing cX12_thing 3 (some .long) rmX12_thing [.ref b, .int a0, .int a1] w r w1) (q0 : Nat) (he : w[q0]? = some (b, .inr (11, fs))) (hd : decode cc pc = .ok (.invokevirtual 57, 3)) (hcat : (rest.map fun v => v.category).sum ≤ 8) (hrm : zRm rm rmX12_thing 3 ce sl) (K : zW x G (ce + rmX12_thing.cells) (sl + rmX12_thing.slots) (pc + 3) lv (r.toList ++ rest) w1) : zW x G ce sl pc lv (.int a1 :: .int a0 :: .ref b :: rest) w := z_callV C 2 rw_u_1291 rw_u_78 rw_u_1288 rw_u_1289 rw_u_1290 ⟨by decide, by decide, by decide +kernel⟩ (T := TX12) (N := 55) rfl hc rfl q0 he hd hcat hrm K
theorem rw_c_L_58 {x : zX} {G : zG} {ce sl pc : Nat} {lv : List (Nat × Value)} {cc : ByteArray} {nL : Nat} {ret : Option FieldType} {rm : Room} {w w1 : va_W} {rest : List Value} {r : Option Value} {a0 : Int32} {a1 : Int32} {b : Nat} {fs : List Value} (C : zC x G RL cc nL ret rm) (hc : Ct (xl x) G yX11_judge cX11_judge 5 (some .long) rmX11_judge [.ref b, .int a0, .int a1] w r w1) (q0 : Nat) (he : w[q0]? = some (b, .inr (10, fs))) (hd : decode cc pc = .ok (.invokevirtual 58, 3)) (hcat : (rest.map fun v => v.category).sum ≤ 8) (hrm : zRm rm rmX11_judge 5 ce sl) (K : zW x G (ce + rmX11_judge.cells) (sl + rmX11_judge.slots) (pc + 3) lv (r.toList ++ rest) w1) : zW x G ce sl pc lv (.int a1 :: .int a0 :: .ref b :: rest) w := z_callV C 2 rw_u_696 rw_u_71 rw_u_693 rw_u_694 rw_u_695 ⟨by decide, by decide, by decide +kernel⟩ (T := TX11) (N := 14) rfl hc rfl q0 he hd hcat hrm K
theorem rw_c_L_61 {x : zX} {G : zG} {ce sl pc : Nat} {lv : List (Nat × Value)} {cc : ByteArray} {nL : Nat} {ret : Option FieldType} {rm : Room} {w w1 : va_W} {rest : List Value} {r : Option Value} {a0 : Int32} {a1 : Int32} {b : Nat} {fs : List Value} (C : zC x G RL cc nL ret rm) (hc : Ct (xl x) G yX12_judge cX12_judge 4 (some .long) rmX12_judge [.ref b, .int a0, .int a1] w r w1) (q0 : Nat) (he : w[q0]? = some (b, .inr (11, fs))) (hd : decode cc pc = .ok (.invokevirtual 61, 3)) (hcat : (rest.map fun v => v.category).sum ≤ 8) (hrm : zRm rm rmX12_judge 4 ce sl) (K : zW x G (ce + rmX12_judge.cells) (sl + rmX12_judge.slots) (pc + 3) lv (r.toList ++ rest) w1) : zW x G ce sl pc lv (.int a1 :: .int a0 :: .ref b :: rest) w := z_callV C 2 rw_u_1304 rw_u_78 rw_u_1301 rw_u_1302 rw_u_1303 ⟨by decide, by decide, by decide +kernel⟩ (T := TX12) (N := 55) rfl hc rfl q0 he hd hcat hrm K
theorem rw_c_L_62 {x : zX} {G : zG} {ce sl pc : Nat} {lv : List (Nat × Value)} {cc : ByteArray} {nL : Nat} {ret : Option FieldType} {rm : Room} {w w1 : va_W} {rest : List Value} {r : Option Value} {a0 : Int32} {a1 : Int32} {b : Nat} {fs : List Value} (C : zC x G RL cc nL ret rm) (hc : Ct (xl x) G yX11_purse cX11_purse 3 (some .long) rmX11_purse [.ref b, .int a0, .int a1] w r w1) (q0 : Nat) (he : w[q0]? = some (b, .inr (10, fs))) (hd : decode cc pc = .ok (.invokevirtual 62, 3)) (hcat : (rest.map fun v => v.category).sum ≤ 8) (hrm : zRm rm rmX11_purse 3 ce sl) (K : zW x G (ce + rmX11_purse.cells) (sl + rmX11_purse.slots) (pc + 3) lv (r.toList ++ rest) w1) : zW x G ce sl pc lv (.int a1 :: .int a0 :: .ref b :: rest) w := z_callV C 2 rw_u_704 rw_u_71 rw_u_701 rw_u_702 rw_u_703 ⟨by decide, by decide, by decide +kernel⟩ (T := TX11) (N := 14) rfl hc rfl q0 he hd hcat hrm K
theorem rw_c_L_65 {x : zX} {G : zG} {ce sl pc : Nat} {lv : List (Nat × Value)} {cc : ByteArray} {nL : Nat} {ret : Option FieldType} {rm : Room} {w w1 : va_W} {rest : List Value} {r : Option Value} {a0 : Int32} {a1 : Int32} {b : Nat} {fs : List Value} (C : zC x G RL cc nL ret rm) (hc : Ct (xl x) G yX12_purse cX12_purse 5 (some .long) rmX12_purse [.ref b, .int a0, .int a1] w r w1) (q0 : Nat) (he : w[q0]? = some (b, .inr (11, fs))) (hd : decode cc pc = .ok (.invokevirtual 65, 3)) (hcat : (rest.map fun v => v.category).sum ≤ 8) (hrm : zRm rm rmX12_purse 5 ce sl) (K : zW x G (ce + rmX12_purse.cells) (sl + rmX12_purse.slots) (pc + 3) lv (r.toList ++ rest) w1) : zW x G ce sl pc lv (.int a1 :: .int a0 :: .ref b :: rest) w := z_callV C 2 rw_u_1309 rw_u_78 rw_u_1306 rw_u_1307 rw_u_1308 ⟨by decide, by decide, by decide +kernel⟩ (T := TX12) (N := 55) rfl hc rfl q0 he hd hcat hrm K
theorem rw_c_L_66 {x : zX} {G : zG} {ce sl pc : Nat} {lv : List (Nat × Value)} {cc : ByteArray} {nL : Nat} {ret : Option FieldType} {rm : Room} {w w1 : va_W} {rest : List Value} {r : Option Value} {a0 : Int32} {a1 : Int32} {b : Nat} {fs : List Value} (C : zC x G RL cc nL ret rm) (hc : Ct (xl x) G yX11_fed cX11_fed 3 (some .long) rmX11_fed [.ref b, .int a0, .int a1] w r w1) (q0 : Nat) (he : w[q0]? = some (b, .inr (10, fs))) (hd : decode cc pc = .ok (.invokevirtual 66, 3)) (hcat : (rest.map fun v => v.category).sum ≤ 8) (hrm : zRm rm rmX11_fed 3 ce sl) (K : zW x G (ce + rmX11_fed.cells) (sl + rmX11_fed.slots) (pc + 3) lv (r.toList ++ rest) w1) : zW x G ce sl pc lv (.int a1 :: .int a0 :: .ref b :: rest) w := z_callV C 2 rw_u_708 rw_u_71 rw_u_705 rw_u_706 rw_u_707 ⟨by decide, by decide, by decide +kernel⟩ (T := TX11) (N := 14) rfl hc rfl q0 he hd hcat hrm K
theorem rw_c_L_69 {x : zX} {G : zG} {ce sl pc : Nat} {lv : List (Nat × Value)} {cc : ByteArray} {nL : Nat} {ret : Option FieldType} {rm : Room} {w w1 : va_W} {rest : List Value} {r : Option Value} {a0 : Int32} {a1 : Int32} {b : Nat} {fs : List Value} (C : zC x G RL cc nL ret rm) (hc : Ct (xl x) G yX12_fed cX12_fed 3 (some .long) rmX12_fed [.ref b, .int a0, .int a1] w r w1) (q0 : Nat) (he : w[q0]? = some (b, .inr (11, fs))) (hd : decode cc pc = .ok (.invokevirtual 69, 3)) (hcat : (rest.map fun v => v.category).sum ≤ 8) (hrm : zRm rm rmX12_fed 3 ce sl) (K : zW x G (ce + rmX12_fed.cells) (sl + rmX12_fed.slots) (pc + 3) lv (r.toList ++ rest) w1) : zW x G ce sl pc lv (.int a1 :: .int a0 :: .ref b :: rest) w := z_callV C 2 rw_u_1322 rw_u_78 rw_u_1319 rw_u_1320 rw_u_1321 ⟨by decide, by decide, by decide +kernel⟩ (T := TX12) (N := 55) rfl hc rfl q0 he hd hcat hrm K
theorem rw_c_L_70 {x : zX} {G : zG} {ce sl pc : Nat} {lv : List (Nat × Value)} {cc : ByteArray} {nL : Nat} {ret : Option FieldType} {rm : Room} {w w1 : va_W} {rest : List Value} {r : Option Value} {a0 : Int32} {a1 : Int32} {a2 : Int32} {b : Nat} {fs : List Value} (C : zC x G RL cc nL ret rm) (hc : Ct (xl x) G yX11_owed cX11_owed 4 (some .long) rmX11_owed [.ref b, .int a0, .int a1, .int a2] w r w1) (q0 : Nat) (he : w[q0]? = some (b, .inr (10, fs))) (hd : decode cc pc = .ok (.invokevirtual 70, 3)) (hcat : (rest.map fun v => v.category).sum ≤ 8) (hrm : zRm rm rmX11_owed 4 ce sl) (K : zW x G (ce + rmX11_owed.cells) (sl + rmX11_owed.slots) (pc + 3) lv (r.toList ++ rest) w1) : zW x G ce sl pc lv (.int a2 :: .int a1 :: .int a0 :: .ref b :: rest) w := z_callV C 3 rw_u_715 rw_u_71 rw_u_712 rw_u_713 rw_u_714 ⟨by decide, by decide, by decide +kernel⟩ (T := TX11) (N := 14) rfl hc rfl q0 he hd hcat hrm K
theorem rw_c_L_73 {x : zX} {G : zG} {ce sl pc : Nat} {lv : List (Nat × Value)} {cc : ByteArray} {nL : Nat} {ret : Option FieldType} {rm : Room} {w w1 : va_W} {rest : List Value} {r : Option Value} {a0 : Int32} {a1 : Int32} {a2 : Int32} {b : Nat} {fs : List Value} (C : zC x G RL cc nL ret rm) (hc : Ct (xl x) G yX12_owed cX12_owed 4 (some .long) rmX12_owed [.ref b, .int a0, .int a1, .int a2] w r w1) (q0 : Nat) (he : w[q0]? = some (b, .inr (11, fs))) (hd : decode cc pc = .ok (.invokevirtual 73, 3)) (hcat : (rest.map fun v => v.category).sum ≤ 8) (hrm : zRm rm rmX12_owed 4 ce sl) (K : zW x G (ce + rmX12_owed.cells) (sl + rmX12_owed.slots) (pc + 3) lv (r.toList ++ rest) w1) : zW x G ce sl pc lv (.int a2 :: .int a1 :: .int a0 :: .ref b :: rest) w := z_callV C 3 rw_u_1326 rw_u_78 rw_u_1323 rw_u_1324 rw_u_1325 ⟨by decide, by decide, by decide +kernel⟩ (T := TX12) (N := 55) rfl hc rfl q0 he hd hcat hrm K
theorem rw_c_L_74 {x : zX} {G : zG} {ce sl pc : Nat} {lv : List (Nat × Value)} {cc : ByteArray} {nL : Nat} {ret : Option FieldType} {rm : Room} {w w1 : va_W} {rest : List Value} {r : Option Value} {a0 : Int32} {a1 : Int32} {b : Nat} {fs : List Value} (C : zC x G RL cc nL ret rm) (hc : Ct (xl x) G yX11_net cX11_net 3 (some .long) rmX11_net [.ref b, .int a0, .int a1] w r w1) (q0 : Nat) (he : w[q0]? = some (b, .inr (10, fs))) (hd : decode cc pc = .ok (.invokevirtual 74, 3)) (hcat : (rest.map fun v => v.category).sum ≤ 8) (hrm : zRm rm rmX11_net 3 ce sl) (K : zW x G (ce + rmX11_net.cells) (sl + rmX11_net.slots) (pc + 3) lv (r.toList ++ rest) w1) : zW x G ce sl pc lv (.int a1 :: .int a0 :: .ref b :: rest) w := z_callV C 2 rw_u_731 rw_u_71 rw_u_728 rw_u_729 rw_u_730 ⟨by decide, by decide, by decide +kernel⟩ (T := TX11) (N := 14) rfl hc rfl q0 he hd hcat hrm K
theorem rw_c_L_77 {x : zX} {G : zG} {ce sl pc : Nat} {lv : List (Nat × Value)} {cc : ByteArray} {nL : Nat} {ret : Option FieldType} {rm : Room} {w w1 : va_W} {rest : List Value} {r : Option Value} {a0 : Int32} {a1 : Int32} {b : Nat} {fs : List Value} (C : zC x G RL cc nL ret rm) (hc : Ct (xl x) G yX12_net cX12_net 3 (some .long) rmX12_net [.ref b, .int a0, .int a1] w r w1) (q0 : Nat) (he : w[q0]? = some (b, .inr (11, fs))) (hd : decode cc pc = .ok (.invokevirtual 77, 3)) (hcat : (rest.map fun v => v.category).sum ≤ 8) (hrm : zRm rm rmX12_net 3 ce sl) (K : zW x G (ce + rmX12_net.cells) (sl + rmX12_net.slots) (pc + 3) lv (r.toList ++ rest) w1) : zW x G ce sl pc lv (.int a1 :: .int a0 :: .ref b :: rest) w := z_callV C 2 rw_u_1349 rw_u_78 rw_u_1346 rw_u_1347 rw_u_1348 ⟨by decide, by decide, by decide +kernel⟩ (T := TX12) (N := 55) rfl hc rfl q0 he hd hcat hrm K
theorem rw_c_L_78 {x : zX} {G : zG} {ce sl pc : Nat} {lv : List (Nat × Value)} {cc : ByteArray} {nL : Nat} {ret : Option FieldType} {rm : Room} {w w1 : va_W} {rest : List Value} {r : Option Value} {a0 : Int32} {a1 : Int32} {b : Nat} {fs : List Value} (C : zC x G RL cc nL ret rm) (hc : Ct (xl x) G yX11_end cX11_end 3 (some .long) rmX11_end [.ref b, .int a0, .int a1] w r w1) (q0 : Nat) (he : w[q0]? = some (b, .inr (10, fs))) (hd : decode cc pc = .ok (.invokevirtual 78, 3)) (hcat : (rest.map fun v => v.category).sum ≤ 8) (hrm : zRm rm rmX11_end 3 ce sl) (K : zW x G (ce + rmX11_end.cells) (sl + rmX11_end.slots) (pc + 3) lv (r.toList ++ rest) w1) : zW x G ce sl pc lv (.int a1 :: .int a0 :: .ref b :: rest) w := z_callV C 2 rw_u_735 rw_u_71 rw_u_732 rw_u_733 rw_u_734 ⟨by decide, by decide, by decide +kernel⟩ (T := TX11) (N := 14) rfl hc rfl q0 he hd hcat hrm K
theorem rw_c_L_81 {x : zX} {G : zG} {ce sl pc : Nat} {lv : List (Nat × Value)} {cc : ByteArray} {nL : Nat} {ret : Option FieldType} {rm : Room} {w w1 : va_W} {rest : List Value} {r : Option Value} {a0 : Int32} {a1 : Int32} {b : Nat} {fs : List Value} (C : zC x G RL cc nL ret rm) (hc : Ct (xl x) G yX12_end cX12_end 3 (some .long) rmX12_end [.ref b, .int a0, .int a1] w r w1) (q0 : Nat) (he : w[q0]? = some (b, .inr (11, fs))) (hd : decode cc pc = .ok (.invokevirtual 81, 3)) (hcat : (rest.map fun v => v.category).sum ≤ 8) (hrm : zRm rm rmX12_end 3 ce sl) (K : zW x G (ce + rmX12_end.cells) (sl + rmX12_end.slots) (pc + 3) lv (r.toList ++ rest) w1) : zW x G ce sl pc lv (.int a1 :: .int a0 :: .ref b :: rest) w := z_callV C 2 rw_u_1353 rw_u_78 rw_u_1350 rw_u_1351 rw_u_1352 ⟨by decide, by decide, by decide +kernel⟩ (T := TX12) (N := 55) rfl hc rfl q0 he hd hcat hrm K
theorem rw_c_L_82 {x : zX} {G : zG} {ce sl pc : Nat} {lv : List (Nat × Value)} {cc : ByteArray} {nL : Nat} {ret : Option FieldType} {rm : Room} {w : va_W} {w1 : Nat → va_W} {rest : List Value} {r : Option Value} {a0 : Int32} {a1 : Int32} {a2 : Int32} {b : Nat} {fs : List Value} (C : zC x G RL cc nL ret rm) (hc : Ctr (xl x) G yX11_beside cX11_beside 5 (some .long) rmX11_beside [.ref b, .int a0, .int a1, .int a2] w (fun _ : Nat => r) w1) (q0 : Nat) (he : w[q0]? = some (b, .inr (10, fs))) (hd : decode cc pc = .ok (.invokevirtual 82, 3)) (hcat : (rest.map fun v => v.category).sum ≤ 8) (hrm : zRm rm rmX11_beside 5 ce sl) (K : ∀ z : Nat, zW x G (ce + rmX11_beside.cells) (sl + rmX11_beside.slots) (pc + 3) lv (r.toList ++ rest) (w1 z)) : zW x G ce sl pc lv (.int a2 :: .int a1 :: .int a0 :: .ref b :: rest) w := z_callV1 C 3 rw_u_743 rw_u_71 rw_u_740 rw_u_741 rw_u_742 ⟨by decide, by decide, by decide +kernel⟩ (T := TX11) (N := 14) rfl hc rfl q0 he hd hcat hrm K
theorem rw_c_L_85 {x : zX} {G : zG} {ce sl pc : Nat} {lv : List (Nat × Value)} {cc : ByteArray} {nL : Nat} {ret : Option FieldType} {rm : Room} {w w1 : va_W} {rest : List Value} {r : Option Value} {a0 : Int32} {a1 : Int32} {a2 : Int32} {b : Nat} {fs : List Value} (C : zC x G RL cc nL ret rm) (hc : Ct (xl x) G yX12_beside cX12_beside 4 (some .long) rmX12_beside [.ref b, .int a0, .int a1, .int a2] w r w1) (q0 : Nat) (he : w[q0]? = some (b, .inr (11, fs))) (hd : decode cc pc = .ok (.invokevirtual 85, 3)) (hcat : (rest.map fun v => v.category).sum ≤ 8) (hrm : zRm rm rmX12_beside 4 ce sl) (K : zW x G (ce + rmX12_beside.cells) (sl + rmX12_beside.slots) (pc + 3) lv (r.toList ++ rest) w1) : zW x G ce sl pc lv (.int a2 :: .int a1 :: .int a0 :: .ref b :: rest) w := z_callV C 3 rw_u_1362 rw_u_78 rw_u_1359 rw_u_1360 rw_u_1361 ⟨by decide, by decide, by decide +kernel⟩ (T := TX12) (N := 55) rfl hc rfl q0 he hd hcat hrm K
theorem rw_c_L_86 {x : zX} {G : zG} {ce sl pc : Nat} {lv : List (Nat × Value)} {cc : ByteArray} {nL : Nat} {ret : Option FieldType} {rm : Room} {w : va_W} {w1 : Nat → va_W} {rest : List Value} {r : Option Value}  {b : Nat} {fs : List Value} (C : zC x G RL cc nL ret rm) (hc : Ctr (xl x) G yX11_hangs cX11_hangs 9 (some .long) rmX11_hangs [.ref b] w (fun _ : Nat => r) w1) (q0 : Nat) (he : w[q0]? = some (b, .inr (10, fs))) (hd : decode cc pc = .ok (.invokevirtual 86, 3)) (hcat : (rest.map fun v => v.category).sum ≤ 8) (hrm : zRm rm rmX11_hangs 9 ce sl) (K : ∀ z : Nat, zW x G (ce + rmX11_hangs.cells) (sl + rmX11_hangs.slots) (pc + 3) lv (r.toList ++ rest) (w1 z)) : zW x G ce sl pc lv (.ref b :: rest) w := z_callV1 C 0 rw_u_749 rw_u_71 rw_u_746 rw_u_747 rw_u_748 ⟨by decide, by decide, by decide +kernel⟩ (T := TX11) (N := 14) rfl hc rfl q0 he hd hcat hrm K
theorem rw_c_L_89 {x : zX} {G : zG} {ce sl pc : Nat} {lv : List (Nat × Value)} {cc : ByteArray} {nL : Nat} {ret : Option FieldType} {rm : Room} {w w1 : va_W} {rest : List Value} {r : Option Value}  {b : Nat} {fs : List Value} (C : zC x G RL cc nL ret rm) (hc : Ct (xl x) G yX12_hangs cX12_hangs 10 (some .long) rmX12_hangs [.ref b] w r w1) (q0 : Nat) (he : w[q0]? = some (b, .inr (11, fs))) (hd : decode cc pc = .ok (.invokevirtual 89, 3)) (hcat : (rest.map fun v => v.category).sum ≤ 8) (hrm : zRm rm rmX12_hangs 10 ce sl) (K : zW x G (ce + rmX12_hangs.cells) (sl + rmX12_hangs.slots) (pc + 3) lv (r.toList ++ rest) w1) : zW x G ce sl pc lv (.ref b :: rest) w := z_callV C 0 rw_u_1366 rw_u_78 rw_u_1363 rw_u_1364 rw_u_1365 ⟨by decide, by decide, by decide +kernel⟩ (T := TX12) (N := 55) rfl hc rfl q0 he hd hcat hrm K
theorem rw_c_L_90 {x : zX} {G : zG} {ce sl pc : Nat} {lv : List (Nat × Value)} {cc : ByteArray} {nL : Nat} {ret : Option FieldType} {rm : Room} {w : va_W} {w1 : Nat → va_W} {rest : List Value} {r : Option Value} {a0 : Int32} {a1 : Int32} {b : Nat} {fs : List Value} (C : zC x G RL cc nL ret rm) (hc : Ctr (xl x) G yX11_beforehand cX11_beforehand 5 (some .long) rmX11_beforehand [.ref b, .int a0, .int a1] w (fun _ : Nat => r) w1) (q0 : Nat) (he : w[q0]? = some (b, .inr (10, fs))) (hd : decode cc pc = .ok (.invokevirtual 90, 3)) (hcat : (rest.map fun v => v.category).sum ≤ 8) (hrm : zRm rm rmX11_beforehand 5 ce sl) (K : ∀ z : Nat, zW x G (ce + rmX11_beforehand.cells) (sl + rmX11_beforehand.slots) (pc + 3) lv (r.toList ++ rest) (w1 z)) : zW x G ce sl pc lv (.int a1 :: .int a0 :: .ref b :: rest) w := z_callV1 C 2 rw_u_767 rw_u_71 rw_u_764 rw_u_765 rw_u_766 ⟨by decide, by decide, by decide +kernel⟩ (T := TX11) (N := 14) rfl hc rfl q0 he hd hcat hrm K
theorem rw_c_L_93 {x : zX} {G : zG} {ce sl pc : Nat} {lv : List (Nat × Value)} {cc : ByteArray} {nL : Nat} {ret : Option FieldType} {rm : Room} {w w1 : va_W} {rest : List Value} {r : Option Value} {a0 : Int32} {a1 : Int32} {b : Nat} {fs : List Value} (C : zC x G RL cc nL ret rm) (hc : Ct (xl x) G yX12_beforehand cX12_beforehand 4 (some .long) rmX12_beforehand [.ref b, .int a0, .int a1] w r w1) (q0 : Nat) (he : w[q0]? = some (b, .inr (11, fs))) (hd : decode cc pc = .ok (.invokevirtual 93, 3)) (hcat : (rest.map fun v => v.category).sum ≤ 8) (hrm : zRm rm rmX12_beforehand 4 ce sl) (K : zW x G (ce + rmX12_beforehand.cells) (sl + rmX12_beforehand.slots) (pc + 3) lv (r.toList ++ rest) w1) : zW x G ce sl pc lv (.int a1 :: .int a0 :: .ref b :: rest) w := z_callV C 2 rw_u_1370 rw_u_78 rw_u_1367 rw_u_1368 rw_u_1369 ⟨by decide, by decide, by decide +kernel⟩ (T := TX12) (N := 55) rfl hc rfl q0 he hd hcat hrm K
theorem rw_c_L_94 {x : zX} {G : zG} {ce sl pc : Nat} {lv : List (Nat × Value)} {cc : ByteArray} {nL : Nat} {ret : Option FieldType} {rm : Room} {w w1 : va_W} {rest : List Value} {r : Option Value} {a0 : Int32} {b : Nat} {fs : List Value} (C : zC x G RL cc nL ret rm) (hc : Ct (xl x) G yX11_kind cX11_kind 4 (some .long) rmX11_kind [.ref b, .int a0] w r w1) (q0 : Nat) (he : w[q0]? = some (b, .inr (10, fs))) (hd : decode cc pc = .ok (.invokevirtual 94, 3)) (hcat : (rest.map fun v => v.category).sum ≤ 8) (hrm : zRm rm rmX11_kind 4 ce sl) (K : zW x G (ce + rmX11_kind.cells) (sl + rmX11_kind.slots) (pc + 3) lv (r.toList ++ rest) w1) : zW x G ce sl pc lv (.int a0 :: .ref b :: rest) w := z_callV C 1 rw_u_779 rw_u_71 rw_u_776 rw_u_777 rw_u_778 ⟨by decide, by decide, by decide +kernel⟩ (T := TX11) (N := 14) rfl hc rfl q0 he hd hcat hrm K
theorem rw_c_L_97 {x : zX} {G : zG} {ce sl pc : Nat} {lv : List (Nat × Value)} {cc : ByteArray} {nL : Nat} {ret : Option FieldType} {rm : Room} {w w1 : va_W} {rest : List Value} {r : Option Value} {a0 : Int32} {b : Nat} {fs : List Value} (C : zC x G RL cc nL ret rm) (hc : Ct (xl x) G yX12_kind cX12_kind 2 (some .long) rmX12_kind [.ref b, .int a0] w r w1) (q0 : Nat) (he : w[q0]? = some (b, .inr (11, fs))) (hd : decode cc pc = .ok (.invokevirtual 97, 3)) (hcat : (rest.map fun v => v.category).sum ≤ 8) (hrm : zRm rm rmX12_kind 2 ce sl) (K : zW x G (ce + rmX12_kind.cells) (sl + rmX12_kind.slots) (pc + 3) lv (r.toList ++ rest) w1) : zW x G ce sl pc lv (.int a0 :: .ref b :: rest) w := z_callV C 1 rw_u_1381 rw_u_78 rw_u_1378 rw_u_1379 rw_u_1380 ⟨by decide, by decide, by decide +kernel⟩ (T := TX12) (N := 55) rfl hc rfl q0 he hd hcat hrm K
theorem rw_c_L_98 {x : zX} {G : zG} {ce sl pc : Nat} {lv : List (Nat × Value)} {cc : ByteArray} {nL : Nat} {ret : Option FieldType} {rm : Room} {w w1 : va_W} {rest : List Value} {r : Option Value} {a0 : Int32} {a1 : Int32} {b : Nat} {fs : List Value} (C : zC x G RL cc nL ret rm) (hc : Ct (xl x) G yX11_as cX11_as 3 (some .long) rmX11_as [.ref b, .int a0, .int a1] w r w1) (q0 : Nat) (he : w[q0]? = some (b, .inr (10, fs))) (hd : decode cc pc = .ok (.invokevirtual 98, 3)) (hcat : (rest.map fun v => v.category).sum ≤ 8) (hrm : zRm rm rmX11_as 3 ce sl) (K : zW x G (ce + rmX11_as.cells) (sl + rmX11_as.slots) (pc + 3) lv (r.toList ++ rest) w1) : zW x G ce sl pc lv (.int a1 :: .int a0 :: .ref b :: rest) w := z_callV C 2 rw_u_871 rw_u_71 rw_u_868 rw_u_869 rw_u_870 ⟨by decide, by decide, by decide +kernel⟩ (T := TX11) (N := 14) rfl hc rfl q0 he hd hcat hrm K
theorem rw_c_L_101 {x : zX} {G : zG} {ce sl pc : Nat} {lv : List (Nat × Value)} {cc : ByteArray} {nL : Nat} {ret : Option FieldType} {rm : Room} {w w1 : va_W} {rest : List Value} {r : Option Value} {a0 : Int32} {a1 : Int32} {b : Nat} {fs : List Value} (C : zC x G RL cc nL ret rm) (hc : Ct (xl x) G yX12_as cX12_as 3 (some .long) rmX12_as [.ref b, .int a0, .int a1] w r w1) (q0 : Nat) (he : w[q0]? = some (b, .inr (11, fs))) (hd : decode cc pc = .ok (.invokevirtual 101, 3)) (hcat : (rest.map fun v => v.category).sum ≤ 8) (hrm : zRm rm rmX12_as 3 ce sl) (K : zW x G (ce + rmX12_as.cells) (sl + rmX12_as.slots) (pc + 3) lv (r.toList ++ rest) w1) : zW x G ce sl pc lv (.int a1 :: .int a0 :: .ref b :: rest) w := z_callV C 2 rw_u_1393 rw_u_78 rw_u_1390 rw_u_1391 rw_u_1392 ⟨by decide, by decide, by decide +kernel⟩ (T := TX12) (N := 55) rfl hc rfl q0 he hd hcat hrm K
theorem rw_c_L_102 {x : zX} {G : zG} {ce sl pc : Nat} {lv : List (Nat × Value)} {cc : ByteArray} {nL : Nat} {ret : Option FieldType} {rm : Room} {w w1 : va_W} {rest : List Value} {r : Option Value} {a0 : Int32} {a1 : Int32} {b : Nat} {fs : List Value} (C : zC x G RL cc nL ret rm) (hc : Ct (xl x) G yX11_ask cX11_ask 4 (some .long) rmX11_ask [.ref b, .int a0, .int a1] w r w1) (q0 : Nat) (he : w[q0]? = some (b, .inr (10, fs))) (hd : decode cc pc = .ok (.invokevirtual 102, 3)) (hcat : (rest.map fun v => v.category).sum ≤ 8) (hrm : zRm rm rmX11_ask 4 ce sl) (K : zW x G (ce + rmX11_ask.cells) (sl + rmX11_ask.slots) (pc + 3) lv (r.toList ++ rest) w1) : zW x G ce sl pc lv (.int a1 :: .int a0 :: .ref b :: rest) w := z_callV C 2 rw_u_875 rw_u_71 rw_u_872 rw_u_873 rw_u_874 ⟨by decide, by decide, by decide +kernel⟩ (T := TX11) (N := 14) rfl hc rfl q0 he hd hcat hrm K
theorem rw_c_L_105 {x : zX} {G : zG} {ce sl pc : Nat} {lv : List (Nat × Value)} {cc : ByteArray} {nL : Nat} {ret : Option FieldType} {rm : Room} {w w1 : va_W} {rest : List Value} {r : Option Value} {a0 : Int32} {a1 : Int32} {b : Nat} {fs : List Value} (C : zC x G RL cc nL ret rm) (hc : Ct (xl x) G yX12_ask cX12_ask 3 (some .long) rmX12_ask [.ref b, .int a0, .int a1] w r w1) (q0 : Nat) (he : w[q0]? = some (b, .inr (11, fs))) (hd : decode cc pc = .ok (.invokevirtual 105, 3)) (hcat : (rest.map fun v => v.category).sum ≤ 8) (hrm : zRm rm rmX12_ask 3 ce sl) (K : zW x G (ce + rmX12_ask.cells) (sl + rmX12_ask.slots) (pc + 3) lv (r.toList ++ rest) w1) : zW x G ce sl pc lv (.int a1 :: .int a0 :: .ref b :: rest) w := z_callV C 2 rw_u_1402 rw_u_78 rw_u_1399 rw_u_1400 rw_u_1401 ⟨by decide, by decide, by decide +kernel⟩ (T := TX12) (N := 55) rfl hc rfl q0 he hd hcat hrm K
theorem rw_c_L_106 {x : zX} {G : zG} {ce sl pc : Nat} {lv : List (Nat × Value)} {cc : ByteArray} {nL : Nat} {ret : Option FieldType} {rm : Room} {w w1 : va_W} {rest : List Value} {r : Option Value} {a0 : Int32} {b : Nat} {fs : List Value} (C : zC x G RL cc nL ret rm) (hc : Ct (xl x) G yX11_trace cX11_trace 2 (some .int) rmX11_trace [.ref b, .int a0] w r w1) (q0 : Nat) (he : w[q0]? = some (b, .inr (10, fs))) (hd : decode cc pc = .ok (.invokevirtual 106, 3)) (hcat : (rest.map fun v => v.category).sum ≤ 8) (hrm : zRm rm rmX11_trace 2 ce sl) (K : zW x G (ce + rmX11_trace.cells) (sl + rmX11_trace.slots) (pc + 3) lv (r.toList ++ rest) w1) : zW x G ce sl pc lv (.int a0 :: .ref b :: rest) w := z_callV C 1 rw_u_941 rw_u_71 rw_u_938 rw_u_939 rw_u_940 ⟨by decide, by decide, by decide +kernel⟩ (T := TX11) (N := 14) rfl hc rfl q0 he hd hcat hrm K
theorem rw_c_L_110 {x : zX} {G : zG} {ce sl pc : Nat} {lv : List (Nat × Value)} {cc : ByteArray} {nL : Nat} {ret : Option FieldType} {rm : Room} {w w1 : va_W} {rest : List Value} {r : Option Value} {a0 : Int32} {b : Nat} {fs : List Value} (C : zC x G RL cc nL ret rm) (hc : Ct (xl x) G yX12_trace cX12_trace 2 (some .int) rmX12_trace [.ref b, .int a0] w r w1) (q0 : Nat) (he : w[q0]? = some (b, .inr (11, fs))) (hd : decode cc pc = .ok (.invokevirtual 110, 3)) (hcat : (rest.map fun v => v.category).sum ≤ 8) (hrm : zRm rm rmX12_trace 2 ce sl) (K : zW x G (ce + rmX12_trace.cells) (sl + rmX12_trace.slots) (pc + 3) lv (r.toList ++ rest) w1) : zW x G ce sl pc lv (.int a0 :: .ref b :: rest) w := z_callV C 1 rw_u_1422 rw_u_78 rw_u_1419 rw_u_1420 rw_u_1421 ⟨by decide, by decide, by decide +kernel⟩ (T := TX12) (N := 55) rfl hc rfl q0 he hd hcat hrm K
theorem rw_c_L_111 {x : zX} {G : zG} {ce sl pc : Nat} {lv : List (Nat × Value)} {cc : ByteArray} {nL : Nat} {ret : Option FieldType} {rm : Room} {w w1 : va_W} {rest : List Value} {r : Option Value} {a0 : Int32} {b : Nat} {fs : List Value} (C : zC x G RL cc nL ret rm) (hc : Ct (xl x) G yX11_count cX11_count 2 (some .long) rmX11_count [.ref b, .int a0] w r w1) (q0 : Nat) (he : w[q0]? = some (b, .inr (10, fs))) (hd : decode cc pc = .ok (.invokevirtual 111, 3)) (hcat : (rest.map fun v => v.category).sum ≤ 8) (hrm : zRm rm rmX11_count 2 ce sl) (K : zW x G (ce + rmX11_count.cells) (sl + rmX11_count.slots) (pc + 3) lv (r.toList ++ rest) w1) : zW x G ce sl pc lv (.int a0 :: .ref b :: rest) w := z_callV C 1 rw_u_945 rw_u_71 rw_u_942 rw_u_943 rw_u_944 ⟨by decide, by decide, by decide +kernel⟩ (T := TX11) (N := 14) rfl hc rfl q0 he hd hcat hrm K
theorem rw_c_L_114 {x : zX} {G : zG} {ce sl pc : Nat} {lv : List (Nat × Value)} {cc : ByteArray} {nL : Nat} {ret : Option FieldType} {rm : Room} {w w1 : va_W} {rest : List Value} {r : Option Value} {a0 : Int32} {b : Nat} {fs : List Value} (C : zC x G RL cc nL ret rm) (hc : Ct (xl x) G yX12_count cX12_count 4 (some .long) rmX12_count [.ref b, .int a0] w r w1) (q0 : Nat) (he : w[q0]? = some (b, .inr (11, fs))) (hd : decode cc pc = .ok (.invokevirtual 114, 3)) (hcat : (rest.map fun v => v.category).sum ≤ 8) (hrm : zRm rm rmX12_count 4 ce sl) (K : zW x G (ce + rmX12_count.cells) (sl + rmX12_count.slots) (pc + 3) lv (r.toList ++ rest) w1) : zW x G ce sl pc lv (.int a0 :: .ref b :: rest) w := z_callV C 1 rw_u_1426 rw_u_78 rw_u_1423 rw_u_1424 rw_u_1425 ⟨by decide, by decide, by decide +kernel⟩ (T := TX12) (N := 55) rfl hc rfl q0 he hd hcat hrm K
theorem rw_c_L_115 {x : zX} {G : zG} {ce sl pc : Nat} {lv : List (Nat × Value)} {cc : ByteArray} {nL : Nat} {ret : Option FieldType} {rm : Room} {w w1 : va_W} {rest : List Value} {r : Option Value}  {b : Nat} {fs : List Value} (C : zC x G RL cc nL ret rm) (hc : Ct (xl x) G yX11_status cX11_status 1 (some .int) rmX11_status [.ref b] w r w1) (q0 : Nat) (he : w[q0]? = some (b, .inr (10, fs))) (hd : decode cc pc = .ok (.invokevirtual 115, 3)) (hcat : (rest.map fun v => v.category).sum ≤ 8) (hrm : zRm rm rmX11_status 1 ce sl) (K : zW x G (ce + rmX11_status.cells) (sl + rmX11_status.slots) (pc + 3) lv (r.toList ++ rest) w1) : zW x G ce sl pc lv (.ref b :: rest) w := z_callV C 0 rw_u_953 rw_u_71 rw_u_950 rw_u_951 rw_u_952 ⟨by decide, by decide, by decide +kernel⟩ (T := TX11) (N := 14) rfl hc rfl q0 he hd hcat hrm K
theorem rw_c_L_118 {x : zX} {G : zG} {ce sl pc : Nat} {lv : List (Nat × Value)} {cc : ByteArray} {nL : Nat} {ret : Option FieldType} {rm : Room} {w w1 : va_W} {rest : List Value} {r : Option Value}  {b : Nat} {fs : List Value} (C : zC x G RL cc nL ret rm) (hc : Ct (xl x) G yX12_status cX12_status 1 (some .int) rmX12_status [.ref b] w r w1) (q0 : Nat) (he : w[q0]? = some (b, .inr (11, fs))) (hd : decode cc pc = .ok (.invokevirtual 118, 3)) (hcat : (rest.map fun v => v.category).sum ≤ 8) (hrm : zRm rm rmX12_status 1 ce sl) (K : zW x G (ce + rmX12_status.cells) (sl + rmX12_status.slots) (pc + 3) lv (r.toList ++ rest) w1) : zW x G ce sl pc lv (.ref b :: rest) w := z_callV C 0 rw_u_1430 rw_u_78 rw_u_1427 rw_u_1428 rw_u_1429 ⟨by decide, by decide, by decide +kernel⟩ (T := TX12) (N := 55) rfl hc rfl q0 he hd hcat hrm K
set_option maxHeartbeats 4000000 in
set_option maxRecDepth 100000 in
theorem law_row {x : zX} {G : zG} {qX qR qS qP qC qU qD qV qT qM : Nat → Nat} {rC rD b L k : Nat} {sc : Nat → Int32} {ce sl : Nat} {u u' : zLS} (C : zC x G RL cL_law 4 (some .boolean) room_1) (hX : va_X b L sc (xs x) (xs x).heap) (hbl : b < (xs x).heap.size) (hbA : ¬ xA x b) (hL : L ≤ 3072) (hk : 6 * k + 6 ≤ L) (hce : ce ≤ 5000) (hsl : sl ≤ 50000) (h : ls_row (sc (6 * k + 1)) (sc (6 * k + 2)) (sc (6 * k + 3)) u = some (true, u')) (K : ∀ (qS' qP' : Nat → Nat) (rC' rD' : Nat), zW x G (ce + 1) (sl + 3) 937 [(0, .ref b), (1, .ref (qX 0)), (2, .ref (qM 0)), (3, .int (nI (6 * k)))] [] (wdX G qX qR qS' qP' qC qU qD qV qT u'.1 ++ (wdR G qR u'.2.1 ++ (wdS G qS' u'.2.2.1 ++ (wdS G qP' u'.2.2.2.1 ++ (wdC G qC rC' u'.2.2.2.2.1 ++ (wdU G qU u'.2.2.2.2.2.1 ++ (wdC G qD rD' u'.2.2.2.2.2.2.1 ++ (wdU G qV u'.2.2.2.2.2.2.2.1 ++ (wdT G qT u'.2.2.2.2.2.2.2.2.1 ++ (wdM G qM u'.2.2.2.2.2.2.2.2.2))))))))))) : zW x G ce sl 144 [(0, .ref b), (1, .ref (qX 0)), (2, .ref (qM 0)), (3, .int (nI (6 * k)))] [] (wdX G qX qR qS qP qC qU qD qV qT u.1 ++ (wdR G qR u.2.1 ++ (wdS G qS u.2.2.1 ++ (wdS G qP u.2.2.2.1 ++ (wdC G qC rC u.2.2.2.2.1 ++ (wdU G qU u.2.2.2.2.2.1 ++ (wdC G qD rD u.2.2.2.2.2.2.1 ++ (wdU G qV u.2.2.2.2.2.2.2.1 ++ (wdT G qT u.2.2.2.2.2.2.2.2.1 ++ (wdM G qM u.2.2.2.2.2.2.2.2.2)))))))))) := by
  unfold ls_row at h
  refine z_aload_n C dL_law_144 1 rfl ?_
  refine z_aload_n C dL_law_145 0 rfl ?_
  refine z_iload_n C dL_law_146 3 rfl ?_
  refine z_iconst C 1 dL_law_147 (by decide) ?_
  refine z_iadd C dL_law_148 ?_
  refine z_sld C hX hbl hbA hL (6 * k + 1) (by omega) (znI k 1 (by decide)) dL_law_149 ?_
  refine z_aload_n C dL_law_150 0 rfl ?_
  refine z_iload_n C dL_law_151 3 rfl ?_
  refine z_iconst C 2 dL_law_152 (by decide) ?_
  refine z_iadd C dL_law_153 ?_
  refine z_sld C hX hbl hbA hL (6 * k + 2) (by omega) (znI k 2 (by decide)) dL_law_154 ?_
  refine z_aload_n C dL_law_155 0 rfl ?_
  refine z_iload_n C dL_law_156 3 rfl ?_
  refine z_iconst C 3 dL_law_157 (by decide) ?_
  refine z_iadd C dL_law_158 ?_
  refine z_sld C hX hbl hbA hL (6 * k + 3) (by omega) (znI k 3 (by decide)) dL_law_159 ?_
  obtain ⟨y1, hy1, h⟩ := bind_o h
  refine rw_c_L_13 C (Ct.frame (cX_row hy1) (w := wdX G qX qR qS qP qC qU qD qV qT u.1 ++ (wdR G qR u.2.1 ++ (wdS G qS u.2.2.1 ++ (wdS G qP u.2.2.2.1 ++ (wdC G qC rC u.2.2.2.2.1 ++ (wdU G qU u.2.2.2.2.2.1 ++ (wdC G qD rD u.2.2.2.2.2.2.1 ++ (wdU G qV u.2.2.2.2.2.2.2.1 ++ (wdT G qT u.2.2.2.2.2.2.2.2.1 ++ (wdM G qM u.2.2.2.2.2.2.2.2.2)))))))))) (w' := wdX G qX qR qS qP qC qU qD qV qT y1.2 ++ (wdR G qR u.2.1 ++ (wdS G qS u.2.2.1 ++ (wdS G qP u.2.2.2.1 ++ (wdC G qC rC u.2.2.2.2.1 ++ (wdU G qU u.2.2.2.2.2.1 ++ (wdC G qD rD u.2.2.2.2.2.2.1 ++ (wdU G qV u.2.2.2.2.2.2.2.1 ++ (wdT G qT u.2.2.2.2.2.2.2.2.1 ++ (wdM G qM u.2.2.2.2.2.2.2.2.2)))))))))) (wr := wdR G qR u.2.1 ++ (wdS G qS u.2.2.1 ++ (wdS G qP u.2.2.2.1 ++ (wdC G qC rC u.2.2.2.2.1 ++ (wdU G qU u.2.2.2.2.2.1 ++ (wdC G qD rD u.2.2.2.2.2.2.1 ++ (wdU G qV u.2.2.2.2.2.2.2.1 ++ (wdT G qT u.2.2.2.2.2.2.2.2.1 ++ (wdM G qM u.2.2.2.2.2.2.2.2.2))))))))) [0, 1, 2, 3] [4, 5, 6, 7, 8, 9, 10, 11, 12, 13, 14, 15, 16, 17, 18, 19, 20, 21, 22, 23, 24, 25, 26, 27, 28, 29, 30, 31, 32, 33, 34, 35, 36, 37, 38, 39, 40, 41, 42, 43, 44, 45, 46, 47, 48, 49, 50, 51, 52, 53, 54, 55, 56, 57, 58, 59, 60, 61, 62, 63, 64, 65, 66, 67, 68, 69, 70, 71, 72, 73, 74, 75, 76, 77, 78, 79, 80, 81, 82, 83, 84, 85, 86, 87, 88, 89, 90, 91, 92, 93, 94, 95, 96, 97, 98, 99, 100, 101, 102, 103, 104, 105, 106, 107, 108, 109, 110] [107, 108, 109, 110, 0, 1, 2, 3, 4, 5, 6, 7, 8, 9, 10, 11, 12, 13, 14, 15, 16, 17, 18, 19, 20, 21, 22, 23, 24, 25, 26, 27, 28, 29, 30, 31, 32, 33, 34, 35, 36, 37, 38, 39, 40, 41, 42, 43, 44, 45, 46, 47, 48, 49, 50, 51, 52, 53, 54, 55, 56, 57, 58, 59, 60, 61, 62, 63, 64, 65, 66, 67, 68, 69, 70, 71, 72, 73, 74, 75, 76, 77, 78, 79, 80, 81, 82, 83, 84, 85, 86, 87, 88, 89, 90, 91, 92, 93, 94, 95, 96, 97, 98, 99, 100, 101, 102, 103, 104, 105, 106] rfl rfl rfl rfl (by decide) rfl rfl) 0 rfl dL_law_160 (Nat.le_of_ble_eq_true rfl) (zrmL rfl (by omega) (by omega)) ?_
  refine z_aload_n C dL_law_163 2 rfl ?_
  refine z_aload_n C dL_law_164 0 rfl ?_
  refine z_iload_n C dL_law_165 3 rfl ?_
  refine z_iconst C 1 dL_law_166 (by decide) ?_
  refine z_iadd C dL_law_167 ?_
  refine z_sld C hX hbl hbA hL (6 * k + 1) (by omega) (znI k 1 (by decide)) dL_law_168 ?_
  refine z_aload_n C dL_law_169 0 rfl ?_
  refine z_iload_n C dL_law_170 3 rfl ?_
  refine z_iconst C 2 dL_law_171 (by decide) ?_
  refine z_iadd C dL_law_172 ?_
  refine z_sld C hX hbl hbA hL (6 * k + 2) (by omega) (znI k 2 (by decide)) dL_law_173 ?_
  refine z_aload_n C dL_law_174 0 rfl ?_
  refine z_iload_n C dL_law_175 3 rfl ?_
  refine z_iconst C 3 dL_law_176 (by decide) ?_
  refine z_iadd C dL_law_177 ?_
  refine z_sld C hX hbl hbA hL (6 * k + 3) (by omega) (znI k 3 (by decide)) dL_law_178 ?_
  obtain ⟨y2, hy2, h⟩ := bind_o h
  refine rw_c_L_17 C (Ct.frame (cM_row hy2) (w := wdX G qX qR qS qP qC qU qD qV qT y1.2 ++ (wdR G qR u.2.1 ++ (wdS G qS u.2.2.1 ++ (wdS G qP u.2.2.2.1 ++ (wdC G qC rC u.2.2.2.2.1 ++ (wdU G qU u.2.2.2.2.2.1 ++ (wdC G qD rD u.2.2.2.2.2.2.1 ++ (wdU G qV u.2.2.2.2.2.2.2.1 ++ (wdT G qT u.2.2.2.2.2.2.2.2.1 ++ (wdM G qM u.2.2.2.2.2.2.2.2.2)))))))))) (w' := wdX G qX qR qS qP qC qU qD qV qT y1.2 ++ (wdR G qR u.2.1 ++ (wdS G qS u.2.2.1 ++ (wdS G qP u.2.2.2.1 ++ (wdC G qC rC u.2.2.2.2.1 ++ (wdU G qU u.2.2.2.2.2.1 ++ (wdC G qD rD u.2.2.2.2.2.2.1 ++ (wdU G qV u.2.2.2.2.2.2.2.1 ++ (wdT G qT u.2.2.2.2.2.2.2.2.1 ++ (wdM G qM y2.2)))))))))) (wr := wdX G qX qR qS qP qC qU qD qV qT y1.2 ++ (wdR G qR u.2.1 ++ (wdS G qS u.2.2.1 ++ (wdS G qP u.2.2.2.1 ++ (wdC G qC rC u.2.2.2.2.1 ++ (wdU G qU u.2.2.2.2.2.1 ++ (wdC G qD rD u.2.2.2.2.2.2.1 ++ (wdU G qV u.2.2.2.2.2.2.2.1 ++ (wdT G qT u.2.2.2.2.2.2.2.2.1))))))))) [78, 79, 80, 81, 82, 83, 84, 85, 86, 87, 88, 89, 90, 91, 92, 93, 94, 95, 96, 97, 98, 99, 100, 101, 102, 103, 104, 105, 106, 107, 108, 109, 110] [0, 1, 2, 3, 4, 5, 6, 7, 8, 9, 10, 11, 12, 13, 14, 15, 16, 17, 18, 19, 20, 21, 22, 23, 24, 25, 26, 27, 28, 29, 30, 31, 32, 33, 34, 35, 36, 37, 38, 39, 40, 41, 42, 43, 44, 45, 46, 47, 48, 49, 50, 51, 52, 53, 54, 55, 56, 57, 58, 59, 60, 61, 62, 63, 64, 65, 66, 67, 68, 69, 70, 71, 72, 73, 74, 75, 76, 77] [0, 1, 2, 3, 4, 5, 6, 7, 8, 9, 10, 11, 12, 13, 14, 15, 16, 17, 18, 19, 20, 21, 22, 23, 24, 25, 26, 27, 28, 29, 30, 31, 32, 33, 34, 35, 36, 37, 38, 39, 40, 41, 42, 43, 44, 45, 46, 47, 48, 49, 50, 51, 52, 53, 54, 55, 56, 57, 58, 59, 60, 61, 62, 63, 64, 65, 66, 67, 68, 69, 70, 71, 72, 73, 74, 75, 76, 77, 78, 79, 80, 81, 82, 83, 84, 85, 86, 87, 88, 89, 90, 91, 92, 93, 94, 95, 96, 97, 98, 99, 100, 101, 102, 103, 104, 105, 106, 107, 108, 109, 110] rfl rfl rfl rfl (by decide) rfl rfl) 78 rfl dL_law_179 (Nat.le_of_ble_eq_true rfl) (zrmL rfl (by show ce + 0 ≤ 6000; omega) (by show sl + 0 ≤ 60000; omega)) ?_
  replace h := Option.some.inj h
  have he := of_decide_eq_true (congrArg Prod.fst h)
  have hu := congrArg Prod.snd h
  subst hu
  refine z_lcmp_eq C dL_law_182 dL_law_183 937 (by decide) (p := some ()) (q := none) (o := ()) (dd := inferInstance) (if_pos he) (fun _ => ?_) (fun h => by cases h)
  refine z_wide (ce' := ce + 1) (sl' := sl + 3) (by show ce + 0 + 0 ≤ ce + 1; omega) (by show sl + 0 + 0 ≤ sl + 3; omega) ?_
  exact K qS qP rC rD
set_option maxHeartbeats 4000000 in
set_option maxRecDepth 100000 in
theorem law_set {x : zX} {G : zG} {qX qR qS qP qC qU qD qV qT qM : Nat → Nat} {rC rD b L k : Nat} {sc : Nat → Int32} {ce sl : Nat} {u u' : zLS} (C : zC x G RL cL_law 4 (some .boolean) room_1) (hX : va_X b L sc (xs x) (xs x).heap) (hbl : b < (xs x).heap.size) (hbA : ¬ xA x b) (hL : L ≤ 3072) (hk : 6 * k + 6 ≤ L) (hce : ce ≤ 5000) (hsl : sl ≤ 50000) (h : ls_set (sc (6 * k + 1)) (sc (6 * k + 2)) (sc (6 * k + 3)) u = some (true, u')) (K : ∀ (qS' qP' : Nat → Nat) (rC' rD' : Nat), zW x G (ce + 1) (sl + 3) 937 [(0, .ref b), (1, .ref (qX 0)), (2, .ref (qM 0)), (3, .int (nI (6 * k)))] [] (wdX G qX qR qS' qP' qC qU qD qV qT u'.1 ++ (wdR G qR u'.2.1 ++ (wdS G qS' u'.2.2.1 ++ (wdS G qP' u'.2.2.2.1 ++ (wdC G qC rC' u'.2.2.2.2.1 ++ (wdU G qU u'.2.2.2.2.2.1 ++ (wdC G qD rD' u'.2.2.2.2.2.2.1 ++ (wdU G qV u'.2.2.2.2.2.2.2.1 ++ (wdT G qT u'.2.2.2.2.2.2.2.2.1 ++ (wdM G qM u'.2.2.2.2.2.2.2.2.2))))))))))) : zW x G ce sl 188 [(0, .ref b), (1, .ref (qX 0)), (2, .ref (qM 0)), (3, .int (nI (6 * k)))] [] (wdX G qX qR qS qP qC qU qD qV qT u.1 ++ (wdR G qR u.2.1 ++ (wdS G qS u.2.2.1 ++ (wdS G qP u.2.2.2.1 ++ (wdC G qC rC u.2.2.2.2.1 ++ (wdU G qU u.2.2.2.2.2.1 ++ (wdC G qD rD u.2.2.2.2.2.2.1 ++ (wdU G qV u.2.2.2.2.2.2.2.1 ++ (wdT G qT u.2.2.2.2.2.2.2.2.1 ++ (wdM G qM u.2.2.2.2.2.2.2.2.2)))))))))) := by
  unfold ls_set at h
  refine z_aload_n C dL_law_188 1 rfl ?_
  refine z_aload_n C dL_law_189 0 rfl ?_
  refine z_iload_n C dL_law_190 3 rfl ?_
  refine z_iconst C 1 dL_law_191 (by decide) ?_
  refine z_iadd C dL_law_192 ?_
  refine z_sld C hX hbl hbA hL (6 * k + 1) (by omega) (znI k 1 (by decide)) dL_law_193 ?_
  refine z_aload_n C dL_law_194 0 rfl ?_
  refine z_iload_n C dL_law_195 3 rfl ?_
  refine z_iconst C 2 dL_law_196 (by decide) ?_
  refine z_iadd C dL_law_197 ?_
  refine z_sld C hX hbl hbA hL (6 * k + 2) (by omega) (znI k 2 (by decide)) dL_law_198 ?_
  refine z_aload_n C dL_law_199 0 rfl ?_
  refine z_iload_n C dL_law_200 3 rfl ?_
  refine z_iconst C 3 dL_law_201 (by decide) ?_
  refine z_iadd C dL_law_202 ?_
  refine z_sld C hX hbl hbA hL (6 * k + 3) (by omega) (znI k 3 (by decide)) dL_law_203 ?_
  obtain ⟨y1, hy1, h⟩ := bind_o h
  refine rw_c_L_18 C (Ct.frame (cX_set hy1) (w := wdX G qX qR qS qP qC qU qD qV qT u.1 ++ (wdR G qR u.2.1 ++ (wdS G qS u.2.2.1 ++ (wdS G qP u.2.2.2.1 ++ (wdC G qC rC u.2.2.2.2.1 ++ (wdU G qU u.2.2.2.2.2.1 ++ (wdC G qD rD u.2.2.2.2.2.2.1 ++ (wdU G qV u.2.2.2.2.2.2.2.1 ++ (wdT G qT u.2.2.2.2.2.2.2.2.1 ++ (wdM G qM u.2.2.2.2.2.2.2.2.2)))))))))) (w' := wdX G qX qR qS qP qC qU qD qV qT y1.2 ++ (wdR G qR u.2.1 ++ (wdS G qS u.2.2.1 ++ (wdS G qP u.2.2.2.1 ++ (wdC G qC rC u.2.2.2.2.1 ++ (wdU G qU u.2.2.2.2.2.1 ++ (wdC G qD rD u.2.2.2.2.2.2.1 ++ (wdU G qV u.2.2.2.2.2.2.2.1 ++ (wdT G qT u.2.2.2.2.2.2.2.2.1 ++ (wdM G qM u.2.2.2.2.2.2.2.2.2)))))))))) (wr := wdR G qR u.2.1 ++ (wdS G qS u.2.2.1 ++ (wdS G qP u.2.2.2.1 ++ (wdC G qC rC u.2.2.2.2.1 ++ (wdU G qU u.2.2.2.2.2.1 ++ (wdC G qD rD u.2.2.2.2.2.2.1 ++ (wdU G qV u.2.2.2.2.2.2.2.1 ++ (wdT G qT u.2.2.2.2.2.2.2.2.1 ++ (wdM G qM u.2.2.2.2.2.2.2.2.2))))))))) [0, 1, 2, 3] [4, 5, 6, 7, 8, 9, 10, 11, 12, 13, 14, 15, 16, 17, 18, 19, 20, 21, 22, 23, 24, 25, 26, 27, 28, 29, 30, 31, 32, 33, 34, 35, 36, 37, 38, 39, 40, 41, 42, 43, 44, 45, 46, 47, 48, 49, 50, 51, 52, 53, 54, 55, 56, 57, 58, 59, 60, 61, 62, 63, 64, 65, 66, 67, 68, 69, 70, 71, 72, 73, 74, 75, 76, 77, 78, 79, 80, 81, 82, 83, 84, 85, 86, 87, 88, 89, 90, 91, 92, 93, 94, 95, 96, 97, 98, 99, 100, 101, 102, 103, 104, 105, 106, 107, 108, 109, 110] [107, 108, 109, 110, 0, 1, 2, 3, 4, 5, 6, 7, 8, 9, 10, 11, 12, 13, 14, 15, 16, 17, 18, 19, 20, 21, 22, 23, 24, 25, 26, 27, 28, 29, 30, 31, 32, 33, 34, 35, 36, 37, 38, 39, 40, 41, 42, 43, 44, 45, 46, 47, 48, 49, 50, 51, 52, 53, 54, 55, 56, 57, 58, 59, 60, 61, 62, 63, 64, 65, 66, 67, 68, 69, 70, 71, 72, 73, 74, 75, 76, 77, 78, 79, 80, 81, 82, 83, 84, 85, 86, 87, 88, 89, 90, 91, 92, 93, 94, 95, 96, 97, 98, 99, 100, 101, 102, 103, 104, 105, 106] rfl rfl rfl rfl (by decide) rfl rfl) 0 rfl dL_law_204 (Nat.le_of_ble_eq_true rfl) (zrmL rfl (by omega) (by omega)) ?_
  refine z_aload_n C dL_law_207 2 rfl ?_
  refine z_aload_n C dL_law_208 0 rfl ?_
  refine z_iload_n C dL_law_209 3 rfl ?_
  refine z_iconst C 1 dL_law_210 (by decide) ?_
  refine z_iadd C dL_law_211 ?_
  refine z_sld C hX hbl hbA hL (6 * k + 1) (by omega) (znI k 1 (by decide)) dL_law_212 ?_
  refine z_aload_n C dL_law_213 0 rfl ?_
  refine z_iload_n C dL_law_214 3 rfl ?_
  refine z_iconst C 2 dL_law_215 (by decide) ?_
  refine z_iadd C dL_law_216 ?_
  refine z_sld C hX hbl hbA hL (6 * k + 2) (by omega) (znI k 2 (by decide)) dL_law_217 ?_
  refine z_aload_n C dL_law_218 0 rfl ?_
  refine z_iload_n C dL_law_219 3 rfl ?_
  refine z_iconst C 3 dL_law_220 (by decide) ?_
  refine z_iadd C dL_law_221 ?_
  refine z_sld C hX hbl hbA hL (6 * k + 3) (by omega) (znI k 3 (by decide)) dL_law_222 ?_
  obtain ⟨y2, hy2, h⟩ := bind_o h
  refine rw_c_L_21 C (Ct.frame (cM_set hy2) (w := wdX G qX qR qS qP qC qU qD qV qT y1.2 ++ (wdR G qR u.2.1 ++ (wdS G qS u.2.2.1 ++ (wdS G qP u.2.2.2.1 ++ (wdC G qC rC u.2.2.2.2.1 ++ (wdU G qU u.2.2.2.2.2.1 ++ (wdC G qD rD u.2.2.2.2.2.2.1 ++ (wdU G qV u.2.2.2.2.2.2.2.1 ++ (wdT G qT u.2.2.2.2.2.2.2.2.1 ++ (wdM G qM u.2.2.2.2.2.2.2.2.2)))))))))) (w' := wdX G qX qR qS qP qC qU qD qV qT y1.2 ++ (wdR G qR u.2.1 ++ (wdS G qS u.2.2.1 ++ (wdS G qP u.2.2.2.1 ++ (wdC G qC rC u.2.2.2.2.1 ++ (wdU G qU u.2.2.2.2.2.1 ++ (wdC G qD rD u.2.2.2.2.2.2.1 ++ (wdU G qV u.2.2.2.2.2.2.2.1 ++ (wdT G qT u.2.2.2.2.2.2.2.2.1 ++ (wdM G qM y2.2)))))))))) (wr := wdX G qX qR qS qP qC qU qD qV qT y1.2 ++ (wdR G qR u.2.1 ++ (wdS G qS u.2.2.1 ++ (wdS G qP u.2.2.2.1 ++ (wdC G qC rC u.2.2.2.2.1 ++ (wdU G qU u.2.2.2.2.2.1 ++ (wdC G qD rD u.2.2.2.2.2.2.1 ++ (wdU G qV u.2.2.2.2.2.2.2.1 ++ (wdT G qT u.2.2.2.2.2.2.2.2.1))))))))) [78, 79, 80, 81, 82, 83, 84, 85, 86, 87, 88, 89, 90, 91, 92, 93, 94, 95, 96, 97, 98, 99, 100, 101, 102, 103, 104, 105, 106, 107, 108, 109, 110] [0, 1, 2, 3, 4, 5, 6, 7, 8, 9, 10, 11, 12, 13, 14, 15, 16, 17, 18, 19, 20, 21, 22, 23, 24, 25, 26, 27, 28, 29, 30, 31, 32, 33, 34, 35, 36, 37, 38, 39, 40, 41, 42, 43, 44, 45, 46, 47, 48, 49, 50, 51, 52, 53, 54, 55, 56, 57, 58, 59, 60, 61, 62, 63, 64, 65, 66, 67, 68, 69, 70, 71, 72, 73, 74, 75, 76, 77] [0, 1, 2, 3, 4, 5, 6, 7, 8, 9, 10, 11, 12, 13, 14, 15, 16, 17, 18, 19, 20, 21, 22, 23, 24, 25, 26, 27, 28, 29, 30, 31, 32, 33, 34, 35, 36, 37, 38, 39, 40, 41, 42, 43, 44, 45, 46, 47, 48, 49, 50, 51, 52, 53, 54, 55, 56, 57, 58, 59, 60, 61, 62, 63, 64, 65, 66, 67, 68, 69, 70, 71, 72, 73, 74, 75, 76, 77, 78, 79, 80, 81, 82, 83, 84, 85, 86, 87, 88, 89, 90, 91, 92, 93, 94, 95, 96, 97, 98, 99, 100, 101, 102, 103, 104, 105, 106, 107, 108, 109, 110] rfl rfl rfl rfl (by decide) rfl rfl) 78 rfl dL_law_223 (Nat.le_of_ble_eq_true rfl) (zrmL rfl (by show ce + 0 ≤ 6000; omega) (by show sl + 0 ≤ 60000; omega)) ?_
  replace h := Option.some.inj h
  have he := of_decide_eq_true (congrArg Prod.fst h)
  have hu := congrArg Prod.snd h
  subst hu
  refine z_lcmp_eq C dL_law_226 dL_law_227 937 (by decide) (p := some ()) (q := none) (o := ()) (dd := inferInstance) (if_pos he) (fun _ => ?_) (fun h => by cases h)
  refine z_wide (ce' := ce + 1) (sl' := sl + 3) (by show ce + 0 + 0 ≤ ce + 1; omega) (by show sl + 0 + 0 ≤ sl + 3; omega) ?_
  exact K qS qP rC rD
set_option maxHeartbeats 4000000 in
set_option maxRecDepth 100000 in
theorem law_copy {x : zX} {G : zG} {qX qR qS qP qC qU qD qV qT qM : Nat → Nat} {rC rD b L k : Nat} {sc : Nat → Int32} {ce sl : Nat} {u u' : zLS} (C : zC x G RL cL_law 4 (some .boolean) room_1) (hX : va_X b L sc (xs x) (xs x).heap) (hbl : b < (xs x).heap.size) (hbA : ¬ xA x b) (hL : L ≤ 3072) (hk : 6 * k + 6 ≤ L) (hce : ce ≤ 5000) (hsl : sl ≤ 50000) (h : ls_copy (sc (6 * k + 1)) (sc (6 * k + 2)) (sc (6 * k + 3)) (sc (6 * k + 4)) (sc (6 * k + 5)) u = some (true, u')) (K : ∀ (qS' qP' : Nat → Nat) (rC' rD' : Nat), zW x G (ce + 1) (sl + 3) 937 [(0, .ref b), (1, .ref (qX 0)), (2, .ref (qM 0)), (3, .int (nI (6 * k)))] [] (wdX G qX qR qS' qP' qC qU qD qV qT u'.1 ++ (wdR G qR u'.2.1 ++ (wdS G qS' u'.2.2.1 ++ (wdS G qP' u'.2.2.2.1 ++ (wdC G qC rC' u'.2.2.2.2.1 ++ (wdU G qU u'.2.2.2.2.2.1 ++ (wdC G qD rD' u'.2.2.2.2.2.2.1 ++ (wdU G qV u'.2.2.2.2.2.2.2.1 ++ (wdT G qT u'.2.2.2.2.2.2.2.2.1 ++ (wdM G qM u'.2.2.2.2.2.2.2.2.2))))))))))) : zW x G ce sl 232 [(0, .ref b), (1, .ref (qX 0)), (2, .ref (qM 0)), (3, .int (nI (6 * k)))] [] (wdX G qX qR qS qP qC qU qD qV qT u.1 ++ (wdR G qR u.2.1 ++ (wdS G qS u.2.2.1 ++ (wdS G qP u.2.2.2.1 ++ (wdC G qC rC u.2.2.2.2.1 ++ (wdU G qU u.2.2.2.2.2.1 ++ (wdC G qD rD u.2.2.2.2.2.2.1 ++ (wdU G qV u.2.2.2.2.2.2.2.1 ++ (wdT G qT u.2.2.2.2.2.2.2.2.1 ++ (wdM G qM u.2.2.2.2.2.2.2.2.2)))))))))) := by
  unfold ls_copy at h
  refine z_aload_n C dL_law_232 1 rfl ?_
  refine z_aload_n C dL_law_233 0 rfl ?_
  refine z_iload_n C dL_law_234 3 rfl ?_
  refine z_iconst C 1 dL_law_235 (by decide) ?_
  refine z_iadd C dL_law_236 ?_
  refine z_sld C hX hbl hbA hL (6 * k + 1) (by omega) (znI k 1 (by decide)) dL_law_237 ?_
  refine z_aload_n C dL_law_238 0 rfl ?_
  refine z_iload_n C dL_law_239 3 rfl ?_
  refine z_iconst C 2 dL_law_240 (by decide) ?_
  refine z_iadd C dL_law_241 ?_
  refine z_sld C hX hbl hbA hL (6 * k + 2) (by omega) (znI k 2 (by decide)) dL_law_242 ?_
  refine z_aload_n C dL_law_243 0 rfl ?_
  refine z_iload_n C dL_law_244 3 rfl ?_
  refine z_iconst C 3 dL_law_245 (by decide) ?_
  refine z_iadd C dL_law_246 ?_
  refine z_sld C hX hbl hbA hL (6 * k + 3) (by omega) (znI k 3 (by decide)) dL_law_247 ?_
  refine z_aload_n C dL_law_248 0 rfl ?_
  refine z_iload_n C dL_law_249 3 rfl ?_
  refine z_iconst C 4 dL_law_250 (by decide) ?_
  refine z_iadd C dL_law_251 ?_
  refine z_sld C hX hbl hbA hL (6 * k + 4) (by omega) (znI k 4 (by decide)) dL_law_252 ?_
  refine z_aload_n C dL_law_253 0 rfl ?_
  refine z_iload_n C dL_law_254 3 rfl ?_
  refine z_iconst C 5 dL_law_255 (by decide) ?_
  refine z_iadd C dL_law_256 ?_
  refine z_sld C hX hbl hbA hL (6 * k + 5) (by omega) (znI k 5 (by decide)) dL_law_257 ?_
  obtain ⟨y1, hy1, h⟩ := bind_o h
  refine rw_c_L_22 C (Ct.frame (cX_copy hy1) (w := wdX G qX qR qS qP qC qU qD qV qT u.1 ++ (wdR G qR u.2.1 ++ (wdS G qS u.2.2.1 ++ (wdS G qP u.2.2.2.1 ++ (wdC G qC rC u.2.2.2.2.1 ++ (wdU G qU u.2.2.2.2.2.1 ++ (wdC G qD rD u.2.2.2.2.2.2.1 ++ (wdU G qV u.2.2.2.2.2.2.2.1 ++ (wdT G qT u.2.2.2.2.2.2.2.2.1 ++ (wdM G qM u.2.2.2.2.2.2.2.2.2)))))))))) (w' := wdX G qX qR qS qP qC qU qD qV qT y1.2 ++ (wdR G qR u.2.1 ++ (wdS G qS u.2.2.1 ++ (wdS G qP u.2.2.2.1 ++ (wdC G qC rC u.2.2.2.2.1 ++ (wdU G qU u.2.2.2.2.2.1 ++ (wdC G qD rD u.2.2.2.2.2.2.1 ++ (wdU G qV u.2.2.2.2.2.2.2.1 ++ (wdT G qT u.2.2.2.2.2.2.2.2.1 ++ (wdM G qM u.2.2.2.2.2.2.2.2.2)))))))))) (wr := wdR G qR u.2.1 ++ (wdS G qS u.2.2.1 ++ (wdS G qP u.2.2.2.1 ++ (wdC G qC rC u.2.2.2.2.1 ++ (wdU G qU u.2.2.2.2.2.1 ++ (wdC G qD rD u.2.2.2.2.2.2.1 ++ (wdU G qV u.2.2.2.2.2.2.2.1 ++ (wdT G qT u.2.2.2.2.2.2.2.2.1 ++ (wdM G qM u.2.2.2.2.2.2.2.2.2))))))))) [0, 1, 2, 3] [4, 5, 6, 7, 8, 9, 10, 11, 12, 13, 14, 15, 16, 17, 18, 19, 20, 21, 22, 23, 24, 25, 26, 27, 28, 29, 30, 31, 32, 33, 34, 35, 36, 37, 38, 39, 40, 41, 42, 43, 44, 45, 46, 47, 48, 49, 50, 51, 52, 53, 54, 55, 56, 57, 58, 59, 60, 61, 62, 63, 64, 65, 66, 67, 68, 69, 70, 71, 72, 73, 74, 75, 76, 77, 78, 79, 80, 81, 82, 83, 84, 85, 86, 87, 88, 89, 90, 91, 92, 93, 94, 95, 96, 97, 98, 99, 100, 101, 102, 103, 104, 105, 106, 107, 108, 109, 110] [107, 108, 109, 110, 0, 1, 2, 3, 4, 5, 6, 7, 8, 9, 10, 11, 12, 13, 14, 15, 16, 17, 18, 19, 20, 21, 22, 23, 24, 25, 26, 27, 28, 29, 30, 31, 32, 33, 34, 35, 36, 37, 38, 39, 40, 41, 42, 43, 44, 45, 46, 47, 48, 49, 50, 51, 52, 53, 54, 55, 56, 57, 58, 59, 60, 61, 62, 63, 64, 65, 66, 67, 68, 69, 70, 71, 72, 73, 74, 75, 76, 77, 78, 79, 80, 81, 82, 83, 84, 85, 86, 87, 88, 89, 90, 91, 92, 93, 94, 95, 96, 97, 98, 99, 100, 101, 102, 103, 104, 105, 106] rfl rfl rfl rfl (by decide) rfl rfl) 0 rfl dL_law_258 (Nat.le_of_ble_eq_true rfl) (zrmL rfl (by omega) (by omega)) ?_
  refine z_aload_n C dL_law_261 2 rfl ?_
  refine z_aload_n C dL_law_262 0 rfl ?_
  refine z_iload_n C dL_law_263 3 rfl ?_
  refine z_iconst C 1 dL_law_264 (by decide) ?_
  refine z_iadd C dL_law_265 ?_
  refine z_sld C hX hbl hbA hL (6 * k + 1) (by omega) (znI k 1 (by decide)) dL_law_266 ?_
  refine z_aload_n C dL_law_267 0 rfl ?_
  refine z_iload_n C dL_law_268 3 rfl ?_
  refine z_iconst C 2 dL_law_269 (by decide) ?_
  refine z_iadd C dL_law_270 ?_
  refine z_sld C hX hbl hbA hL (6 * k + 2) (by omega) (znI k 2 (by decide)) dL_law_271 ?_
  refine z_aload_n C dL_law_272 0 rfl ?_
  refine z_iload_n C dL_law_273 3 rfl ?_
  refine z_iconst C 3 dL_law_274 (by decide) ?_
  refine z_iadd C dL_law_275 ?_
  refine z_sld C hX hbl hbA hL (6 * k + 3) (by omega) (znI k 3 (by decide)) dL_law_276 ?_
  refine z_aload_n C dL_law_277 0 rfl ?_
  refine z_iload_n C dL_law_278 3 rfl ?_
  refine z_iconst C 4 dL_law_279 (by decide) ?_
  refine z_iadd C dL_law_280 ?_
  refine z_sld C hX hbl hbA hL (6 * k + 4) (by omega) (znI k 4 (by decide)) dL_law_281 ?_
  refine z_aload_n C dL_law_282 0 rfl ?_
  refine z_iload_n C dL_law_283 3 rfl ?_
  refine z_iconst C 5 dL_law_284 (by decide) ?_
  refine z_iadd C dL_law_285 ?_
  refine z_sld C hX hbl hbA hL (6 * k + 5) (by omega) (znI k 5 (by decide)) dL_law_286 ?_
  obtain ⟨y2, hy2, h⟩ := bind_o h
  refine rw_c_L_26 C (Ct.frame (cM_copy hy2) (w := wdX G qX qR qS qP qC qU qD qV qT y1.2 ++ (wdR G qR u.2.1 ++ (wdS G qS u.2.2.1 ++ (wdS G qP u.2.2.2.1 ++ (wdC G qC rC u.2.2.2.2.1 ++ (wdU G qU u.2.2.2.2.2.1 ++ (wdC G qD rD u.2.2.2.2.2.2.1 ++ (wdU G qV u.2.2.2.2.2.2.2.1 ++ (wdT G qT u.2.2.2.2.2.2.2.2.1 ++ (wdM G qM u.2.2.2.2.2.2.2.2.2)))))))))) (w' := wdX G qX qR qS qP qC qU qD qV qT y1.2 ++ (wdR G qR u.2.1 ++ (wdS G qS u.2.2.1 ++ (wdS G qP u.2.2.2.1 ++ (wdC G qC rC u.2.2.2.2.1 ++ (wdU G qU u.2.2.2.2.2.1 ++ (wdC G qD rD u.2.2.2.2.2.2.1 ++ (wdU G qV u.2.2.2.2.2.2.2.1 ++ (wdT G qT u.2.2.2.2.2.2.2.2.1 ++ (wdM G qM y2.2)))))))))) (wr := wdX G qX qR qS qP qC qU qD qV qT y1.2 ++ (wdR G qR u.2.1 ++ (wdS G qS u.2.2.1 ++ (wdS G qP u.2.2.2.1 ++ (wdC G qC rC u.2.2.2.2.1 ++ (wdU G qU u.2.2.2.2.2.1 ++ (wdC G qD rD u.2.2.2.2.2.2.1 ++ (wdU G qV u.2.2.2.2.2.2.2.1 ++ (wdT G qT u.2.2.2.2.2.2.2.2.1))))))))) [78, 79, 80, 81, 82, 83, 84, 85, 86, 87, 88, 89, 90, 91, 92, 93, 94, 95, 96, 97, 98, 99, 100, 101, 102, 103, 104, 105, 106, 107, 108, 109, 110] [0, 1, 2, 3, 4, 5, 6, 7, 8, 9, 10, 11, 12, 13, 14, 15, 16, 17, 18, 19, 20, 21, 22, 23, 24, 25, 26, 27, 28, 29, 30, 31, 32, 33, 34, 35, 36, 37, 38, 39, 40, 41, 42, 43, 44, 45, 46, 47, 48, 49, 50, 51, 52, 53, 54, 55, 56, 57, 58, 59, 60, 61, 62, 63, 64, 65, 66, 67, 68, 69, 70, 71, 72, 73, 74, 75, 76, 77] [0, 1, 2, 3, 4, 5, 6, 7, 8, 9, 10, 11, 12, 13, 14, 15, 16, 17, 18, 19, 20, 21, 22, 23, 24, 25, 26, 27, 28, 29, 30, 31, 32, 33, 34, 35, 36, 37, 38, 39, 40, 41, 42, 43, 44, 45, 46, 47, 48, 49, 50, 51, 52, 53, 54, 55, 56, 57, 58, 59, 60, 61, 62, 63, 64, 65, 66, 67, 68, 69, 70, 71, 72, 73, 74, 75, 76, 77, 78, 79, 80, 81, 82, 83, 84, 85, 86, 87, 88, 89, 90, 91, 92, 93, 94, 95, 96, 97, 98, 99, 100, 101, 102, 103, 104, 105, 106, 107, 108, 109, 110] rfl rfl rfl rfl (by decide) rfl rfl) 78 rfl dL_law_287 (Nat.le_of_ble_eq_true rfl) (zrmL rfl (by show ce + 0 ≤ 6000; omega) (by show sl + 0 ≤ 60000; omega)) ?_
  replace h := Option.some.inj h
  have he := of_decide_eq_true (congrArg Prod.fst h)
  have hu := congrArg Prod.snd h
  subst hu
  refine z_lcmp_eq C dL_law_290 dL_law_291 937 (by decide) (p := some ()) (q := none) (o := ()) (dd := inferInstance) (if_pos he) (fun _ => ?_) (fun h => by cases h)
  refine z_wide (ce' := ce + 1) (sl' := sl + 3) (by show ce + 0 + 0 ≤ ce + 1; omega) (by show sl + 0 + 0 ≤ sl + 3; omega) ?_
  exact K qS qP rC rD
set_option maxHeartbeats 4000000 in
set_option maxRecDepth 100000 in
theorem law_drop {x : zX} {G : zG} {qX qR qS qP qC qU qD qV qT qM : Nat → Nat} {rC rD b L k : Nat} {sc : Nat → Int32} {ce sl : Nat} {u u' : zLS} (C : zC x G RL cL_law 4 (some .boolean) room_1) (hX : va_X b L sc (xs x) (xs x).heap) (hbl : b < (xs x).heap.size) (hbA : ¬ xA x b) (hL : L ≤ 3072) (hk : 6 * k + 6 ≤ L) (hce : ce ≤ 5000) (hsl : sl ≤ 50000) (h : ls_drop (sc (6 * k + 1)) u = some (true, u')) (K : ∀ (qS' qP' : Nat → Nat) (rC' rD' : Nat), zW x G (ce + 1) (sl + 3) 937 [(0, .ref b), (1, .ref (qX 0)), (2, .ref (qM 0)), (3, .int (nI (6 * k)))] [] (wdX G qX qR qS' qP' qC qU qD qV qT u'.1 ++ (wdR G qR u'.2.1 ++ (wdS G qS' u'.2.2.1 ++ (wdS G qP' u'.2.2.2.1 ++ (wdC G qC rC' u'.2.2.2.2.1 ++ (wdU G qU u'.2.2.2.2.2.1 ++ (wdC G qD rD' u'.2.2.2.2.2.2.1 ++ (wdU G qV u'.2.2.2.2.2.2.2.1 ++ (wdT G qT u'.2.2.2.2.2.2.2.2.1 ++ (wdM G qM u'.2.2.2.2.2.2.2.2.2))))))))))) : zW x G ce sl 296 [(0, .ref b), (1, .ref (qX 0)), (2, .ref (qM 0)), (3, .int (nI (6 * k)))] [] (wdX G qX qR qS qP qC qU qD qV qT u.1 ++ (wdR G qR u.2.1 ++ (wdS G qS u.2.2.1 ++ (wdS G qP u.2.2.2.1 ++ (wdC G qC rC u.2.2.2.2.1 ++ (wdU G qU u.2.2.2.2.2.1 ++ (wdC G qD rD u.2.2.2.2.2.2.1 ++ (wdU G qV u.2.2.2.2.2.2.2.1 ++ (wdT G qT u.2.2.2.2.2.2.2.2.1 ++ (wdM G qM u.2.2.2.2.2.2.2.2.2)))))))))) := by
  unfold ls_drop at h
  refine z_aload_n C dL_law_296 1 rfl ?_
  refine z_aload_n C dL_law_297 0 rfl ?_
  refine z_iload_n C dL_law_298 3 rfl ?_
  refine z_iconst C 1 dL_law_299 (by decide) ?_
  refine z_iadd C dL_law_300 ?_
  refine z_sld C hX hbl hbA hL (6 * k + 1) (by omega) (znI k 1 (by decide)) dL_law_301 ?_
  obtain ⟨y1, hy1, h⟩ := bind_o h
  refine rw_c_L_27 C (Ct.frame (cX_drop hy1) (w := wdX G qX qR qS qP qC qU qD qV qT u.1 ++ (wdR G qR u.2.1 ++ (wdS G qS u.2.2.1 ++ (wdS G qP u.2.2.2.1 ++ (wdC G qC rC u.2.2.2.2.1 ++ (wdU G qU u.2.2.2.2.2.1 ++ (wdC G qD rD u.2.2.2.2.2.2.1 ++ (wdU G qV u.2.2.2.2.2.2.2.1 ++ (wdT G qT u.2.2.2.2.2.2.2.2.1 ++ (wdM G qM u.2.2.2.2.2.2.2.2.2)))))))))) (w' := wdX G qX qR qS qP qC qU qD qV qT y1.2 ++ (wdR G qR u.2.1 ++ (wdS G qS u.2.2.1 ++ (wdS G qP u.2.2.2.1 ++ (wdC G qC rC u.2.2.2.2.1 ++ (wdU G qU u.2.2.2.2.2.1 ++ (wdC G qD rD u.2.2.2.2.2.2.1 ++ (wdU G qV u.2.2.2.2.2.2.2.1 ++ (wdT G qT u.2.2.2.2.2.2.2.2.1 ++ (wdM G qM u.2.2.2.2.2.2.2.2.2)))))))))) (wr := wdR G qR u.2.1 ++ (wdS G qS u.2.2.1 ++ (wdS G qP u.2.2.2.1 ++ (wdC G qC rC u.2.2.2.2.1 ++ (wdU G qU u.2.2.2.2.2.1 ++ (wdC G qD rD u.2.2.2.2.2.2.1 ++ (wdU G qV u.2.2.2.2.2.2.2.1 ++ (wdT G qT u.2.2.2.2.2.2.2.2.1 ++ (wdM G qM u.2.2.2.2.2.2.2.2.2))))))))) [0, 1, 2, 3] [4, 5, 6, 7, 8, 9, 10, 11, 12, 13, 14, 15, 16, 17, 18, 19, 20, 21, 22, 23, 24, 25, 26, 27, 28, 29, 30, 31, 32, 33, 34, 35, 36, 37, 38, 39, 40, 41, 42, 43, 44, 45, 46, 47, 48, 49, 50, 51, 52, 53, 54, 55, 56, 57, 58, 59, 60, 61, 62, 63, 64, 65, 66, 67, 68, 69, 70, 71, 72, 73, 74, 75, 76, 77, 78, 79, 80, 81, 82, 83, 84, 85, 86, 87, 88, 89, 90, 91, 92, 93, 94, 95, 96, 97, 98, 99, 100, 101, 102, 103, 104, 105, 106, 107, 108, 109, 110] [107, 108, 109, 110, 0, 1, 2, 3, 4, 5, 6, 7, 8, 9, 10, 11, 12, 13, 14, 15, 16, 17, 18, 19, 20, 21, 22, 23, 24, 25, 26, 27, 28, 29, 30, 31, 32, 33, 34, 35, 36, 37, 38, 39, 40, 41, 42, 43, 44, 45, 46, 47, 48, 49, 50, 51, 52, 53, 54, 55, 56, 57, 58, 59, 60, 61, 62, 63, 64, 65, 66, 67, 68, 69, 70, 71, 72, 73, 74, 75, 76, 77, 78, 79, 80, 81, 82, 83, 84, 85, 86, 87, 88, 89, 90, 91, 92, 93, 94, 95, 96, 97, 98, 99, 100, 101, 102, 103, 104, 105, 106] rfl rfl rfl rfl (by decide) rfl rfl) 0 rfl dL_law_302 (Nat.le_of_ble_eq_true rfl) (zrmL rfl (by omega) (by omega)) ?_
  refine z_aload_n C dL_law_305 2 rfl ?_
  refine z_aload_n C dL_law_306 0 rfl ?_
  refine z_iload_n C dL_law_307 3 rfl ?_
  refine z_iconst C 1 dL_law_308 (by decide) ?_
  refine z_iadd C dL_law_309 ?_
  refine z_sld C hX hbl hbA hL (6 * k + 1) (by omega) (znI k 1 (by decide)) dL_law_310 ?_
  obtain ⟨y2, hy2, h⟩ := bind_o h
  refine rw_c_L_31 C (Ct.frame (cM_drop hy2) (w := wdX G qX qR qS qP qC qU qD qV qT y1.2 ++ (wdR G qR u.2.1 ++ (wdS G qS u.2.2.1 ++ (wdS G qP u.2.2.2.1 ++ (wdC G qC rC u.2.2.2.2.1 ++ (wdU G qU u.2.2.2.2.2.1 ++ (wdC G qD rD u.2.2.2.2.2.2.1 ++ (wdU G qV u.2.2.2.2.2.2.2.1 ++ (wdT G qT u.2.2.2.2.2.2.2.2.1 ++ (wdM G qM u.2.2.2.2.2.2.2.2.2)))))))))) (w' := wdX G qX qR qS qP qC qU qD qV qT y1.2 ++ (wdR G qR u.2.1 ++ (wdS G qS u.2.2.1 ++ (wdS G qP u.2.2.2.1 ++ (wdC G qC rC u.2.2.2.2.1 ++ (wdU G qU u.2.2.2.2.2.1 ++ (wdC G qD rD u.2.2.2.2.2.2.1 ++ (wdU G qV u.2.2.2.2.2.2.2.1 ++ (wdT G qT u.2.2.2.2.2.2.2.2.1 ++ (wdM G qM y2.2)))))))))) (wr := wdX G qX qR qS qP qC qU qD qV qT y1.2 ++ (wdR G qR u.2.1 ++ (wdS G qS u.2.2.1 ++ (wdS G qP u.2.2.2.1 ++ (wdC G qC rC u.2.2.2.2.1 ++ (wdU G qU u.2.2.2.2.2.1 ++ (wdC G qD rD u.2.2.2.2.2.2.1 ++ (wdU G qV u.2.2.2.2.2.2.2.1 ++ (wdT G qT u.2.2.2.2.2.2.2.2.1))))))))) [78, 79, 80, 81, 82, 83, 84, 85, 86, 87, 88, 89, 90, 91, 92, 93, 94, 95, 96, 97, 98, 99, 100, 101, 102, 103, 104, 105, 106, 107, 108, 109, 110] [0, 1, 2, 3, 4, 5, 6, 7, 8, 9, 10, 11, 12, 13, 14, 15, 16, 17, 18, 19, 20, 21, 22, 23, 24, 25, 26, 27, 28, 29, 30, 31, 32, 33, 34, 35, 36, 37, 38, 39, 40, 41, 42, 43, 44, 45, 46, 47, 48, 49, 50, 51, 52, 53, 54, 55, 56, 57, 58, 59, 60, 61, 62, 63, 64, 65, 66, 67, 68, 69, 70, 71, 72, 73, 74, 75, 76, 77] [0, 1, 2, 3, 4, 5, 6, 7, 8, 9, 10, 11, 12, 13, 14, 15, 16, 17, 18, 19, 20, 21, 22, 23, 24, 25, 26, 27, 28, 29, 30, 31, 32, 33, 34, 35, 36, 37, 38, 39, 40, 41, 42, 43, 44, 45, 46, 47, 48, 49, 50, 51, 52, 53, 54, 55, 56, 57, 58, 59, 60, 61, 62, 63, 64, 65, 66, 67, 68, 69, 70, 71, 72, 73, 74, 75, 76, 77, 78, 79, 80, 81, 82, 83, 84, 85, 86, 87, 88, 89, 90, 91, 92, 93, 94, 95, 96, 97, 98, 99, 100, 101, 102, 103, 104, 105, 106, 107, 108, 109, 110] rfl rfl rfl rfl (by decide) rfl rfl) 78 rfl dL_law_311 (Nat.le_of_ble_eq_true rfl) (zrmL rfl (by show ce + 0 ≤ 6000; omega) (by show sl + 0 ≤ 60000; omega)) ?_
  replace h := Option.some.inj h
  have he := of_decide_eq_true (congrArg Prod.fst h)
  have hu := congrArg Prod.snd h
  subst hu
  refine z_lcmp_eq C dL_law_314 dL_law_315 937 (by decide) (p := some ()) (q := none) (o := ()) (dd := inferInstance) (if_pos he) (fun _ => ?_) (fun h => by cases h)
  refine z_wide (ce' := ce + 1) (sl' := sl + 3) (by show ce + 0 + 0 ≤ ce + 1; omega) (by show sl + 0 + 0 ≤ sl + 3; omega) ?_
  exact K qS qP rC rD
set_option maxHeartbeats 4000000 in
set_option maxRecDepth 100000 in
theorem law_feed {x : zX} {G : zG} {qX qR qS qP qC qU qD qV qT qM : Nat → Nat} {rC rD b L k : Nat} {sc : Nat → Int32} {ce sl : Nat} {u u' : zLS} (C : zC x G RL cL_law 4 (some .boolean) room_1) (hX : va_X b L sc (xs x) (xs x).heap) (hbl : b < (xs x).heap.size) (hbA : ¬ xA x b) (hL : L ≤ 3072) (hk : 6 * k + 6 ≤ L) (hce : ce ≤ 5000) (hsl : sl ≤ 50000) (h : ls_feed (sc (6 * k + 1)) (sc (6 * k + 2)) (sc (6 * k + 3)) u = some (true, u')) (K : ∀ (qS' qP' : Nat → Nat) (rC' rD' : Nat), zW x G (ce + 1) (sl + 3) 937 [(0, .ref b), (1, .ref (qX 0)), (2, .ref (qM 0)), (3, .int (nI (6 * k)))] [] (wdX G qX qR qS' qP' qC qU qD qV qT u'.1 ++ (wdR G qR u'.2.1 ++ (wdS G qS' u'.2.2.1 ++ (wdS G qP' u'.2.2.2.1 ++ (wdC G qC rC' u'.2.2.2.2.1 ++ (wdU G qU u'.2.2.2.2.2.1 ++ (wdC G qD rD' u'.2.2.2.2.2.2.1 ++ (wdU G qV u'.2.2.2.2.2.2.2.1 ++ (wdT G qT u'.2.2.2.2.2.2.2.2.1 ++ (wdM G qM u'.2.2.2.2.2.2.2.2.2))))))))))) : zW x G ce sl 320 [(0, .ref b), (1, .ref (qX 0)), (2, .ref (qM 0)), (3, .int (nI (6 * k)))] [] (wdX G qX qR qS qP qC qU qD qV qT u.1 ++ (wdR G qR u.2.1 ++ (wdS G qS u.2.2.1 ++ (wdS G qP u.2.2.2.1 ++ (wdC G qC rC u.2.2.2.2.1 ++ (wdU G qU u.2.2.2.2.2.1 ++ (wdC G qD rD u.2.2.2.2.2.2.1 ++ (wdU G qV u.2.2.2.2.2.2.2.1 ++ (wdT G qT u.2.2.2.2.2.2.2.2.1 ++ (wdM G qM u.2.2.2.2.2.2.2.2.2)))))))))) := by
  unfold ls_feed at h
  refine z_aload_n C dL_law_320 1 rfl ?_
  refine z_aload_n C dL_law_321 0 rfl ?_
  refine z_iload_n C dL_law_322 3 rfl ?_
  refine z_iconst C 1 dL_law_323 (by decide) ?_
  refine z_iadd C dL_law_324 ?_
  refine z_sld C hX hbl hbA hL (6 * k + 1) (by omega) (znI k 1 (by decide)) dL_law_325 ?_
  refine z_i2l C dL_law_326 ?_
  refine z_bipush C 32 dL_law_327 (by decide) ?_
  refine z_lshl C dL_law_329 ?_
  refine z_aload_n C dL_law_330 0 rfl ?_
  refine z_iload_n C dL_law_331 3 rfl ?_
  refine z_iconst C 2 dL_law_332 (by decide) ?_
  refine z_iadd C dL_law_333 ?_
  refine z_sld C hX hbl hbA hL (6 * k + 2) (by omega) (znI k 2 (by decide)) dL_law_334 ?_
  refine z_i2l C dL_law_335 ?_
  refine z_ldc2 C rw_u_1431 dL_law_336 ?_
  refine z_land C dL_law_339 ?_
  refine z_lor C dL_law_340 ?_
  refine z_aload_n C dL_law_341 0 rfl ?_
  refine z_iload_n C dL_law_342 3 rfl ?_
  refine z_iconst C 3 dL_law_343 (by decide) ?_
  refine z_iadd C dL_law_344 ?_
  refine z_sld C hX hbl hbA hL (6 * k + 3) (by omega) (znI k 3 (by decide)) dL_law_345 ?_
  obtain ⟨y1, hy1, h⟩ := bind_o h
  refine rw_c_L_34 C (Ct.frame (cX_feed hy1) (w := wdX G qX qR qS qP qC qU qD qV qT u.1 ++ (wdR G qR u.2.1 ++ (wdS G qS u.2.2.1 ++ (wdS G qP u.2.2.2.1 ++ (wdC G qC rC u.2.2.2.2.1 ++ (wdU G qU u.2.2.2.2.2.1 ++ (wdC G qD rD u.2.2.2.2.2.2.1 ++ (wdU G qV u.2.2.2.2.2.2.2.1 ++ (wdT G qT u.2.2.2.2.2.2.2.2.1 ++ (wdM G qM u.2.2.2.2.2.2.2.2.2)))))))))) (w' := wdX G qX qR qS qP qC qU qD qV qT u.1 ++ (wdR G qR y1.2 ++ (wdS G qS u.2.2.1 ++ (wdS G qP u.2.2.2.1 ++ (wdC G qC rC u.2.2.2.2.1 ++ (wdU G qU u.2.2.2.2.2.1 ++ (wdC G qD rD u.2.2.2.2.2.2.1 ++ (wdU G qV u.2.2.2.2.2.2.2.1 ++ (wdT G qT u.2.2.2.2.2.2.2.2.1 ++ (wdM G qM u.2.2.2.2.2.2.2.2.2)))))))))) (wr := wdS G qS u.2.2.1 ++ (wdS G qP u.2.2.2.1 ++ (wdC G qC rC u.2.2.2.2.1 ++ (wdU G qU u.2.2.2.2.2.1 ++ (wdC G qD rD u.2.2.2.2.2.2.1 ++ (wdU G qV u.2.2.2.2.2.2.2.1 ++ (wdT G qT u.2.2.2.2.2.2.2.2.1 ++ (wdM G qM u.2.2.2.2.2.2.2.2.2)))))))) [0, 1, 2, 3, 4, 5] [6, 7, 8, 9, 10, 11, 12, 13, 14, 15, 16, 17, 18, 19, 20, 21, 22, 23, 24, 25, 26, 27, 28, 29, 30, 31, 32, 33, 34, 35, 36, 37, 38, 39, 40, 41, 42, 43, 44, 45, 46, 47, 48, 49, 50, 51, 52, 53, 54, 55, 56, 57, 58, 59, 60, 61, 62, 63, 64, 65, 66, 67, 68, 69, 70, 71, 72, 73, 74, 75, 76, 77, 78, 79, 80, 81, 82, 83, 84, 85, 86, 87, 88, 89, 90, 91, 92, 93, 94, 95, 96, 97, 98, 99, 100, 101, 102, 103, 104, 105, 106, 107, 108, 109, 110] [105, 106, 107, 108, 109, 110, 0, 1, 2, 3, 4, 5, 6, 7, 8, 9, 10, 11, 12, 13, 14, 15, 16, 17, 18, 19, 20, 21, 22, 23, 24, 25, 26, 27, 28, 29, 30, 31, 32, 33, 34, 35, 36, 37, 38, 39, 40, 41, 42, 43, 44, 45, 46, 47, 48, 49, 50, 51, 52, 53, 54, 55, 56, 57, 58, 59, 60, 61, 62, 63, 64, 65, 66, 67, 68, 69, 70, 71, 72, 73, 74, 75, 76, 77, 78, 79, 80, 81, 82, 83, 84, 85, 86, 87, 88, 89, 90, 91, 92, 93, 94, 95, 96, 97, 98, 99, 100, 101, 102, 103, 104] rfl rfl rfl rfl (by decide) rfl rfl) 0 rfl dL_law_346 (Nat.le_of_ble_eq_true rfl) (zrmL rfl (by omega) (by omega)) ?_
  refine z_aload_n C dL_law_349 2 rfl ?_
  refine z_aload_n C dL_law_350 0 rfl ?_
  refine z_iload_n C dL_law_351 3 rfl ?_
  refine z_iconst C 1 dL_law_352 (by decide) ?_
  refine z_iadd C dL_law_353 ?_
  refine z_sld C hX hbl hbA hL (6 * k + 1) (by omega) (znI k 1 (by decide)) dL_law_354 ?_
  refine z_i2l C dL_law_355 ?_
  refine z_bipush C 32 dL_law_356 (by decide) ?_
  refine z_lshl C dL_law_358 ?_
  refine z_aload_n C dL_law_359 0 rfl ?_
  refine z_iload_n C dL_law_360 3 rfl ?_
  refine z_iconst C 2 dL_law_361 (by decide) ?_
  refine z_iadd C dL_law_362 ?_
  refine z_sld C hX hbl hbA hL (6 * k + 2) (by omega) (znI k 2 (by decide)) dL_law_363 ?_
  refine z_i2l C dL_law_364 ?_
  refine z_ldc2 C rw_u_1431 dL_law_365 ?_
  refine z_land C dL_law_368 ?_
  refine z_lor C dL_law_369 ?_
  refine z_aload_n C dL_law_370 0 rfl ?_
  refine z_iload_n C dL_law_371 3 rfl ?_
  refine z_iconst C 3 dL_law_372 (by decide) ?_
  refine z_iadd C dL_law_373 ?_
  refine z_sld C hX hbl hbA hL (6 * k + 3) (by omega) (znI k 3 (by decide)) dL_law_374 ?_
  obtain ⟨y2, hy2, h⟩ := bind_o h
  refine rw_c_L_38 C (Ct.frame (cM_feed hy2) (w := wdX G qX qR qS qP qC qU qD qV qT u.1 ++ (wdR G qR y1.2 ++ (wdS G qS u.2.2.1 ++ (wdS G qP u.2.2.2.1 ++ (wdC G qC rC u.2.2.2.2.1 ++ (wdU G qU u.2.2.2.2.2.1 ++ (wdC G qD rD u.2.2.2.2.2.2.1 ++ (wdU G qV u.2.2.2.2.2.2.2.1 ++ (wdT G qT u.2.2.2.2.2.2.2.2.1 ++ (wdM G qM u.2.2.2.2.2.2.2.2.2)))))))))) (w' := wdX G qX qR qS qP qC qU qD qV qT u.1 ++ (wdR G qR y1.2 ++ (wdS G qS u.2.2.1 ++ (wdS G qP u.2.2.2.1 ++ (wdC G qC rC u.2.2.2.2.1 ++ (wdU G qU u.2.2.2.2.2.1 ++ (wdC G qD rD u.2.2.2.2.2.2.1 ++ (wdU G qV u.2.2.2.2.2.2.2.1 ++ (wdT G qT u.2.2.2.2.2.2.2.2.1 ++ (wdM G qM y2.2)))))))))) (wr := wdX G qX qR qS qP qC qU qD qV qT u.1 ++ (wdR G qR y1.2 ++ (wdS G qS u.2.2.1 ++ (wdS G qP u.2.2.2.1 ++ (wdC G qC rC u.2.2.2.2.1 ++ (wdU G qU u.2.2.2.2.2.1 ++ (wdC G qD rD u.2.2.2.2.2.2.1 ++ (wdU G qV u.2.2.2.2.2.2.2.1 ++ (wdT G qT u.2.2.2.2.2.2.2.2.1))))))))) [78, 79, 80, 81, 82, 83, 84, 85, 86, 87, 88, 89, 90, 91, 92, 93, 94, 95, 96, 97, 98, 99, 100, 101, 102, 103, 104, 105, 106, 107, 108, 109, 110] [0, 1, 2, 3, 4, 5, 6, 7, 8, 9, 10, 11, 12, 13, 14, 15, 16, 17, 18, 19, 20, 21, 22, 23, 24, 25, 26, 27, 28, 29, 30, 31, 32, 33, 34, 35, 36, 37, 38, 39, 40, 41, 42, 43, 44, 45, 46, 47, 48, 49, 50, 51, 52, 53, 54, 55, 56, 57, 58, 59, 60, 61, 62, 63, 64, 65, 66, 67, 68, 69, 70, 71, 72, 73, 74, 75, 76, 77] [0, 1, 2, 3, 4, 5, 6, 7, 8, 9, 10, 11, 12, 13, 14, 15, 16, 17, 18, 19, 20, 21, 22, 23, 24, 25, 26, 27, 28, 29, 30, 31, 32, 33, 34, 35, 36, 37, 38, 39, 40, 41, 42, 43, 44, 45, 46, 47, 48, 49, 50, 51, 52, 53, 54, 55, 56, 57, 58, 59, 60, 61, 62, 63, 64, 65, 66, 67, 68, 69, 70, 71, 72, 73, 74, 75, 76, 77, 78, 79, 80, 81, 82, 83, 84, 85, 86, 87, 88, 89, 90, 91, 92, 93, 94, 95, 96, 97, 98, 99, 100, 101, 102, 103, 104, 105, 106, 107, 108, 109, 110] rfl rfl rfl rfl (by decide) rfl rfl) 78 rfl dL_law_375 (Nat.le_of_ble_eq_true rfl) (zrmL rfl (by show ce + 0 ≤ 6000; omega) (by show sl + 0 ≤ 60000; omega)) ?_
  replace h := Option.some.inj h
  have he := of_decide_eq_true (congrArg Prod.fst h)
  have hu := congrArg Prod.snd h
  subst hu
  refine z_lcmp_eq C dL_law_378 dL_law_379 937 (by decide) (p := some ()) (q := none) (o := ()) (dd := inferInstance) (if_pos he) (fun _ => ?_) (fun h => by cases h)
  refine z_wide (ce' := ce + 1) (sl' := sl + 3) (by show ce + 0 + 0 ≤ ce + 1; omega) (by show sl + 0 + 0 ≤ sl + 3; omega) ?_
  exact K qS qP rC rD
set_option maxHeartbeats 4000000 in
set_option maxRecDepth 100000 in
theorem law_life {x : zX} {G : zG} {qX qR qS qP qC qU qD qV qT qM : Nat → Nat} {rC rD b L k : Nat} {sc : Nat → Int32} {ce sl : Nat} {u u' : zLS} (C : zC x G RL cL_law 4 (some .boolean) room_1) (hX : va_X b L sc (xs x) (xs x).heap) (hbl : b < (xs x).heap.size) (hbA : ¬ xA x b) (hL : L ≤ 3072) (hk : 6 * k + 6 ≤ L) (hce : ce ≤ 5000) (hsl : sl ≤ 50000) (h : ls_life  u = some (true, u')) (K : ∀ (qS' qP' : Nat → Nat) (rC' rD' : Nat), zW x G (ce + 1) (sl + 3) 937 [(0, .ref b), (1, .ref (qX 0)), (2, .ref (qM 0)), (3, .int (nI (6 * k)))] [] (wdX G qX qR qS' qP' qC qU qD qV qT u'.1 ++ (wdR G qR u'.2.1 ++ (wdS G qS' u'.2.2.1 ++ (wdS G qP' u'.2.2.2.1 ++ (wdC G qC rC' u'.2.2.2.2.1 ++ (wdU G qU u'.2.2.2.2.2.1 ++ (wdC G qD rD' u'.2.2.2.2.2.2.1 ++ (wdU G qV u'.2.2.2.2.2.2.2.1 ++ (wdT G qT u'.2.2.2.2.2.2.2.2.1 ++ (wdM G qM u'.2.2.2.2.2.2.2.2.2))))))))))) : zW x G ce sl 384 [(0, .ref b), (1, .ref (qX 0)), (2, .ref (qM 0)), (3, .int (nI (6 * k)))] [] (wdX G qX qR qS qP qC qU qD qV qT u.1 ++ (wdR G qR u.2.1 ++ (wdS G qS u.2.2.1 ++ (wdS G qP u.2.2.2.1 ++ (wdC G qC rC u.2.2.2.2.1 ++ (wdU G qU u.2.2.2.2.2.1 ++ (wdC G qD rD u.2.2.2.2.2.2.1 ++ (wdU G qV u.2.2.2.2.2.2.2.1 ++ (wdT G qT u.2.2.2.2.2.2.2.2.1 ++ (wdM G qM u.2.2.2.2.2.2.2.2.2)))))))))) := by
  unfold ls_life at h
  refine z_aload_n C dL_law_384 1 rfl ?_
  obtain ⟨y1, hy1, h⟩ := bind_o h
  refine rw_c_L_39 C (Ctr.frame (cX_life hy1) (w := wdX G qX qR qS qP qC qU qD qV qT u.1 ++ (wdR G qR u.2.1 ++ (wdS G qS u.2.2.1 ++ (wdS G qP u.2.2.2.1 ++ (wdC G qC rC u.2.2.2.2.1 ++ (wdU G qU u.2.2.2.2.2.1 ++ (wdC G qD rD u.2.2.2.2.2.2.1 ++ (wdU G qV u.2.2.2.2.2.2.2.1 ++ (wdT G qT u.2.2.2.2.2.2.2.2.1 ++ (wdM G qM u.2.2.2.2.2.2.2.2.2)))))))))) (w' := fun z : (Nat → Nat) × (Nat → Nat) × Nat => wdX G qX qR z.1 z.2.1 qC qU qD qV qT y1.2.1 ++ (wdR G qR y1.2.2.1 ++ (wdS G z.1 y1.2.2.2.1 ++ (wdS G z.2.1 y1.2.2.2.2.1 ++ (wdC G qC z.2.2 y1.2.2.2.2.2.1 ++ (wdU G qU y1.2.2.2.2.2.2 ++ (wdC G qD rD u.2.2.2.2.2.2.1 ++ (wdU G qV u.2.2.2.2.2.2.2.1 ++ (wdT G qT u.2.2.2.2.2.2.2.2.1 ++ (wdM G qM u.2.2.2.2.2.2.2.2.2)))))))))) (wr := wdC G qD rD u.2.2.2.2.2.2.1 ++ (wdU G qV u.2.2.2.2.2.2.2.1 ++ (wdT G qT u.2.2.2.2.2.2.2.2.1 ++ (wdM G qM u.2.2.2.2.2.2.2.2.2)))) [0, 1, 2, 3, 4, 5, 6, 7, 8, 9, 10, 11, 12, 13, 14, 15, 16, 17, 18, 19, 20, 21, 22, 23, 24, 25, 26, 27, 28, 29, 30, 31, 32, 33, 34, 35, 36, 37, 38, 39, 40, 41, 42, 43, 44, 45, 46, 47, 48, 49, 50, 51] [52, 53, 54, 55, 56, 57, 58, 59, 60, 61, 62, 63, 64, 65, 66, 67, 68, 69, 70, 71, 72, 73, 74, 75, 76, 77, 78, 79, 80, 81, 82, 83, 84, 85, 86, 87, 88, 89, 90, 91, 92, 93, 94, 95, 96, 97, 98, 99, 100, 101, 102, 103, 104, 105, 106, 107, 108, 109, 110] [59, 60, 61, 62, 63, 64, 65, 66, 67, 68, 69, 70, 71, 72, 73, 74, 75, 76, 77, 78, 79, 80, 81, 82, 83, 84, 85, 86, 87, 88, 89, 90, 91, 92, 93, 94, 95, 96, 97, 98, 99, 100, 101, 102, 103, 104, 105, 106, 107, 108, 109, 110, 0, 1, 2, 3, 4, 5, 6, 7, 8, 9, 10, 11, 12, 13, 14, 15, 16, 17, 18, 19, 20, 21, 22, 23, 24, 25, 26, 27, 28, 29, 30, 31, 32, 33, 34, 35, 36, 37, 38, 39, 40, 41, 42, 43, 44, 45, 46, 47, 48, 49, 50, 51, 52, 53, 54, 55, 56, 57, 58] rfl rfl rfl rfl (by decide) (fun _ => rfl) rfl) 0 rfl dL_law_385 (Nat.le_of_ble_eq_true rfl) (zrmL rfl (by omega) (by omega)) (fun z1 => ?_)
  refine z_aload_n C dL_law_388 2 rfl ?_
  obtain ⟨y2, hy2, h⟩ := bind_o h
  refine rw_c_L_43 C (Ct.frame (cM_life hy2) (w := wdX G qX qR z1.1 z1.2.1 qC qU qD qV qT y1.2.1 ++ (wdR G qR y1.2.2.1 ++ (wdS G z1.1 y1.2.2.2.1 ++ (wdS G z1.2.1 y1.2.2.2.2.1 ++ (wdC G qC z1.2.2 y1.2.2.2.2.2.1 ++ (wdU G qU y1.2.2.2.2.2.2 ++ (wdC G qD rD u.2.2.2.2.2.2.1 ++ (wdU G qV u.2.2.2.2.2.2.2.1 ++ (wdT G qT u.2.2.2.2.2.2.2.2.1 ++ (wdM G qM u.2.2.2.2.2.2.2.2.2)))))))))) (w' := wdX G qX qR z1.1 z1.2.1 qC qU qD qV qT y1.2.1 ++ (wdR G qR y1.2.2.1 ++ (wdS G z1.1 y1.2.2.2.1 ++ (wdS G z1.2.1 y1.2.2.2.2.1 ++ (wdC G qC z1.2.2 y1.2.2.2.2.2.1 ++ (wdU G qU y1.2.2.2.2.2.2 ++ (wdC G qD rD u.2.2.2.2.2.2.1 ++ (wdU G qV u.2.2.2.2.2.2.2.1 ++ (wdT G qT u.2.2.2.2.2.2.2.2.1 ++ (wdM G qM y2.2)))))))))) (wr := wdX G qX qR z1.1 z1.2.1 qC qU qD qV qT y1.2.1 ++ (wdR G qR y1.2.2.1 ++ (wdS G z1.1 y1.2.2.2.1 ++ (wdS G z1.2.1 y1.2.2.2.2.1 ++ (wdC G qC z1.2.2 y1.2.2.2.2.2.1 ++ (wdU G qU y1.2.2.2.2.2.2 ++ (wdC G qD rD u.2.2.2.2.2.2.1 ++ (wdU G qV u.2.2.2.2.2.2.2.1 ++ (wdT G qT u.2.2.2.2.2.2.2.2.1))))))))) [78, 79, 80, 81, 82, 83, 84, 85, 86, 87, 88, 89, 90, 91, 92, 93, 94, 95, 96, 97, 98, 99, 100, 101, 102, 103, 104, 105, 106, 107, 108, 109, 110] [0, 1, 2, 3, 4, 5, 6, 7, 8, 9, 10, 11, 12, 13, 14, 15, 16, 17, 18, 19, 20, 21, 22, 23, 24, 25, 26, 27, 28, 29, 30, 31, 32, 33, 34, 35, 36, 37, 38, 39, 40, 41, 42, 43, 44, 45, 46, 47, 48, 49, 50, 51, 52, 53, 54, 55, 56, 57, 58, 59, 60, 61, 62, 63, 64, 65, 66, 67, 68, 69, 70, 71, 72, 73, 74, 75, 76, 77] [0, 1, 2, 3, 4, 5, 6, 7, 8, 9, 10, 11, 12, 13, 14, 15, 16, 17, 18, 19, 20, 21, 22, 23, 24, 25, 26, 27, 28, 29, 30, 31, 32, 33, 34, 35, 36, 37, 38, 39, 40, 41, 42, 43, 44, 45, 46, 47, 48, 49, 50, 51, 52, 53, 54, 55, 56, 57, 58, 59, 60, 61, 62, 63, 64, 65, 66, 67, 68, 69, 70, 71, 72, 73, 74, 75, 76, 77, 78, 79, 80, 81, 82, 83, 84, 85, 86, 87, 88, 89, 90, 91, 92, 93, 94, 95, 96, 97, 98, 99, 100, 101, 102, 103, 104, 105, 106, 107, 108, 109, 110] rfl rfl rfl rfl (by decide) rfl rfl) 78 rfl dL_law_389 (Nat.le_of_ble_eq_true rfl) (zrmL rfl (by show ce + 0 ≤ 6000; omega) (by show sl + 0 ≤ 60000; omega)) ?_
  replace h := Option.some.inj h
  have he := of_decide_eq_true (congrArg Prod.fst h)
  have hu := congrArg Prod.snd h
  subst hu
  refine z_lcmp_eq C dL_law_392 dL_law_393 937 (by decide) (p := some ()) (q := none) (o := ()) (dd := inferInstance) (if_pos he) (fun _ => ?_) (fun h => by cases h)
  refine z_wide (ce' := ce + 1) (sl' := sl + 3) (by show ce + 0 + 0 ≤ ce + 1; omega) (by show sl + 0 + 0 ≤ sl + 3; omega) ?_
  exact K z1.1 z1.2.1 z1.2.2 rD
set_option maxHeartbeats 4000000 in
set_option maxRecDepth 100000 in
theorem law_fault {x : zX} {G : zG} {qX qR qS qP qC qU qD qV qT qM : Nat → Nat} {rC rD b L k : Nat} {sc : Nat → Int32} {ce sl : Nat} {u u' : zLS} (C : zC x G RL cL_law 4 (some .boolean) room_1) (hX : va_X b L sc (xs x) (xs x).heap) (hbl : b < (xs x).heap.size) (hbA : ¬ xA x b) (hL : L ≤ 3072) (hk : 6 * k + 6 ≤ L) (hce : ce ≤ 5000) (hsl : sl ≤ 50000) (h : ls_fault  u = some (true, u')) (K : ∀ (qS' qP' : Nat → Nat) (rC' rD' : Nat), zW x G (ce + 1) (sl + 3) 937 [(0, .ref b), (1, .ref (qX 0)), (2, .ref (qM 0)), (3, .int (nI (6 * k)))] [] (wdX G qX qR qS' qP' qC qU qD qV qT u'.1 ++ (wdR G qR u'.2.1 ++ (wdS G qS' u'.2.2.1 ++ (wdS G qP' u'.2.2.2.1 ++ (wdC G qC rC' u'.2.2.2.2.1 ++ (wdU G qU u'.2.2.2.2.2.1 ++ (wdC G qD rD' u'.2.2.2.2.2.2.1 ++ (wdU G qV u'.2.2.2.2.2.2.2.1 ++ (wdT G qT u'.2.2.2.2.2.2.2.2.1 ++ (wdM G qM u'.2.2.2.2.2.2.2.2.2))))))))))) : zW x G ce sl 398 [(0, .ref b), (1, .ref (qX 0)), (2, .ref (qM 0)), (3, .int (nI (6 * k)))] [] (wdX G qX qR qS qP qC qU qD qV qT u.1 ++ (wdR G qR u.2.1 ++ (wdS G qS u.2.2.1 ++ (wdS G qP u.2.2.2.1 ++ (wdC G qC rC u.2.2.2.2.1 ++ (wdU G qU u.2.2.2.2.2.1 ++ (wdC G qD rD u.2.2.2.2.2.2.1 ++ (wdU G qV u.2.2.2.2.2.2.2.1 ++ (wdT G qT u.2.2.2.2.2.2.2.2.1 ++ (wdM G qM u.2.2.2.2.2.2.2.2.2)))))))))) := by
  unfold ls_fault at h
  refine z_aload_n C dL_law_398 1 rfl ?_
  obtain ⟨y1, hy1, h⟩ := bind_o h
  refine rw_c_L_44 C (Ct.frame (cX_fault hy1) (w := wdX G qX qR qS qP qC qU qD qV qT u.1 ++ (wdR G qR u.2.1 ++ (wdS G qS u.2.2.1 ++ (wdS G qP u.2.2.2.1 ++ (wdC G qC rC u.2.2.2.2.1 ++ (wdU G qU u.2.2.2.2.2.1 ++ (wdC G qD rD u.2.2.2.2.2.2.1 ++ (wdU G qV u.2.2.2.2.2.2.2.1 ++ (wdT G qT u.2.2.2.2.2.2.2.2.1 ++ (wdM G qM u.2.2.2.2.2.2.2.2.2)))))))))) (w' := wdX G qX qR qS qP qC qU qD qV qT u.1 ++ (wdR G qR u.2.1 ++ (wdS G qS u.2.2.1 ++ (wdS G qP u.2.2.2.1 ++ (wdC G qC rC u.2.2.2.2.1 ++ (wdU G qU u.2.2.2.2.2.1 ++ (wdC G qD rD u.2.2.2.2.2.2.1 ++ (wdU G qV u.2.2.2.2.2.2.2.1 ++ (wdT G qT u.2.2.2.2.2.2.2.2.1 ++ (wdM G qM u.2.2.2.2.2.2.2.2.2)))))))))) (wr := wdR G qR u.2.1 ++ (wdS G qS u.2.2.1 ++ (wdS G qP u.2.2.2.1 ++ (wdC G qC rC u.2.2.2.2.1 ++ (wdU G qU u.2.2.2.2.2.1 ++ (wdC G qD rD u.2.2.2.2.2.2.1 ++ (wdU G qV u.2.2.2.2.2.2.2.1 ++ (wdT G qT u.2.2.2.2.2.2.2.2.1 ++ (wdM G qM u.2.2.2.2.2.2.2.2.2))))))))) [0, 1, 2, 3] [4, 5, 6, 7, 8, 9, 10, 11, 12, 13, 14, 15, 16, 17, 18, 19, 20, 21, 22, 23, 24, 25, 26, 27, 28, 29, 30, 31, 32, 33, 34, 35, 36, 37, 38, 39, 40, 41, 42, 43, 44, 45, 46, 47, 48, 49, 50, 51, 52, 53, 54, 55, 56, 57, 58, 59, 60, 61, 62, 63, 64, 65, 66, 67, 68, 69, 70, 71, 72, 73, 74, 75, 76, 77, 78, 79, 80, 81, 82, 83, 84, 85, 86, 87, 88, 89, 90, 91, 92, 93, 94, 95, 96, 97, 98, 99, 100, 101, 102, 103, 104, 105, 106, 107, 108, 109, 110] [107, 108, 109, 110, 0, 1, 2, 3, 4, 5, 6, 7, 8, 9, 10, 11, 12, 13, 14, 15, 16, 17, 18, 19, 20, 21, 22, 23, 24, 25, 26, 27, 28, 29, 30, 31, 32, 33, 34, 35, 36, 37, 38, 39, 40, 41, 42, 43, 44, 45, 46, 47, 48, 49, 50, 51, 52, 53, 54, 55, 56, 57, 58, 59, 60, 61, 62, 63, 64, 65, 66, 67, 68, 69, 70, 71, 72, 73, 74, 75, 76, 77, 78, 79, 80, 81, 82, 83, 84, 85, 86, 87, 88, 89, 90, 91, 92, 93, 94, 95, 96, 97, 98, 99, 100, 101, 102, 103, 104, 105, 106] rfl rfl rfl rfl (by decide) rfl rfl) 0 rfl dL_law_399 (Nat.le_of_ble_eq_true rfl) (zrmL rfl (by omega) (by omega)) ?_
  refine z_aload_n C dL_law_402 2 rfl ?_
  obtain ⟨y2, hy2, h⟩ := bind_o h
  refine rw_c_L_48 C (Ct.frame (cM_fault hy2) (w := wdX G qX qR qS qP qC qU qD qV qT u.1 ++ (wdR G qR u.2.1 ++ (wdS G qS u.2.2.1 ++ (wdS G qP u.2.2.2.1 ++ (wdC G qC rC u.2.2.2.2.1 ++ (wdU G qU u.2.2.2.2.2.1 ++ (wdC G qD rD u.2.2.2.2.2.2.1 ++ (wdU G qV u.2.2.2.2.2.2.2.1 ++ (wdT G qT u.2.2.2.2.2.2.2.2.1 ++ (wdM G qM u.2.2.2.2.2.2.2.2.2)))))))))) (w' := wdX G qX qR qS qP qC qU qD qV qT u.1 ++ (wdR G qR u.2.1 ++ (wdS G qS u.2.2.1 ++ (wdS G qP u.2.2.2.1 ++ (wdC G qC rC u.2.2.2.2.1 ++ (wdU G qU u.2.2.2.2.2.1 ++ (wdC G qD rD u.2.2.2.2.2.2.1 ++ (wdU G qV u.2.2.2.2.2.2.2.1 ++ (wdT G qT u.2.2.2.2.2.2.2.2.1 ++ (wdM G qM y2.2)))))))))) (wr := wdX G qX qR qS qP qC qU qD qV qT u.1 ++ (wdR G qR u.2.1 ++ (wdS G qS u.2.2.1 ++ (wdS G qP u.2.2.2.1 ++ (wdC G qC rC u.2.2.2.2.1 ++ (wdU G qU u.2.2.2.2.2.1 ++ (wdC G qD rD u.2.2.2.2.2.2.1 ++ (wdU G qV u.2.2.2.2.2.2.2.1 ++ (wdT G qT u.2.2.2.2.2.2.2.2.1))))))))) [78, 79, 80, 81, 82, 83, 84, 85, 86, 87, 88, 89, 90, 91, 92, 93, 94, 95, 96, 97, 98, 99, 100, 101, 102, 103, 104, 105, 106, 107, 108, 109, 110] [0, 1, 2, 3, 4, 5, 6, 7, 8, 9, 10, 11, 12, 13, 14, 15, 16, 17, 18, 19, 20, 21, 22, 23, 24, 25, 26, 27, 28, 29, 30, 31, 32, 33, 34, 35, 36, 37, 38, 39, 40, 41, 42, 43, 44, 45, 46, 47, 48, 49, 50, 51, 52, 53, 54, 55, 56, 57, 58, 59, 60, 61, 62, 63, 64, 65, 66, 67, 68, 69, 70, 71, 72, 73, 74, 75, 76, 77] [0, 1, 2, 3, 4, 5, 6, 7, 8, 9, 10, 11, 12, 13, 14, 15, 16, 17, 18, 19, 20, 21, 22, 23, 24, 25, 26, 27, 28, 29, 30, 31, 32, 33, 34, 35, 36, 37, 38, 39, 40, 41, 42, 43, 44, 45, 46, 47, 48, 49, 50, 51, 52, 53, 54, 55, 56, 57, 58, 59, 60, 61, 62, 63, 64, 65, 66, 67, 68, 69, 70, 71, 72, 73, 74, 75, 76, 77, 78, 79, 80, 81, 82, 83, 84, 85, 86, 87, 88, 89, 90, 91, 92, 93, 94, 95, 96, 97, 98, 99, 100, 101, 102, 103, 104, 105, 106, 107, 108, 109, 110] rfl rfl rfl rfl (by decide) rfl rfl) 78 rfl dL_law_403 (Nat.le_of_ble_eq_true rfl) (zrmL rfl (by show ce + 0 ≤ 6000; omega) (by show sl + 0 ≤ 60000; omega)) ?_
  replace h := Option.some.inj h
  have he := of_decide_eq_true (congrArg Prod.fst h)
  have hu := congrArg Prod.snd h
  subst hu
  refine z_icmp_eq C dL_law_406 937 (by decide) (p := some ()) (q := none) (o := ()) (dd := inferInstance) (if_pos he) (fun _ => ?_) (fun h => by cases h)
  refine z_wide (ce' := ce + 1) (sl' := sl + 3) (by show ce + 0 + 0 ≤ ce + 1; omega) (by show sl + 0 + 0 ≤ sl + 3; omega) ?_
  exact K qS qP rC rD
set_option maxHeartbeats 4000000 in
set_option maxRecDepth 100000 in
theorem law_whose {x : zX} {G : zG} {qX qR qS qP qC qU qD qV qT qM : Nat → Nat} {rC rD b L k : Nat} {sc : Nat → Int32} {ce sl : Nat} {u u' : zLS} (C : zC x G RL cL_law 4 (some .boolean) room_1) (hX : va_X b L sc (xs x) (xs x).heap) (hbl : b < (xs x).heap.size) (hbA : ¬ xA x b) (hL : L ≤ 3072) (hk : 6 * k + 6 ≤ L) (hce : ce ≤ 5000) (hsl : sl ≤ 50000) (h : ls_whose (sc (6 * k + 1)) (sc (6 * k + 2)) u = some (true, u')) (K : ∀ (qS' qP' : Nat → Nat) (rC' rD' : Nat), zW x G (ce + 1) (sl + 3) 937 [(0, .ref b), (1, .ref (qX 0)), (2, .ref (qM 0)), (3, .int (nI (6 * k)))] [] (wdX G qX qR qS' qP' qC qU qD qV qT u'.1 ++ (wdR G qR u'.2.1 ++ (wdS G qS' u'.2.2.1 ++ (wdS G qP' u'.2.2.2.1 ++ (wdC G qC rC' u'.2.2.2.2.1 ++ (wdU G qU u'.2.2.2.2.2.1 ++ (wdC G qD rD' u'.2.2.2.2.2.2.1 ++ (wdU G qV u'.2.2.2.2.2.2.2.1 ++ (wdT G qT u'.2.2.2.2.2.2.2.2.1 ++ (wdM G qM u'.2.2.2.2.2.2.2.2.2))))))))))) : zW x G ce sl 411 [(0, .ref b), (1, .ref (qX 0)), (2, .ref (qM 0)), (3, .int (nI (6 * k)))] [] (wdX G qX qR qS qP qC qU qD qV qT u.1 ++ (wdR G qR u.2.1 ++ (wdS G qS u.2.2.1 ++ (wdS G qP u.2.2.2.1 ++ (wdC G qC rC u.2.2.2.2.1 ++ (wdU G qU u.2.2.2.2.2.1 ++ (wdC G qD rD u.2.2.2.2.2.2.1 ++ (wdU G qV u.2.2.2.2.2.2.2.1 ++ (wdT G qT u.2.2.2.2.2.2.2.2.1 ++ (wdM G qM u.2.2.2.2.2.2.2.2.2)))))))))) := by
  unfold ls_whose at h
  refine z_aload_n C dL_law_411 1 rfl ?_
  refine z_aload_n C dL_law_412 0 rfl ?_
  refine z_iload_n C dL_law_413 3 rfl ?_
  refine z_iconst C 1 dL_law_414 (by decide) ?_
  refine z_iadd C dL_law_415 ?_
  refine z_sld C hX hbl hbA hL (6 * k + 1) (by omega) (znI k 1 (by decide)) dL_law_416 ?_
  refine z_aload_n C dL_law_417 0 rfl ?_
  refine z_iload_n C dL_law_418 3 rfl ?_
  refine z_iconst C 2 dL_law_419 (by decide) ?_
  refine z_iadd C dL_law_420 ?_
  refine z_sld C hX hbl hbA hL (6 * k + 2) (by omega) (znI k 2 (by decide)) dL_law_421 ?_
  obtain ⟨y1, hy1, h⟩ := bind_o h
  refine rw_c_L_49 C (Ctr.frame (cX_whose hy1) (w := wdX G qX qR qS qP qC qU qD qV qT u.1 ++ (wdR G qR u.2.1 ++ (wdS G qS u.2.2.1 ++ (wdS G qP u.2.2.2.1 ++ (wdC G qC rC u.2.2.2.2.1 ++ (wdU G qU u.2.2.2.2.2.1 ++ (wdC G qD rD u.2.2.2.2.2.2.1 ++ (wdU G qV u.2.2.2.2.2.2.2.1 ++ (wdT G qT u.2.2.2.2.2.2.2.2.1 ++ (wdM G qM u.2.2.2.2.2.2.2.2.2)))))))))) (w' := fun z : Nat => wdX G qX qR qS qP qC qU qD qV qT u.1 ++ (wdR G qR u.2.1 ++ (wdS G qS u.2.2.1 ++ (wdS G qP u.2.2.2.1 ++ (wdC G qC rC u.2.2.2.2.1 ++ (wdU G qU u.2.2.2.2.2.1 ++ (wdC G qD z y1.2 ++ (wdU G qV u.2.2.2.2.2.2.2.1 ++ (wdT G qT u.2.2.2.2.2.2.2.2.1 ++ (wdM G qM u.2.2.2.2.2.2.2.2.2)))))))))) (wr := wdR G qR u.2.1 ++ (wdS G qP u.2.2.2.1 ++ (wdU G qU u.2.2.2.2.2.1 ++ (wdU G qV u.2.2.2.2.2.2.2.1 ++ (wdT G qT u.2.2.2.2.2.2.2.2.1 ++ (wdM G qM u.2.2.2.2.2.2.2.2.2)))))) [0, 1, 2, 3, 6, 7, 8, 9, 10, 11, 12, 13, 14, 15, 16, 28, 29, 30, 31, 32, 33, 34, 35, 36, 37, 38, 39, 40, 41, 42, 52, 53, 54, 55, 56, 57, 58, 59, 60, 61, 62, 63, 64, 65, 66] [4, 5, 17, 18, 19, 20, 21, 22, 23, 24, 25, 26, 27, 43, 44, 45, 46, 47, 48, 49, 50, 51, 67, 68, 69, 70, 71, 72, 73, 74, 75, 76, 77, 78, 79, 80, 81, 82, 83, 84, 85, 86, 87, 88, 89, 90, 91, 92, 93, 94, 95, 96, 97, 98, 99, 100, 101, 102, 103, 104, 105, 106, 107, 108, 109, 110] [66, 67, 68, 69, 0, 1, 70, 71, 72, 73, 74, 75, 76, 77, 78, 79, 80, 2, 3, 4, 5, 6, 7, 8, 9, 10, 11, 12, 81, 82, 83, 84, 85, 86, 87, 88, 89, 90, 91, 92, 93, 94, 95, 13, 14, 15, 16, 17, 18, 19, 20, 21, 96, 97, 98, 99, 100, 101, 102, 103, 104, 105, 106, 107, 108, 109, 110, 22, 23, 24, 25, 26, 27, 28, 29, 30, 31, 32, 33, 34, 35, 36, 37, 38, 39, 40, 41, 42, 43, 44, 45, 46, 47, 48, 49, 50, 51, 52, 53, 54, 55, 56, 57, 58, 59, 60, 61, 62, 63, 64, 65] rfl rfl rfl rfl (by decide) (fun _ => rfl) rfl) 0 rfl dL_law_422 (Nat.le_of_ble_eq_true rfl) (zrmL rfl (by omega) (by omega)) (fun z1 => ?_)
  refine z_aload_n C dL_law_425 2 rfl ?_
  refine z_aload_n C dL_law_426 0 rfl ?_
  refine z_iload_n C dL_law_427 3 rfl ?_
  refine z_iconst C 1 dL_law_428 (by decide) ?_
  refine z_iadd C dL_law_429 ?_
  refine z_sld C hX hbl hbA hL (6 * k + 1) (by omega) (znI k 1 (by decide)) dL_law_430 ?_
  refine z_aload_n C dL_law_431 0 rfl ?_
  refine z_iload_n C dL_law_432 3 rfl ?_
  refine z_iconst C 2 dL_law_433 (by decide) ?_
  refine z_iadd C dL_law_434 ?_
  refine z_sld C hX hbl hbA hL (6 * k + 2) (by omega) (znI k 2 (by decide)) dL_law_435 ?_
  obtain ⟨y2, hy2, h⟩ := bind_o h
  refine rw_c_L_53 C (Ct.frame (cM_whose hy2) (w := wdX G qX qR qS qP qC qU qD qV qT u.1 ++ (wdR G qR u.2.1 ++ (wdS G qS u.2.2.1 ++ (wdS G qP u.2.2.2.1 ++ (wdC G qC rC u.2.2.2.2.1 ++ (wdU G qU u.2.2.2.2.2.1 ++ (wdC G qD z1 y1.2 ++ (wdU G qV u.2.2.2.2.2.2.2.1 ++ (wdT G qT u.2.2.2.2.2.2.2.2.1 ++ (wdM G qM u.2.2.2.2.2.2.2.2.2)))))))))) (w' := wdX G qX qR qS qP qC qU qD qV qT u.1 ++ (wdR G qR u.2.1 ++ (wdS G qS u.2.2.1 ++ (wdS G qP u.2.2.2.1 ++ (wdC G qC rC u.2.2.2.2.1 ++ (wdU G qU u.2.2.2.2.2.1 ++ (wdC G qD z1 y1.2 ++ (wdU G qV u.2.2.2.2.2.2.2.1 ++ (wdT G qT u.2.2.2.2.2.2.2.2.1 ++ (wdM G qM y2.2)))))))))) (wr := wdX G qX qR qS qP qC qU qD qV qT u.1 ++ (wdR G qR u.2.1 ++ (wdS G qS u.2.2.1 ++ (wdS G qP u.2.2.2.1 ++ (wdC G qC rC u.2.2.2.2.1 ++ (wdU G qU u.2.2.2.2.2.1 ++ (wdC G qD z1 y1.2 ++ (wdU G qV u.2.2.2.2.2.2.2.1 ++ (wdT G qT u.2.2.2.2.2.2.2.2.1))))))))) [78, 79, 80, 81, 82, 83, 84, 85, 86, 87, 88, 89, 90, 91, 92, 93, 94, 95, 96, 97, 98, 99, 100, 101, 102, 103, 104, 105, 106, 107, 108, 109, 110] [0, 1, 2, 3, 4, 5, 6, 7, 8, 9, 10, 11, 12, 13, 14, 15, 16, 17, 18, 19, 20, 21, 22, 23, 24, 25, 26, 27, 28, 29, 30, 31, 32, 33, 34, 35, 36, 37, 38, 39, 40, 41, 42, 43, 44, 45, 46, 47, 48, 49, 50, 51, 52, 53, 54, 55, 56, 57, 58, 59, 60, 61, 62, 63, 64, 65, 66, 67, 68, 69, 70, 71, 72, 73, 74, 75, 76, 77] [0, 1, 2, 3, 4, 5, 6, 7, 8, 9, 10, 11, 12, 13, 14, 15, 16, 17, 18, 19, 20, 21, 22, 23, 24, 25, 26, 27, 28, 29, 30, 31, 32, 33, 34, 35, 36, 37, 38, 39, 40, 41, 42, 43, 44, 45, 46, 47, 48, 49, 50, 51, 52, 53, 54, 55, 56, 57, 58, 59, 60, 61, 62, 63, 64, 65, 66, 67, 68, 69, 70, 71, 72, 73, 74, 75, 76, 77, 78, 79, 80, 81, 82, 83, 84, 85, 86, 87, 88, 89, 90, 91, 92, 93, 94, 95, 96, 97, 98, 99, 100, 101, 102, 103, 104, 105, 106, 107, 108, 109, 110] rfl rfl rfl rfl (by decide) rfl rfl) 78 rfl dL_law_436 (Nat.le_of_ble_eq_true rfl) (zrmL rfl (by show ce + 0 ≤ 6000; omega) (by show sl + 0 ≤ 60000; omega)) ?_
  replace h := Option.some.inj h
  have he := of_decide_eq_true (congrArg Prod.fst h)
  have hu := congrArg Prod.snd h
  subst hu
  refine z_lcmp_eq C dL_law_439 dL_law_440 937 (by decide) (p := some ()) (q := none) (o := ()) (dd := inferInstance) (if_pos he) (fun _ => ?_) (fun h => by cases h)
  refine z_wide (ce' := ce + 1) (sl' := sl + 3) (by show ce + 0 + 0 ≤ ce + 1; omega) (by show sl + 0 + 0 ≤ sl + 3; omega) ?_
  exact K qS qP rC z1
set_option maxHeartbeats 4000000 in
set_option maxRecDepth 100000 in
theorem law_thing {x : zX} {G : zG} {qX qR qS qP qC qU qD qV qT qM : Nat → Nat} {rC rD b L k : Nat} {sc : Nat → Int32} {ce sl : Nat} {u u' : zLS} (C : zC x G RL cL_law 4 (some .boolean) room_1) (hX : va_X b L sc (xs x) (xs x).heap) (hbl : b < (xs x).heap.size) (hbA : ¬ xA x b) (hL : L ≤ 3072) (hk : 6 * k + 6 ≤ L) (hce : ce ≤ 5000) (hsl : sl ≤ 50000) (h : ls_thing (sc (6 * k + 1)) (sc (6 * k + 2)) u = some (true, u')) (K : ∀ (qS' qP' : Nat → Nat) (rC' rD' : Nat), zW x G (ce + 1) (sl + 3) 937 [(0, .ref b), (1, .ref (qX 0)), (2, .ref (qM 0)), (3, .int (nI (6 * k)))] [] (wdX G qX qR qS' qP' qC qU qD qV qT u'.1 ++ (wdR G qR u'.2.1 ++ (wdS G qS' u'.2.2.1 ++ (wdS G qP' u'.2.2.2.1 ++ (wdC G qC rC' u'.2.2.2.2.1 ++ (wdU G qU u'.2.2.2.2.2.1 ++ (wdC G qD rD' u'.2.2.2.2.2.2.1 ++ (wdU G qV u'.2.2.2.2.2.2.2.1 ++ (wdT G qT u'.2.2.2.2.2.2.2.2.1 ++ (wdM G qM u'.2.2.2.2.2.2.2.2.2))))))))))) : zW x G ce sl 445 [(0, .ref b), (1, .ref (qX 0)), (2, .ref (qM 0)), (3, .int (nI (6 * k)))] [] (wdX G qX qR qS qP qC qU qD qV qT u.1 ++ (wdR G qR u.2.1 ++ (wdS G qS u.2.2.1 ++ (wdS G qP u.2.2.2.1 ++ (wdC G qC rC u.2.2.2.2.1 ++ (wdU G qU u.2.2.2.2.2.1 ++ (wdC G qD rD u.2.2.2.2.2.2.1 ++ (wdU G qV u.2.2.2.2.2.2.2.1 ++ (wdT G qT u.2.2.2.2.2.2.2.2.1 ++ (wdM G qM u.2.2.2.2.2.2.2.2.2)))))))))) := by
  unfold ls_thing at h
  refine z_aload_n C dL_law_445 1 rfl ?_
  refine z_aload_n C dL_law_446 0 rfl ?_
  refine z_iload_n C dL_law_447 3 rfl ?_
  refine z_iconst C 1 dL_law_448 (by decide) ?_
  refine z_iadd C dL_law_449 ?_
  refine z_sld C hX hbl hbA hL (6 * k + 1) (by omega) (znI k 1 (by decide)) dL_law_450 ?_
  refine z_aload_n C dL_law_451 0 rfl ?_
  refine z_iload_n C dL_law_452 3 rfl ?_
  refine z_iconst C 2 dL_law_453 (by decide) ?_
  refine z_iadd C dL_law_454 ?_
  refine z_sld C hX hbl hbA hL (6 * k + 2) (by omega) (znI k 2 (by decide)) dL_law_455 ?_
  obtain ⟨y1, hy1, h⟩ := bind_o h
  refine rw_c_L_54 C (Ct.frame (cX_thing hy1) (w := wdX G qX qR qS qP qC qU qD qV qT u.1 ++ (wdR G qR u.2.1 ++ (wdS G qS u.2.2.1 ++ (wdS G qP u.2.2.2.1 ++ (wdC G qC rC u.2.2.2.2.1 ++ (wdU G qU u.2.2.2.2.2.1 ++ (wdC G qD rD u.2.2.2.2.2.2.1 ++ (wdU G qV u.2.2.2.2.2.2.2.1 ++ (wdT G qT u.2.2.2.2.2.2.2.2.1 ++ (wdM G qM u.2.2.2.2.2.2.2.2.2)))))))))) (w' := wdX G qX qR qS qP qC qU qD qV qT u.1 ++ (wdR G qR u.2.1 ++ (wdS G qS u.2.2.1 ++ (wdS G qP u.2.2.2.1 ++ (wdC G qC rC u.2.2.2.2.1 ++ (wdU G qU u.2.2.2.2.2.1 ++ (wdC G qD rD u.2.2.2.2.2.2.1 ++ (wdU G qV u.2.2.2.2.2.2.2.1 ++ (wdT G qT u.2.2.2.2.2.2.2.2.1 ++ (wdM G qM u.2.2.2.2.2.2.2.2.2)))))))))) (wr := wdR G qR u.2.1 ++ (wdS G qP u.2.2.2.1 ++ (wdU G qU u.2.2.2.2.2.1 ++ (wdC G qD rD u.2.2.2.2.2.2.1 ++ (wdU G qV u.2.2.2.2.2.2.2.1 ++ (wdT G qT u.2.2.2.2.2.2.2.2.1 ++ (wdM G qM u.2.2.2.2.2.2.2.2.2))))))) [0, 1, 2, 3, 6, 7, 8, 9, 10, 11, 12, 13, 14, 15, 16, 28, 29, 30, 31, 32, 33, 34, 35, 36, 37, 38, 39, 40, 41, 42] [4, 5, 17, 18, 19, 20, 21, 22, 23, 24, 25, 26, 27, 43, 44, 45, 46, 47, 48, 49, 50, 51, 52, 53, 54, 55, 56, 57, 58, 59, 60, 61, 62, 63, 64, 65, 66, 67, 68, 69, 70, 71, 72, 73, 74, 75, 76, 77, 78, 79, 80, 81, 82, 83, 84, 85, 86, 87, 88, 89, 90, 91, 92, 93, 94, 95, 96, 97, 98, 99, 100, 101, 102, 103, 104, 105, 106, 107, 108, 109, 110] [81, 82, 83, 84, 0, 1, 85, 86, 87, 88, 89, 90, 91, 92, 93, 94, 95, 2, 3, 4, 5, 6, 7, 8, 9, 10, 11, 12, 96, 97, 98, 99, 100, 101, 102, 103, 104, 105, 106, 107, 108, 109, 110, 13, 14, 15, 16, 17, 18, 19, 20, 21, 22, 23, 24, 25, 26, 27, 28, 29, 30, 31, 32, 33, 34, 35, 36, 37, 38, 39, 40, 41, 42, 43, 44, 45, 46, 47, 48, 49, 50, 51, 52, 53, 54, 55, 56, 57, 58, 59, 60, 61, 62, 63, 64, 65, 66, 67, 68, 69, 70, 71, 72, 73, 74, 75, 76, 77, 78, 79, 80] rfl rfl rfl rfl (by decide) rfl rfl) 0 rfl dL_law_456 (Nat.le_of_ble_eq_true rfl) (zrmL rfl (by omega) (by omega)) ?_
  refine z_aload_n C dL_law_459 2 rfl ?_
  refine z_aload_n C dL_law_460 0 rfl ?_
  refine z_iload_n C dL_law_461 3 rfl ?_
  refine z_iconst C 1 dL_law_462 (by decide) ?_
  refine z_iadd C dL_law_463 ?_
  refine z_sld C hX hbl hbA hL (6 * k + 1) (by omega) (znI k 1 (by decide)) dL_law_464 ?_
  refine z_aload_n C dL_law_465 0 rfl ?_
  refine z_iload_n C dL_law_466 3 rfl ?_
  refine z_iconst C 2 dL_law_467 (by decide) ?_
  refine z_iadd C dL_law_468 ?_
  refine z_sld C hX hbl hbA hL (6 * k + 2) (by omega) (znI k 2 (by decide)) dL_law_469 ?_
  obtain ⟨y2, hy2, h⟩ := bind_o h
  refine rw_c_L_57 C (Ct.frame (cM_thing hy2) (w := wdX G qX qR qS qP qC qU qD qV qT u.1 ++ (wdR G qR u.2.1 ++ (wdS G qS u.2.2.1 ++ (wdS G qP u.2.2.2.1 ++ (wdC G qC rC u.2.2.2.2.1 ++ (wdU G qU u.2.2.2.2.2.1 ++ (wdC G qD rD u.2.2.2.2.2.2.1 ++ (wdU G qV u.2.2.2.2.2.2.2.1 ++ (wdT G qT u.2.2.2.2.2.2.2.2.1 ++ (wdM G qM u.2.2.2.2.2.2.2.2.2)))))))))) (w' := wdX G qX qR qS qP qC qU qD qV qT u.1 ++ (wdR G qR u.2.1 ++ (wdS G qS u.2.2.1 ++ (wdS G qP u.2.2.2.1 ++ (wdC G qC rC u.2.2.2.2.1 ++ (wdU G qU u.2.2.2.2.2.1 ++ (wdC G qD rD u.2.2.2.2.2.2.1 ++ (wdU G qV u.2.2.2.2.2.2.2.1 ++ (wdT G qT u.2.2.2.2.2.2.2.2.1 ++ (wdM G qM y2.2)))))))))) (wr := wdX G qX qR qS qP qC qU qD qV qT u.1 ++ (wdR G qR u.2.1 ++ (wdS G qS u.2.2.1 ++ (wdS G qP u.2.2.2.1 ++ (wdC G qC rC u.2.2.2.2.1 ++ (wdU G qU u.2.2.2.2.2.1 ++ (wdC G qD rD u.2.2.2.2.2.2.1 ++ (wdU G qV u.2.2.2.2.2.2.2.1 ++ (wdT G qT u.2.2.2.2.2.2.2.2.1))))))))) [78, 79, 80, 81, 82, 83, 84, 85, 86, 87, 88, 89, 90, 91, 92, 93, 94, 95, 96, 97, 98, 99, 100, 101, 102, 103, 104, 105, 106, 107, 108, 109, 110] [0, 1, 2, 3, 4, 5, 6, 7, 8, 9, 10, 11, 12, 13, 14, 15, 16, 17, 18, 19, 20, 21, 22, 23, 24, 25, 26, 27, 28, 29, 30, 31, 32, 33, 34, 35, 36, 37, 38, 39, 40, 41, 42, 43, 44, 45, 46, 47, 48, 49, 50, 51, 52, 53, 54, 55, 56, 57, 58, 59, 60, 61, 62, 63, 64, 65, 66, 67, 68, 69, 70, 71, 72, 73, 74, 75, 76, 77] [0, 1, 2, 3, 4, 5, 6, 7, 8, 9, 10, 11, 12, 13, 14, 15, 16, 17, 18, 19, 20, 21, 22, 23, 24, 25, 26, 27, 28, 29, 30, 31, 32, 33, 34, 35, 36, 37, 38, 39, 40, 41, 42, 43, 44, 45, 46, 47, 48, 49, 50, 51, 52, 53, 54, 55, 56, 57, 58, 59, 60, 61, 62, 63, 64, 65, 66, 67, 68, 69, 70, 71, 72, 73, 74, 75, 76, 77, 78, 79, 80, 81, 82, 83, 84, 85, 86, 87, 88, 89, 90, 91, 92, 93, 94, 95, 96, 97, 98, 99, 100, 101, 102, 103, 104, 105, 106, 107, 108, 109, 110] rfl rfl rfl rfl (by decide) rfl rfl) 78 rfl dL_law_470 (Nat.le_of_ble_eq_true rfl) (zrmL rfl (by show ce + 0 ≤ 6000; omega) (by show sl + 0 ≤ 60000; omega)) ?_
  replace h := Option.some.inj h
  have he := of_decide_eq_true (congrArg Prod.fst h)
  have hu := congrArg Prod.snd h
  subst hu
  refine z_lcmp_eq C dL_law_473 dL_law_474 937 (by decide) (p := some ()) (q := none) (o := ()) (dd := inferInstance) (if_pos he) (fun _ => ?_) (fun h => by cases h)
  refine z_wide (ce' := ce + 1) (sl' := sl + 3) (by show ce + 0 + 0 ≤ ce + 1; omega) (by show sl + 0 + 0 ≤ sl + 3; omega) ?_
  exact K qS qP rC rD
set_option maxHeartbeats 4000000 in
set_option maxRecDepth 100000 in
theorem law_judge {x : zX} {G : zG} {qX qR qS qP qC qU qD qV qT qM : Nat → Nat} {rC rD b L k : Nat} {sc : Nat → Int32} {ce sl : Nat} {u u' : zLS} (C : zC x G RL cL_law 4 (some .boolean) room_1) (hX : va_X b L sc (xs x) (xs x).heap) (hbl : b < (xs x).heap.size) (hbA : ¬ xA x b) (hL : L ≤ 3072) (hk : 6 * k + 6 ≤ L) (hce : ce ≤ 5000) (hsl : sl ≤ 50000) (h : ls_judge (sc (6 * k + 1)) (sc (6 * k + 2)) u = some (true, u')) (K : ∀ (qS' qP' : Nat → Nat) (rC' rD' : Nat), zW x G (ce + 1) (sl + 3) 937 [(0, .ref b), (1, .ref (qX 0)), (2, .ref (qM 0)), (3, .int (nI (6 * k)))] [] (wdX G qX qR qS' qP' qC qU qD qV qT u'.1 ++ (wdR G qR u'.2.1 ++ (wdS G qS' u'.2.2.1 ++ (wdS G qP' u'.2.2.2.1 ++ (wdC G qC rC' u'.2.2.2.2.1 ++ (wdU G qU u'.2.2.2.2.2.1 ++ (wdC G qD rD' u'.2.2.2.2.2.2.1 ++ (wdU G qV u'.2.2.2.2.2.2.2.1 ++ (wdT G qT u'.2.2.2.2.2.2.2.2.1 ++ (wdM G qM u'.2.2.2.2.2.2.2.2.2))))))))))) : zW x G ce sl 479 [(0, .ref b), (1, .ref (qX 0)), (2, .ref (qM 0)), (3, .int (nI (6 * k)))] [] (wdX G qX qR qS qP qC qU qD qV qT u.1 ++ (wdR G qR u.2.1 ++ (wdS G qS u.2.2.1 ++ (wdS G qP u.2.2.2.1 ++ (wdC G qC rC u.2.2.2.2.1 ++ (wdU G qU u.2.2.2.2.2.1 ++ (wdC G qD rD u.2.2.2.2.2.2.1 ++ (wdU G qV u.2.2.2.2.2.2.2.1 ++ (wdT G qT u.2.2.2.2.2.2.2.2.1 ++ (wdM G qM u.2.2.2.2.2.2.2.2.2)))))))))) := by
  unfold ls_judge at h
  refine z_aload_n C dL_law_479 1 rfl ?_
  refine z_aload_n C dL_law_480 0 rfl ?_
  refine z_iload_n C dL_law_481 3 rfl ?_
  refine z_iconst C 1 dL_law_482 (by decide) ?_
  refine z_iadd C dL_law_483 ?_
  refine z_sld C hX hbl hbA hL (6 * k + 1) (by omega) (znI k 1 (by decide)) dL_law_484 ?_
  refine z_aload_n C dL_law_485 0 rfl ?_
  refine z_iload_n C dL_law_486 3 rfl ?_
  refine z_iconst C 2 dL_law_487 (by decide) ?_
  refine z_iadd C dL_law_488 ?_
  refine z_sld C hX hbl hbA hL (6 * k + 2) (by omega) (znI k 2 (by decide)) dL_law_489 ?_
  obtain ⟨y1, hy1, h⟩ := bind_o h
  refine rw_c_L_58 C (Ct.frame (cX_judge hy1) (w := wdX G qX qR qS qP qC qU qD qV qT u.1 ++ (wdR G qR u.2.1 ++ (wdS G qS u.2.2.1 ++ (wdS G qP u.2.2.2.1 ++ (wdC G qC rC u.2.2.2.2.1 ++ (wdU G qU u.2.2.2.2.2.1 ++ (wdC G qD rD u.2.2.2.2.2.2.1 ++ (wdU G qV u.2.2.2.2.2.2.2.1 ++ (wdT G qT u.2.2.2.2.2.2.2.2.1 ++ (wdM G qM u.2.2.2.2.2.2.2.2.2)))))))))) (w' := wdX G qX qR qS qP qC qU qD qV qT y1.2 ++ (wdR G qR u.2.1 ++ (wdS G qS u.2.2.1 ++ (wdS G qP u.2.2.2.1 ++ (wdC G qC rC u.2.2.2.2.1 ++ (wdU G qU u.2.2.2.2.2.1 ++ (wdC G qD rD u.2.2.2.2.2.2.1 ++ (wdU G qV u.2.2.2.2.2.2.2.1 ++ (wdT G qT u.2.2.2.2.2.2.2.2.1 ++ (wdM G qM u.2.2.2.2.2.2.2.2.2)))))))))) (wr := wdR G qR u.2.1 ++ (wdS G qS u.2.2.1 ++ (wdS G qP u.2.2.2.1 ++ (wdU G qU u.2.2.2.2.2.1 ++ (wdC G qD rD u.2.2.2.2.2.2.1 ++ (wdU G qV u.2.2.2.2.2.2.2.1 ++ (wdT G qT u.2.2.2.2.2.2.2.2.1 ++ (wdM G qM u.2.2.2.2.2.2.2.2.2)))))))) [0, 1, 2, 3, 28, 29, 30, 31, 32, 33, 34, 35, 36, 37, 38, 39, 40, 41, 42] [4, 5, 6, 7, 8, 9, 10, 11, 12, 13, 14, 15, 16, 17, 18, 19, 20, 21, 22, 23, 24, 25, 26, 27, 43, 44, 45, 46, 47, 48, 49, 50, 51, 52, 53, 54, 55, 56, 57, 58, 59, 60, 61, 62, 63, 64, 65, 66, 67, 68, 69, 70, 71, 72, 73, 74, 75, 76, 77, 78, 79, 80, 81, 82, 83, 84, 85, 86, 87, 88, 89, 90, 91, 92, 93, 94, 95, 96, 97, 98, 99, 100, 101, 102, 103, 104, 105, 106, 107, 108, 109, 110] [92, 93, 94, 95, 0, 1, 2, 3, 4, 5, 6, 7, 8, 9, 10, 11, 12, 13, 14, 15, 16, 17, 18, 19, 20, 21, 22, 23, 96, 97, 98, 99, 100, 101, 102, 103, 104, 105, 106, 107, 108, 109, 110, 24, 25, 26, 27, 28, 29, 30, 31, 32, 33, 34, 35, 36, 37, 38, 39, 40, 41, 42, 43, 44, 45, 46, 47, 48, 49, 50, 51, 52, 53, 54, 55, 56, 57, 58, 59, 60, 61, 62, 63, 64, 65, 66, 67, 68, 69, 70, 71, 72, 73, 74, 75, 76, 77, 78, 79, 80, 81, 82, 83, 84, 85, 86, 87, 88, 89, 90, 91] rfl rfl rfl rfl (by decide) rfl rfl) 0 rfl dL_law_490 (Nat.le_of_ble_eq_true rfl) (zrmL rfl (by omega) (by omega)) ?_
  refine z_aload_n C dL_law_493 2 rfl ?_
  refine z_aload_n C dL_law_494 0 rfl ?_
  refine z_iload_n C dL_law_495 3 rfl ?_
  refine z_iconst C 1 dL_law_496 (by decide) ?_
  refine z_iadd C dL_law_497 ?_
  refine z_sld C hX hbl hbA hL (6 * k + 1) (by omega) (znI k 1 (by decide)) dL_law_498 ?_
  refine z_aload_n C dL_law_499 0 rfl ?_
  refine z_iload_n C dL_law_500 3 rfl ?_
  refine z_iconst C 2 dL_law_501 (by decide) ?_
  refine z_iadd C dL_law_502 ?_
  refine z_sld C hX hbl hbA hL (6 * k + 2) (by omega) (znI k 2 (by decide)) dL_law_503 ?_
  obtain ⟨y2, hy2, h⟩ := bind_o h
  refine rw_c_L_61 C (Ct.frame (cM_judge hy2) (w := wdX G qX qR qS qP qC qU qD qV qT y1.2 ++ (wdR G qR u.2.1 ++ (wdS G qS u.2.2.1 ++ (wdS G qP u.2.2.2.1 ++ (wdC G qC rC u.2.2.2.2.1 ++ (wdU G qU u.2.2.2.2.2.1 ++ (wdC G qD rD u.2.2.2.2.2.2.1 ++ (wdU G qV u.2.2.2.2.2.2.2.1 ++ (wdT G qT u.2.2.2.2.2.2.2.2.1 ++ (wdM G qM u.2.2.2.2.2.2.2.2.2)))))))))) (w' := wdX G qX qR qS qP qC qU qD qV qT y1.2 ++ (wdR G qR u.2.1 ++ (wdS G qS u.2.2.1 ++ (wdS G qP u.2.2.2.1 ++ (wdC G qC rC u.2.2.2.2.1 ++ (wdU G qU u.2.2.2.2.2.1 ++ (wdC G qD rD u.2.2.2.2.2.2.1 ++ (wdU G qV u.2.2.2.2.2.2.2.1 ++ (wdT G qT u.2.2.2.2.2.2.2.2.1 ++ (wdM G qM y2.2)))))))))) (wr := wdX G qX qR qS qP qC qU qD qV qT y1.2 ++ (wdR G qR u.2.1 ++ (wdS G qS u.2.2.1 ++ (wdS G qP u.2.2.2.1 ++ (wdC G qC rC u.2.2.2.2.1 ++ (wdU G qU u.2.2.2.2.2.1 ++ (wdC G qD rD u.2.2.2.2.2.2.1 ++ (wdU G qV u.2.2.2.2.2.2.2.1 ++ (wdT G qT u.2.2.2.2.2.2.2.2.1))))))))) [78, 79, 80, 81, 82, 83, 84, 85, 86, 87, 88, 89, 90, 91, 92, 93, 94, 95, 96, 97, 98, 99, 100, 101, 102, 103, 104, 105, 106, 107, 108, 109, 110] [0, 1, 2, 3, 4, 5, 6, 7, 8, 9, 10, 11, 12, 13, 14, 15, 16, 17, 18, 19, 20, 21, 22, 23, 24, 25, 26, 27, 28, 29, 30, 31, 32, 33, 34, 35, 36, 37, 38, 39, 40, 41, 42, 43, 44, 45, 46, 47, 48, 49, 50, 51, 52, 53, 54, 55, 56, 57, 58, 59, 60, 61, 62, 63, 64, 65, 66, 67, 68, 69, 70, 71, 72, 73, 74, 75, 76, 77] [0, 1, 2, 3, 4, 5, 6, 7, 8, 9, 10, 11, 12, 13, 14, 15, 16, 17, 18, 19, 20, 21, 22, 23, 24, 25, 26, 27, 28, 29, 30, 31, 32, 33, 34, 35, 36, 37, 38, 39, 40, 41, 42, 43, 44, 45, 46, 47, 48, 49, 50, 51, 52, 53, 54, 55, 56, 57, 58, 59, 60, 61, 62, 63, 64, 65, 66, 67, 68, 69, 70, 71, 72, 73, 74, 75, 76, 77, 78, 79, 80, 81, 82, 83, 84, 85, 86, 87, 88, 89, 90, 91, 92, 93, 94, 95, 96, 97, 98, 99, 100, 101, 102, 103, 104, 105, 106, 107, 108, 109, 110] rfl rfl rfl rfl (by decide) rfl rfl) 78 rfl dL_law_504 (Nat.le_of_ble_eq_true rfl) (zrmL rfl (by show ce + 0 ≤ 6000; omega) (by show sl + 0 ≤ 60000; omega)) ?_
  replace h := Option.some.inj h
  have he := of_decide_eq_true (congrArg Prod.fst h)
  have hu := congrArg Prod.snd h
  subst hu
  refine z_lcmp_eq C dL_law_507 dL_law_508 937 (by decide) (p := some ()) (q := none) (o := ()) (dd := inferInstance) (if_pos he) (fun _ => ?_) (fun h => by cases h)
  refine z_wide (ce' := ce + 1) (sl' := sl + 3) (by show ce + 0 + 0 ≤ ce + 1; omega) (by show sl + 0 + 0 ≤ sl + 3; omega) ?_
  exact K qS qP rC rD
set_option maxHeartbeats 4000000 in
set_option maxRecDepth 100000 in
theorem law_purse {x : zX} {G : zG} {qX qR qS qP qC qU qD qV qT qM : Nat → Nat} {rC rD b L k : Nat} {sc : Nat → Int32} {ce sl : Nat} {u u' : zLS} (C : zC x G RL cL_law 4 (some .boolean) room_1) (hX : va_X b L sc (xs x) (xs x).heap) (hbl : b < (xs x).heap.size) (hbA : ¬ xA x b) (hL : L ≤ 3072) (hk : 6 * k + 6 ≤ L) (hce : ce ≤ 5000) (hsl : sl ≤ 50000) (h : ls_purse (sc (6 * k + 1)) (sc (6 * k + 2)) u = some (true, u')) (K : ∀ (qS' qP' : Nat → Nat) (rC' rD' : Nat), zW x G (ce + 1) (sl + 3) 937 [(0, .ref b), (1, .ref (qX 0)), (2, .ref (qM 0)), (3, .int (nI (6 * k)))] [] (wdX G qX qR qS' qP' qC qU qD qV qT u'.1 ++ (wdR G qR u'.2.1 ++ (wdS G qS' u'.2.2.1 ++ (wdS G qP' u'.2.2.2.1 ++ (wdC G qC rC' u'.2.2.2.2.1 ++ (wdU G qU u'.2.2.2.2.2.1 ++ (wdC G qD rD' u'.2.2.2.2.2.2.1 ++ (wdU G qV u'.2.2.2.2.2.2.2.1 ++ (wdT G qT u'.2.2.2.2.2.2.2.2.1 ++ (wdM G qM u'.2.2.2.2.2.2.2.2.2))))))))))) : zW x G ce sl 513 [(0, .ref b), (1, .ref (qX 0)), (2, .ref (qM 0)), (3, .int (nI (6 * k)))] [] (wdX G qX qR qS qP qC qU qD qV qT u.1 ++ (wdR G qR u.2.1 ++ (wdS G qS u.2.2.1 ++ (wdS G qP u.2.2.2.1 ++ (wdC G qC rC u.2.2.2.2.1 ++ (wdU G qU u.2.2.2.2.2.1 ++ (wdC G qD rD u.2.2.2.2.2.2.1 ++ (wdU G qV u.2.2.2.2.2.2.2.1 ++ (wdT G qT u.2.2.2.2.2.2.2.2.1 ++ (wdM G qM u.2.2.2.2.2.2.2.2.2)))))))))) := by
  unfold ls_purse at h
  refine z_aload_n C dL_law_513 1 rfl ?_
  refine z_aload_n C dL_law_514 0 rfl ?_
  refine z_iload_n C dL_law_515 3 rfl ?_
  refine z_iconst C 1 dL_law_516 (by decide) ?_
  refine z_iadd C dL_law_517 ?_
  refine z_sld C hX hbl hbA hL (6 * k + 1) (by omega) (znI k 1 (by decide)) dL_law_518 ?_
  refine z_aload_n C dL_law_519 0 rfl ?_
  refine z_iload_n C dL_law_520 3 rfl ?_
  refine z_iconst C 2 dL_law_521 (by decide) ?_
  refine z_iadd C dL_law_522 ?_
  refine z_sld C hX hbl hbA hL (6 * k + 2) (by omega) (znI k 2 (by decide)) dL_law_523 ?_
  obtain ⟨y1, hy1, h⟩ := bind_o h
  refine rw_c_L_62 C (Ct.frame (cX_purse hy1) (w := wdX G qX qR qS qP qC qU qD qV qT u.1 ++ (wdR G qR u.2.1 ++ (wdS G qS u.2.2.1 ++ (wdS G qP u.2.2.2.1 ++ (wdC G qC rC u.2.2.2.2.1 ++ (wdU G qU u.2.2.2.2.2.1 ++ (wdC G qD rD u.2.2.2.2.2.2.1 ++ (wdU G qV u.2.2.2.2.2.2.2.1 ++ (wdT G qT u.2.2.2.2.2.2.2.2.1 ++ (wdM G qM u.2.2.2.2.2.2.2.2.2)))))))))) (w' := wdX G qX qR qS qP qC qU qD qV qT u.1 ++ (wdR G qR u.2.1 ++ (wdS G qS u.2.2.1 ++ (wdS G qP u.2.2.2.1 ++ (wdC G qC rC u.2.2.2.2.1 ++ (wdU G qU u.2.2.2.2.2.1 ++ (wdC G qD rD u.2.2.2.2.2.2.1 ++ (wdU G qV u.2.2.2.2.2.2.2.1 ++ (wdT G qT u.2.2.2.2.2.2.2.2.1 ++ (wdM G qM u.2.2.2.2.2.2.2.2.2)))))))))) (wr := wdR G qR u.2.1 ++ (wdS G qS u.2.2.1 ++ (wdS G qP u.2.2.2.1 ++ (wdC G qD rD u.2.2.2.2.2.2.1 ++ (wdU G qV u.2.2.2.2.2.2.2.1 ++ (wdT G qT u.2.2.2.2.2.2.2.2.1 ++ (wdM G qM u.2.2.2.2.2.2.2.2.2))))))) [0, 1, 2, 3, 28, 29, 30, 31, 32, 33, 34, 35, 36, 37, 38, 39, 40, 41, 42, 43, 44, 45, 46, 47, 48, 49, 50, 51] [4, 5, 6, 7, 8, 9, 10, 11, 12, 13, 14, 15, 16, 17, 18, 19, 20, 21, 22, 23, 24, 25, 26, 27, 52, 53, 54, 55, 56, 57, 58, 59, 60, 61, 62, 63, 64, 65, 66, 67, 68, 69, 70, 71, 72, 73, 74, 75, 76, 77, 78, 79, 80, 81, 82, 83, 84, 85, 86, 87, 88, 89, 90, 91, 92, 93, 94, 95, 96, 97, 98, 99, 100, 101, 102, 103, 104, 105, 106, 107, 108, 109, 110] [83, 84, 85, 86, 0, 1, 2, 3, 4, 5, 6, 7, 8, 9, 10, 11, 12, 13, 14, 15, 16, 17, 18, 19, 20, 21, 22, 23, 87, 88, 89, 90, 91, 92, 93, 94, 95, 96, 97, 98, 99, 100, 101, 102, 103, 104, 105, 106, 107, 108, 109, 110, 24, 25, 26, 27, 28, 29, 30, 31, 32, 33, 34, 35, 36, 37, 38, 39, 40, 41, 42, 43, 44, 45, 46, 47, 48, 49, 50, 51, 52, 53, 54, 55, 56, 57, 58, 59, 60, 61, 62, 63, 64, 65, 66, 67, 68, 69, 70, 71, 72, 73, 74, 75, 76, 77, 78, 79, 80, 81, 82] rfl rfl rfl rfl (by decide) rfl rfl) 0 rfl dL_law_524 (Nat.le_of_ble_eq_true rfl) (zrmL rfl (by omega) (by omega)) ?_
  refine z_aload_n C dL_law_527 2 rfl ?_
  refine z_aload_n C dL_law_528 0 rfl ?_
  refine z_iload_n C dL_law_529 3 rfl ?_
  refine z_iconst C 1 dL_law_530 (by decide) ?_
  refine z_iadd C dL_law_531 ?_
  refine z_sld C hX hbl hbA hL (6 * k + 1) (by omega) (znI k 1 (by decide)) dL_law_532 ?_
  refine z_aload_n C dL_law_533 0 rfl ?_
  refine z_iload_n C dL_law_534 3 rfl ?_
  refine z_iconst C 2 dL_law_535 (by decide) ?_
  refine z_iadd C dL_law_536 ?_
  refine z_sld C hX hbl hbA hL (6 * k + 2) (by omega) (znI k 2 (by decide)) dL_law_537 ?_
  obtain ⟨y2, hy2, h⟩ := bind_o h
  refine rw_c_L_65 C (Ct.frame (cM_purse hy2) (w := wdX G qX qR qS qP qC qU qD qV qT u.1 ++ (wdR G qR u.2.1 ++ (wdS G qS u.2.2.1 ++ (wdS G qP u.2.2.2.1 ++ (wdC G qC rC u.2.2.2.2.1 ++ (wdU G qU u.2.2.2.2.2.1 ++ (wdC G qD rD u.2.2.2.2.2.2.1 ++ (wdU G qV u.2.2.2.2.2.2.2.1 ++ (wdT G qT u.2.2.2.2.2.2.2.2.1 ++ (wdM G qM u.2.2.2.2.2.2.2.2.2)))))))))) (w' := wdX G qX qR qS qP qC qU qD qV qT u.1 ++ (wdR G qR u.2.1 ++ (wdS G qS u.2.2.1 ++ (wdS G qP u.2.2.2.1 ++ (wdC G qC rC u.2.2.2.2.1 ++ (wdU G qU u.2.2.2.2.2.1 ++ (wdC G qD rD u.2.2.2.2.2.2.1 ++ (wdU G qV u.2.2.2.2.2.2.2.1 ++ (wdT G qT u.2.2.2.2.2.2.2.2.1 ++ (wdM G qM y2.2)))))))))) (wr := wdX G qX qR qS qP qC qU qD qV qT u.1 ++ (wdR G qR u.2.1 ++ (wdS G qS u.2.2.1 ++ (wdS G qP u.2.2.2.1 ++ (wdC G qC rC u.2.2.2.2.1 ++ (wdU G qU u.2.2.2.2.2.1 ++ (wdC G qD rD u.2.2.2.2.2.2.1 ++ (wdU G qV u.2.2.2.2.2.2.2.1 ++ (wdT G qT u.2.2.2.2.2.2.2.2.1))))))))) [78, 79, 80, 81, 82, 83, 84, 85, 86, 87, 88, 89, 90, 91, 92, 93, 94, 95, 96, 97, 98, 99, 100, 101, 102, 103, 104, 105, 106, 107, 108, 109, 110] [0, 1, 2, 3, 4, 5, 6, 7, 8, 9, 10, 11, 12, 13, 14, 15, 16, 17, 18, 19, 20, 21, 22, 23, 24, 25, 26, 27, 28, 29, 30, 31, 32, 33, 34, 35, 36, 37, 38, 39, 40, 41, 42, 43, 44, 45, 46, 47, 48, 49, 50, 51, 52, 53, 54, 55, 56, 57, 58, 59, 60, 61, 62, 63, 64, 65, 66, 67, 68, 69, 70, 71, 72, 73, 74, 75, 76, 77] [0, 1, 2, 3, 4, 5, 6, 7, 8, 9, 10, 11, 12, 13, 14, 15, 16, 17, 18, 19, 20, 21, 22, 23, 24, 25, 26, 27, 28, 29, 30, 31, 32, 33, 34, 35, 36, 37, 38, 39, 40, 41, 42, 43, 44, 45, 46, 47, 48, 49, 50, 51, 52, 53, 54, 55, 56, 57, 58, 59, 60, 61, 62, 63, 64, 65, 66, 67, 68, 69, 70, 71, 72, 73, 74, 75, 76, 77, 78, 79, 80, 81, 82, 83, 84, 85, 86, 87, 88, 89, 90, 91, 92, 93, 94, 95, 96, 97, 98, 99, 100, 101, 102, 103, 104, 105, 106, 107, 108, 109, 110] rfl rfl rfl rfl (by decide) rfl rfl) 78 rfl dL_law_538 (Nat.le_of_ble_eq_true rfl) (zrmL rfl (by show ce + 0 ≤ 6000; omega) (by show sl + 0 ≤ 60000; omega)) ?_
  replace h := Option.some.inj h
  have he := of_decide_eq_true (congrArg Prod.fst h)
  have hu := congrArg Prod.snd h
  subst hu
  refine z_lcmp_eq C dL_law_541 dL_law_542 937 (by decide) (p := some ()) (q := none) (o := ()) (dd := inferInstance) (if_pos he) (fun _ => ?_) (fun h => by cases h)
  refine z_wide (ce' := ce + 1) (sl' := sl + 3) (by show ce + 0 + 0 ≤ ce + 1; omega) (by show sl + 0 + 0 ≤ sl + 3; omega) ?_
  exact K qS qP rC rD
set_option maxHeartbeats 4000000 in
set_option maxRecDepth 100000 in
theorem law_fed {x : zX} {G : zG} {qX qR qS qP qC qU qD qV qT qM : Nat → Nat} {rC rD b L k : Nat} {sc : Nat → Int32} {ce sl : Nat} {u u' : zLS} (C : zC x G RL cL_law 4 (some .boolean) room_1) (hX : va_X b L sc (xs x) (xs x).heap) (hbl : b < (xs x).heap.size) (hbA : ¬ xA x b) (hL : L ≤ 3072) (hk : 6 * k + 6 ≤ L) (hce : ce ≤ 5000) (hsl : sl ≤ 50000) (h : ls_fed (sc (6 * k + 1)) (sc (6 * k + 2)) u = some (true, u')) (K : ∀ (qS' qP' : Nat → Nat) (rC' rD' : Nat), zW x G (ce + 1) (sl + 3) 937 [(0, .ref b), (1, .ref (qX 0)), (2, .ref (qM 0)), (3, .int (nI (6 * k)))] [] (wdX G qX qR qS' qP' qC qU qD qV qT u'.1 ++ (wdR G qR u'.2.1 ++ (wdS G qS' u'.2.2.1 ++ (wdS G qP' u'.2.2.2.1 ++ (wdC G qC rC' u'.2.2.2.2.1 ++ (wdU G qU u'.2.2.2.2.2.1 ++ (wdC G qD rD' u'.2.2.2.2.2.2.1 ++ (wdU G qV u'.2.2.2.2.2.2.2.1 ++ (wdT G qT u'.2.2.2.2.2.2.2.2.1 ++ (wdM G qM u'.2.2.2.2.2.2.2.2.2))))))))))) : zW x G ce sl 547 [(0, .ref b), (1, .ref (qX 0)), (2, .ref (qM 0)), (3, .int (nI (6 * k)))] [] (wdX G qX qR qS qP qC qU qD qV qT u.1 ++ (wdR G qR u.2.1 ++ (wdS G qS u.2.2.1 ++ (wdS G qP u.2.2.2.1 ++ (wdC G qC rC u.2.2.2.2.1 ++ (wdU G qU u.2.2.2.2.2.1 ++ (wdC G qD rD u.2.2.2.2.2.2.1 ++ (wdU G qV u.2.2.2.2.2.2.2.1 ++ (wdT G qT u.2.2.2.2.2.2.2.2.1 ++ (wdM G qM u.2.2.2.2.2.2.2.2.2)))))))))) := by
  unfold ls_fed at h
  refine z_aload_n C dL_law_547 1 rfl ?_
  refine z_aload_n C dL_law_548 0 rfl ?_
  refine z_iload_n C dL_law_549 3 rfl ?_
  refine z_iconst C 1 dL_law_550 (by decide) ?_
  refine z_iadd C dL_law_551 ?_
  refine z_sld C hX hbl hbA hL (6 * k + 1) (by omega) (znI k 1 (by decide)) dL_law_552 ?_
  refine z_aload_n C dL_law_553 0 rfl ?_
  refine z_iload_n C dL_law_554 3 rfl ?_
  refine z_iconst C 2 dL_law_555 (by decide) ?_
  refine z_iadd C dL_law_556 ?_
  refine z_sld C hX hbl hbA hL (6 * k + 2) (by omega) (znI k 2 (by decide)) dL_law_557 ?_
  obtain ⟨y1, hy1, h⟩ := bind_o h
  refine rw_c_L_66 C (Ct.frame (cX_fed hy1) (w := wdX G qX qR qS qP qC qU qD qV qT u.1 ++ (wdR G qR u.2.1 ++ (wdS G qS u.2.2.1 ++ (wdS G qP u.2.2.2.1 ++ (wdC G qC rC u.2.2.2.2.1 ++ (wdU G qU u.2.2.2.2.2.1 ++ (wdC G qD rD u.2.2.2.2.2.2.1 ++ (wdU G qV u.2.2.2.2.2.2.2.1 ++ (wdT G qT u.2.2.2.2.2.2.2.2.1 ++ (wdM G qM u.2.2.2.2.2.2.2.2.2)))))))))) (w' := wdX G qX qR qS qP qC qU qD qV qT u.1 ++ (wdR G qR u.2.1 ++ (wdS G qS u.2.2.1 ++ (wdS G qP u.2.2.2.1 ++ (wdC G qC rC u.2.2.2.2.1 ++ (wdU G qU u.2.2.2.2.2.1 ++ (wdC G qD rD u.2.2.2.2.2.2.1 ++ (wdU G qV u.2.2.2.2.2.2.2.1 ++ (wdT G qT u.2.2.2.2.2.2.2.2.1 ++ (wdM G qM u.2.2.2.2.2.2.2.2.2)))))))))) (wr := wdR G qR u.2.1 ++ (wdS G qS u.2.2.1 ++ (wdS G qP u.2.2.2.1 ++ (wdC G qC rC u.2.2.2.2.1 ++ (wdC G qD rD u.2.2.2.2.2.2.1 ++ (wdU G qV u.2.2.2.2.2.2.2.1 ++ (wdT G qT u.2.2.2.2.2.2.2.2.1 ++ (wdM G qM u.2.2.2.2.2.2.2.2.2)))))))) [0, 1, 2, 3, 43, 44, 45, 46, 47, 48, 49, 50, 51] [4, 5, 6, 7, 8, 9, 10, 11, 12, 13, 14, 15, 16, 17, 18, 19, 20, 21, 22, 23, 24, 25, 26, 27, 28, 29, 30, 31, 32, 33, 34, 35, 36, 37, 38, 39, 40, 41, 42, 52, 53, 54, 55, 56, 57, 58, 59, 60, 61, 62, 63, 64, 65, 66, 67, 68, 69, 70, 71, 72, 73, 74, 75, 76, 77, 78, 79, 80, 81, 82, 83, 84, 85, 86, 87, 88, 89, 90, 91, 92, 93, 94, 95, 96, 97, 98, 99, 100, 101, 102, 103, 104, 105, 106, 107, 108, 109, 110] [98, 99, 100, 101, 0, 1, 2, 3, 4, 5, 6, 7, 8, 9, 10, 11, 12, 13, 14, 15, 16, 17, 18, 19, 20, 21, 22, 23, 24, 25, 26, 27, 28, 29, 30, 31, 32, 33, 34, 35, 36, 37, 38, 102, 103, 104, 105, 106, 107, 108, 109, 110, 39, 40, 41, 42, 43, 44, 45, 46, 47, 48, 49, 50, 51, 52, 53, 54, 55, 56, 57, 58, 59, 60, 61, 62, 63, 64, 65, 66, 67, 68, 69, 70, 71, 72, 73, 74, 75, 76, 77, 78, 79, 80, 81, 82, 83, 84, 85, 86, 87, 88, 89, 90, 91, 92, 93, 94, 95, 96, 97] rfl rfl rfl rfl (by decide) rfl rfl) 0 rfl dL_law_558 (Nat.le_of_ble_eq_true rfl) (zrmL rfl (by omega) (by omega)) ?_
  refine z_aload_n C dL_law_561 2 rfl ?_
  refine z_aload_n C dL_law_562 0 rfl ?_
  refine z_iload_n C dL_law_563 3 rfl ?_
  refine z_iconst C 1 dL_law_564 (by decide) ?_
  refine z_iadd C dL_law_565 ?_
  refine z_sld C hX hbl hbA hL (6 * k + 1) (by omega) (znI k 1 (by decide)) dL_law_566 ?_
  refine z_aload_n C dL_law_567 0 rfl ?_
  refine z_iload_n C dL_law_568 3 rfl ?_
  refine z_iconst C 2 dL_law_569 (by decide) ?_
  refine z_iadd C dL_law_570 ?_
  refine z_sld C hX hbl hbA hL (6 * k + 2) (by omega) (znI k 2 (by decide)) dL_law_571 ?_
  obtain ⟨y2, hy2, h⟩ := bind_o h
  refine rw_c_L_69 C (Ct.frame (cM_fed hy2) (w := wdX G qX qR qS qP qC qU qD qV qT u.1 ++ (wdR G qR u.2.1 ++ (wdS G qS u.2.2.1 ++ (wdS G qP u.2.2.2.1 ++ (wdC G qC rC u.2.2.2.2.1 ++ (wdU G qU u.2.2.2.2.2.1 ++ (wdC G qD rD u.2.2.2.2.2.2.1 ++ (wdU G qV u.2.2.2.2.2.2.2.1 ++ (wdT G qT u.2.2.2.2.2.2.2.2.1 ++ (wdM G qM u.2.2.2.2.2.2.2.2.2)))))))))) (w' := wdX G qX qR qS qP qC qU qD qV qT u.1 ++ (wdR G qR u.2.1 ++ (wdS G qS u.2.2.1 ++ (wdS G qP u.2.2.2.1 ++ (wdC G qC rC u.2.2.2.2.1 ++ (wdU G qU u.2.2.2.2.2.1 ++ (wdC G qD rD u.2.2.2.2.2.2.1 ++ (wdU G qV u.2.2.2.2.2.2.2.1 ++ (wdT G qT u.2.2.2.2.2.2.2.2.1 ++ (wdM G qM y2.2)))))))))) (wr := wdX G qX qR qS qP qC qU qD qV qT u.1 ++ (wdR G qR u.2.1 ++ (wdS G qS u.2.2.1 ++ (wdS G qP u.2.2.2.1 ++ (wdC G qC rC u.2.2.2.2.1 ++ (wdU G qU u.2.2.2.2.2.1 ++ (wdC G qD rD u.2.2.2.2.2.2.1 ++ (wdU G qV u.2.2.2.2.2.2.2.1 ++ (wdT G qT u.2.2.2.2.2.2.2.2.1))))))))) [78, 79, 80, 81, 82, 83, 84, 85, 86, 87, 88, 89, 90, 91, 92, 93, 94, 95, 96, 97, 98, 99, 100, 101, 102, 103, 104, 105, 106, 107, 108, 109, 110] [0, 1, 2, 3, 4, 5, 6, 7, 8, 9, 10, 11, 12, 13, 14, 15, 16, 17, 18, 19, 20, 21, 22, 23, 24, 25, 26, 27, 28, 29, 30, 31, 32, 33, 34, 35, 36, 37, 38, 39, 40, 41, 42, 43, 44, 45, 46, 47, 48, 49, 50, 51, 52, 53, 54, 55, 56, 57, 58, 59, 60, 61, 62, 63, 64, 65, 66, 67, 68, 69, 70, 71, 72, 73, 74, 75, 76, 77] [0, 1, 2, 3, 4, 5, 6, 7, 8, 9, 10, 11, 12, 13, 14, 15, 16, 17, 18, 19, 20, 21, 22, 23, 24, 25, 26, 27, 28, 29, 30, 31, 32, 33, 34, 35, 36, 37, 38, 39, 40, 41, 42, 43, 44, 45, 46, 47, 48, 49, 50, 51, 52, 53, 54, 55, 56, 57, 58, 59, 60, 61, 62, 63, 64, 65, 66, 67, 68, 69, 70, 71, 72, 73, 74, 75, 76, 77, 78, 79, 80, 81, 82, 83, 84, 85, 86, 87, 88, 89, 90, 91, 92, 93, 94, 95, 96, 97, 98, 99, 100, 101, 102, 103, 104, 105, 106, 107, 108, 109, 110] rfl rfl rfl rfl (by decide) rfl rfl) 78 rfl dL_law_572 (Nat.le_of_ble_eq_true rfl) (zrmL rfl (by show ce + 0 ≤ 6000; omega) (by show sl + 0 ≤ 60000; omega)) ?_
  replace h := Option.some.inj h
  have he := of_decide_eq_true (congrArg Prod.fst h)
  have hu := congrArg Prod.snd h
  subst hu
  refine z_lcmp_eq C dL_law_575 dL_law_576 937 (by decide) (p := some ()) (q := none) (o := ()) (dd := inferInstance) (if_pos he) (fun _ => ?_) (fun h => by cases h)
  refine z_wide (ce' := ce + 1) (sl' := sl + 3) (by show ce + 0 + 0 ≤ ce + 1; omega) (by show sl + 0 + 0 ≤ sl + 3; omega) ?_
  exact K qS qP rC rD
set_option maxHeartbeats 4000000 in
set_option maxRecDepth 100000 in
theorem law_owed {x : zX} {G : zG} {qX qR qS qP qC qU qD qV qT qM : Nat → Nat} {rC rD b L k : Nat} {sc : Nat → Int32} {ce sl : Nat} {u u' : zLS} (C : zC x G RL cL_law 4 (some .boolean) room_1) (hX : va_X b L sc (xs x) (xs x).heap) (hbl : b < (xs x).heap.size) (hbA : ¬ xA x b) (hL : L ≤ 3072) (hk : 6 * k + 6 ≤ L) (hce : ce ≤ 5000) (hsl : sl ≤ 50000) (h : ls_owed (sc (6 * k + 1)) (sc (6 * k + 2)) (sc (6 * k + 3)) u = some (true, u')) (K : ∀ (qS' qP' : Nat → Nat) (rC' rD' : Nat), zW x G (ce + 1) (sl + 3) 937 [(0, .ref b), (1, .ref (qX 0)), (2, .ref (qM 0)), (3, .int (nI (6 * k)))] [] (wdX G qX qR qS' qP' qC qU qD qV qT u'.1 ++ (wdR G qR u'.2.1 ++ (wdS G qS' u'.2.2.1 ++ (wdS G qP' u'.2.2.2.1 ++ (wdC G qC rC' u'.2.2.2.2.1 ++ (wdU G qU u'.2.2.2.2.2.1 ++ (wdC G qD rD' u'.2.2.2.2.2.2.1 ++ (wdU G qV u'.2.2.2.2.2.2.2.1 ++ (wdT G qT u'.2.2.2.2.2.2.2.2.1 ++ (wdM G qM u'.2.2.2.2.2.2.2.2.2))))))))))) : zW x G ce sl 581 [(0, .ref b), (1, .ref (qX 0)), (2, .ref (qM 0)), (3, .int (nI (6 * k)))] [] (wdX G qX qR qS qP qC qU qD qV qT u.1 ++ (wdR G qR u.2.1 ++ (wdS G qS u.2.2.1 ++ (wdS G qP u.2.2.2.1 ++ (wdC G qC rC u.2.2.2.2.1 ++ (wdU G qU u.2.2.2.2.2.1 ++ (wdC G qD rD u.2.2.2.2.2.2.1 ++ (wdU G qV u.2.2.2.2.2.2.2.1 ++ (wdT G qT u.2.2.2.2.2.2.2.2.1 ++ (wdM G qM u.2.2.2.2.2.2.2.2.2)))))))))) := by
  unfold ls_owed at h
  refine z_aload_n C dL_law_581 1 rfl ?_
  refine z_aload_n C dL_law_582 0 rfl ?_
  refine z_iload_n C dL_law_583 3 rfl ?_
  refine z_iconst C 1 dL_law_584 (by decide) ?_
  refine z_iadd C dL_law_585 ?_
  refine z_sld C hX hbl hbA hL (6 * k + 1) (by omega) (znI k 1 (by decide)) dL_law_586 ?_
  refine z_aload_n C dL_law_587 0 rfl ?_
  refine z_iload_n C dL_law_588 3 rfl ?_
  refine z_iconst C 2 dL_law_589 (by decide) ?_
  refine z_iadd C dL_law_590 ?_
  refine z_sld C hX hbl hbA hL (6 * k + 2) (by omega) (znI k 2 (by decide)) dL_law_591 ?_
  refine z_aload_n C dL_law_592 0 rfl ?_
  refine z_iload_n C dL_law_593 3 rfl ?_
  refine z_iconst C 3 dL_law_594 (by decide) ?_
  refine z_iadd C dL_law_595 ?_
  refine z_sld C hX hbl hbA hL (6 * k + 3) (by omega) (znI k 3 (by decide)) dL_law_596 ?_
  obtain ⟨y1, hy1, h⟩ := bind_o h
  refine rw_c_L_70 C (Ct.frame (cX_owed hy1) (w := wdX G qX qR qS qP qC qU qD qV qT u.1 ++ (wdR G qR u.2.1 ++ (wdS G qS u.2.2.1 ++ (wdS G qP u.2.2.2.1 ++ (wdC G qC rC u.2.2.2.2.1 ++ (wdU G qU u.2.2.2.2.2.1 ++ (wdC G qD rD u.2.2.2.2.2.2.1 ++ (wdU G qV u.2.2.2.2.2.2.2.1 ++ (wdT G qT u.2.2.2.2.2.2.2.2.1 ++ (wdM G qM u.2.2.2.2.2.2.2.2.2)))))))))) (w' := wdX G qX qR qS qP qC qU qD qV qT u.1 ++ (wdR G qR u.2.1 ++ (wdS G qS u.2.2.1 ++ (wdS G qP u.2.2.2.1 ++ (wdC G qC rC u.2.2.2.2.1 ++ (wdU G qU u.2.2.2.2.2.1 ++ (wdC G qD rD u.2.2.2.2.2.2.1 ++ (wdU G qV u.2.2.2.2.2.2.2.1 ++ (wdT G qT u.2.2.2.2.2.2.2.2.1 ++ (wdM G qM u.2.2.2.2.2.2.2.2.2)))))))))) (wr := wdR G qR u.2.1 ++ (wdS G qS u.2.2.1 ++ (wdS G qP u.2.2.2.1 ++ (wdC G qC rC u.2.2.2.2.1 ++ (wdC G qD rD u.2.2.2.2.2.2.1 ++ (wdU G qV u.2.2.2.2.2.2.2.1 ++ (wdT G qT u.2.2.2.2.2.2.2.2.1 ++ (wdM G qM u.2.2.2.2.2.2.2.2.2)))))))) [0, 1, 2, 3, 43, 44, 45, 46, 47, 48, 49, 50, 51] [4, 5, 6, 7, 8, 9, 10, 11, 12, 13, 14, 15, 16, 17, 18, 19, 20, 21, 22, 23, 24, 25, 26, 27, 28, 29, 30, 31, 32, 33, 34, 35, 36, 37, 38, 39, 40, 41, 42, 52, 53, 54, 55, 56, 57, 58, 59, 60, 61, 62, 63, 64, 65, 66, 67, 68, 69, 70, 71, 72, 73, 74, 75, 76, 77, 78, 79, 80, 81, 82, 83, 84, 85, 86, 87, 88, 89, 90, 91, 92, 93, 94, 95, 96, 97, 98, 99, 100, 101, 102, 103, 104, 105, 106, 107, 108, 109, 110] [98, 99, 100, 101, 0, 1, 2, 3, 4, 5, 6, 7, 8, 9, 10, 11, 12, 13, 14, 15, 16, 17, 18, 19, 20, 21, 22, 23, 24, 25, 26, 27, 28, 29, 30, 31, 32, 33, 34, 35, 36, 37, 38, 102, 103, 104, 105, 106, 107, 108, 109, 110, 39, 40, 41, 42, 43, 44, 45, 46, 47, 48, 49, 50, 51, 52, 53, 54, 55, 56, 57, 58, 59, 60, 61, 62, 63, 64, 65, 66, 67, 68, 69, 70, 71, 72, 73, 74, 75, 76, 77, 78, 79, 80, 81, 82, 83, 84, 85, 86, 87, 88, 89, 90, 91, 92, 93, 94, 95, 96, 97] rfl rfl rfl rfl (by decide) rfl rfl) 0 rfl dL_law_597 (Nat.le_of_ble_eq_true rfl) (zrmL rfl (by omega) (by omega)) ?_
  refine z_aload_n C dL_law_600 2 rfl ?_
  refine z_aload_n C dL_law_601 0 rfl ?_
  refine z_iload_n C dL_law_602 3 rfl ?_
  refine z_iconst C 1 dL_law_603 (by decide) ?_
  refine z_iadd C dL_law_604 ?_
  refine z_sld C hX hbl hbA hL (6 * k + 1) (by omega) (znI k 1 (by decide)) dL_law_605 ?_
  refine z_aload_n C dL_law_606 0 rfl ?_
  refine z_iload_n C dL_law_607 3 rfl ?_
  refine z_iconst C 2 dL_law_608 (by decide) ?_
  refine z_iadd C dL_law_609 ?_
  refine z_sld C hX hbl hbA hL (6 * k + 2) (by omega) (znI k 2 (by decide)) dL_law_610 ?_
  refine z_aload_n C dL_law_611 0 rfl ?_
  refine z_iload_n C dL_law_612 3 rfl ?_
  refine z_iconst C 3 dL_law_613 (by decide) ?_
  refine z_iadd C dL_law_614 ?_
  refine z_sld C hX hbl hbA hL (6 * k + 3) (by omega) (znI k 3 (by decide)) dL_law_615 ?_
  obtain ⟨y2, hy2, h⟩ := bind_o h
  refine rw_c_L_73 C (Ct.frame (cM_owed hy2) (w := wdX G qX qR qS qP qC qU qD qV qT u.1 ++ (wdR G qR u.2.1 ++ (wdS G qS u.2.2.1 ++ (wdS G qP u.2.2.2.1 ++ (wdC G qC rC u.2.2.2.2.1 ++ (wdU G qU u.2.2.2.2.2.1 ++ (wdC G qD rD u.2.2.2.2.2.2.1 ++ (wdU G qV u.2.2.2.2.2.2.2.1 ++ (wdT G qT u.2.2.2.2.2.2.2.2.1 ++ (wdM G qM u.2.2.2.2.2.2.2.2.2)))))))))) (w' := wdX G qX qR qS qP qC qU qD qV qT u.1 ++ (wdR G qR u.2.1 ++ (wdS G qS u.2.2.1 ++ (wdS G qP u.2.2.2.1 ++ (wdC G qC rC u.2.2.2.2.1 ++ (wdU G qU u.2.2.2.2.2.1 ++ (wdC G qD rD u.2.2.2.2.2.2.1 ++ (wdU G qV u.2.2.2.2.2.2.2.1 ++ (wdT G qT u.2.2.2.2.2.2.2.2.1 ++ (wdM G qM y2.2)))))))))) (wr := wdX G qX qR qS qP qC qU qD qV qT u.1 ++ (wdR G qR u.2.1 ++ (wdS G qS u.2.2.1 ++ (wdS G qP u.2.2.2.1 ++ (wdC G qC rC u.2.2.2.2.1 ++ (wdU G qU u.2.2.2.2.2.1 ++ (wdC G qD rD u.2.2.2.2.2.2.1 ++ (wdU G qV u.2.2.2.2.2.2.2.1 ++ (wdT G qT u.2.2.2.2.2.2.2.2.1))))))))) [78, 79, 80, 81, 82, 83, 84, 85, 86, 87, 88, 89, 90, 91, 92, 93, 94, 95, 96, 97, 98, 99, 100, 101, 102, 103, 104, 105, 106, 107, 108, 109, 110] [0, 1, 2, 3, 4, 5, 6, 7, 8, 9, 10, 11, 12, 13, 14, 15, 16, 17, 18, 19, 20, 21, 22, 23, 24, 25, 26, 27, 28, 29, 30, 31, 32, 33, 34, 35, 36, 37, 38, 39, 40, 41, 42, 43, 44, 45, 46, 47, 48, 49, 50, 51, 52, 53, 54, 55, 56, 57, 58, 59, 60, 61, 62, 63, 64, 65, 66, 67, 68, 69, 70, 71, 72, 73, 74, 75, 76, 77] [0, 1, 2, 3, 4, 5, 6, 7, 8, 9, 10, 11, 12, 13, 14, 15, 16, 17, 18, 19, 20, 21, 22, 23, 24, 25, 26, 27, 28, 29, 30, 31, 32, 33, 34, 35, 36, 37, 38, 39, 40, 41, 42, 43, 44, 45, 46, 47, 48, 49, 50, 51, 52, 53, 54, 55, 56, 57, 58, 59, 60, 61, 62, 63, 64, 65, 66, 67, 68, 69, 70, 71, 72, 73, 74, 75, 76, 77, 78, 79, 80, 81, 82, 83, 84, 85, 86, 87, 88, 89, 90, 91, 92, 93, 94, 95, 96, 97, 98, 99, 100, 101, 102, 103, 104, 105, 106, 107, 108, 109, 110] rfl rfl rfl rfl (by decide) rfl rfl) 78 rfl dL_law_616 (Nat.le_of_ble_eq_true rfl) (zrmL rfl (by show ce + 0 ≤ 6000; omega) (by show sl + 0 ≤ 60000; omega)) ?_
  replace h := Option.some.inj h
  have he := of_decide_eq_true (congrArg Prod.fst h)
  have hu := congrArg Prod.snd h
  subst hu
  refine z_lcmp_eq C dL_law_619 dL_law_620 937 (by decide) (p := some ()) (q := none) (o := ()) (dd := inferInstance) (if_pos he) (fun _ => ?_) (fun h => by cases h)
  refine z_wide (ce' := ce + 1) (sl' := sl + 3) (by show ce + 0 + 0 ≤ ce + 1; omega) (by show sl + 0 + 0 ≤ sl + 3; omega) ?_
  exact K qS qP rC rD
set_option maxHeartbeats 4000000 in
set_option maxRecDepth 100000 in
theorem law_net {x : zX} {G : zG} {qX qR qS qP qC qU qD qV qT qM : Nat → Nat} {rC rD b L k : Nat} {sc : Nat → Int32} {ce sl : Nat} {u u' : zLS} (C : zC x G RL cL_law 4 (some .boolean) room_1) (hX : va_X b L sc (xs x) (xs x).heap) (hbl : b < (xs x).heap.size) (hbA : ¬ xA x b) (hL : L ≤ 3072) (hk : 6 * k + 6 ≤ L) (hce : ce ≤ 5000) (hsl : sl ≤ 50000) (h : ls_net (sc (6 * k + 1)) (sc (6 * k + 2)) u = some (true, u')) (K : ∀ (qS' qP' : Nat → Nat) (rC' rD' : Nat), zW x G (ce + 1) (sl + 3) 937 [(0, .ref b), (1, .ref (qX 0)), (2, .ref (qM 0)), (3, .int (nI (6 * k)))] [] (wdX G qX qR qS' qP' qC qU qD qV qT u'.1 ++ (wdR G qR u'.2.1 ++ (wdS G qS' u'.2.2.1 ++ (wdS G qP' u'.2.2.2.1 ++ (wdC G qC rC' u'.2.2.2.2.1 ++ (wdU G qU u'.2.2.2.2.2.1 ++ (wdC G qD rD' u'.2.2.2.2.2.2.1 ++ (wdU G qV u'.2.2.2.2.2.2.2.1 ++ (wdT G qT u'.2.2.2.2.2.2.2.2.1 ++ (wdM G qM u'.2.2.2.2.2.2.2.2.2))))))))))) : zW x G ce sl 625 [(0, .ref b), (1, .ref (qX 0)), (2, .ref (qM 0)), (3, .int (nI (6 * k)))] [] (wdX G qX qR qS qP qC qU qD qV qT u.1 ++ (wdR G qR u.2.1 ++ (wdS G qS u.2.2.1 ++ (wdS G qP u.2.2.2.1 ++ (wdC G qC rC u.2.2.2.2.1 ++ (wdU G qU u.2.2.2.2.2.1 ++ (wdC G qD rD u.2.2.2.2.2.2.1 ++ (wdU G qV u.2.2.2.2.2.2.2.1 ++ (wdT G qT u.2.2.2.2.2.2.2.2.1 ++ (wdM G qM u.2.2.2.2.2.2.2.2.2)))))))))) := by
  unfold ls_net at h
  refine z_aload_n C dL_law_625 1 rfl ?_
  refine z_aload_n C dL_law_626 0 rfl ?_
  refine z_iload_n C dL_law_627 3 rfl ?_
  refine z_iconst C 1 dL_law_628 (by decide) ?_
  refine z_iadd C dL_law_629 ?_
  refine z_sld C hX hbl hbA hL (6 * k + 1) (by omega) (znI k 1 (by decide)) dL_law_630 ?_
  refine z_aload_n C dL_law_631 0 rfl ?_
  refine z_iload_n C dL_law_632 3 rfl ?_
  refine z_iconst C 2 dL_law_633 (by decide) ?_
  refine z_iadd C dL_law_634 ?_
  refine z_sld C hX hbl hbA hL (6 * k + 2) (by omega) (znI k 2 (by decide)) dL_law_635 ?_
  obtain ⟨y1, hy1, h⟩ := bind_o h
  refine rw_c_L_74 C (Ct.frame (cX_net hy1) (w := wdX G qX qR qS qP qC qU qD qV qT u.1 ++ (wdR G qR u.2.1 ++ (wdS G qS u.2.2.1 ++ (wdS G qP u.2.2.2.1 ++ (wdC G qC rC u.2.2.2.2.1 ++ (wdU G qU u.2.2.2.2.2.1 ++ (wdC G qD rD u.2.2.2.2.2.2.1 ++ (wdU G qV u.2.2.2.2.2.2.2.1 ++ (wdT G qT u.2.2.2.2.2.2.2.2.1 ++ (wdM G qM u.2.2.2.2.2.2.2.2.2)))))))))) (w' := wdX G qX qR qS qP qC qU qD qV qT u.1 ++ (wdR G qR u.2.1 ++ (wdS G qS u.2.2.1 ++ (wdS G qP u.2.2.2.1 ++ (wdC G qC rC u.2.2.2.2.1 ++ (wdU G qU u.2.2.2.2.2.1 ++ (wdC G qD rD u.2.2.2.2.2.2.1 ++ (wdU G qV u.2.2.2.2.2.2.2.1 ++ (wdT G qT u.2.2.2.2.2.2.2.2.1 ++ (wdM G qM u.2.2.2.2.2.2.2.2.2)))))))))) (wr := wdR G qR u.2.1 ++ (wdS G qS u.2.2.1 ++ (wdS G qP u.2.2.2.1 ++ (wdC G qC rC u.2.2.2.2.1 ++ (wdC G qD rD u.2.2.2.2.2.2.1 ++ (wdU G qV u.2.2.2.2.2.2.2.1 ++ (wdT G qT u.2.2.2.2.2.2.2.2.1 ++ (wdM G qM u.2.2.2.2.2.2.2.2.2)))))))) [0, 1, 2, 3, 43, 44, 45, 46, 47, 48, 49, 50, 51] [4, 5, 6, 7, 8, 9, 10, 11, 12, 13, 14, 15, 16, 17, 18, 19, 20, 21, 22, 23, 24, 25, 26, 27, 28, 29, 30, 31, 32, 33, 34, 35, 36, 37, 38, 39, 40, 41, 42, 52, 53, 54, 55, 56, 57, 58, 59, 60, 61, 62, 63, 64, 65, 66, 67, 68, 69, 70, 71, 72, 73, 74, 75, 76, 77, 78, 79, 80, 81, 82, 83, 84, 85, 86, 87, 88, 89, 90, 91, 92, 93, 94, 95, 96, 97, 98, 99, 100, 101, 102, 103, 104, 105, 106, 107, 108, 109, 110] [98, 99, 100, 101, 0, 1, 2, 3, 4, 5, 6, 7, 8, 9, 10, 11, 12, 13, 14, 15, 16, 17, 18, 19, 20, 21, 22, 23, 24, 25, 26, 27, 28, 29, 30, 31, 32, 33, 34, 35, 36, 37, 38, 102, 103, 104, 105, 106, 107, 108, 109, 110, 39, 40, 41, 42, 43, 44, 45, 46, 47, 48, 49, 50, 51, 52, 53, 54, 55, 56, 57, 58, 59, 60, 61, 62, 63, 64, 65, 66, 67, 68, 69, 70, 71, 72, 73, 74, 75, 76, 77, 78, 79, 80, 81, 82, 83, 84, 85, 86, 87, 88, 89, 90, 91, 92, 93, 94, 95, 96, 97] rfl rfl rfl rfl (by decide) rfl rfl) 0 rfl dL_law_636 (Nat.le_of_ble_eq_true rfl) (zrmL rfl (by omega) (by omega)) ?_
  refine z_aload_n C dL_law_639 2 rfl ?_
  refine z_aload_n C dL_law_640 0 rfl ?_
  refine z_iload_n C dL_law_641 3 rfl ?_
  refine z_iconst C 1 dL_law_642 (by decide) ?_
  refine z_iadd C dL_law_643 ?_
  refine z_sld C hX hbl hbA hL (6 * k + 1) (by omega) (znI k 1 (by decide)) dL_law_644 ?_
  refine z_aload_n C dL_law_645 0 rfl ?_
  refine z_iload_n C dL_law_646 3 rfl ?_
  refine z_iconst C 2 dL_law_647 (by decide) ?_
  refine z_iadd C dL_law_648 ?_
  refine z_sld C hX hbl hbA hL (6 * k + 2) (by omega) (znI k 2 (by decide)) dL_law_649 ?_
  obtain ⟨y2, hy2, h⟩ := bind_o h
  refine rw_c_L_77 C (Ct.frame (cM_net hy2) (w := wdX G qX qR qS qP qC qU qD qV qT u.1 ++ (wdR G qR u.2.1 ++ (wdS G qS u.2.2.1 ++ (wdS G qP u.2.2.2.1 ++ (wdC G qC rC u.2.2.2.2.1 ++ (wdU G qU u.2.2.2.2.2.1 ++ (wdC G qD rD u.2.2.2.2.2.2.1 ++ (wdU G qV u.2.2.2.2.2.2.2.1 ++ (wdT G qT u.2.2.2.2.2.2.2.2.1 ++ (wdM G qM u.2.2.2.2.2.2.2.2.2)))))))))) (w' := wdX G qX qR qS qP qC qU qD qV qT u.1 ++ (wdR G qR u.2.1 ++ (wdS G qS u.2.2.1 ++ (wdS G qP u.2.2.2.1 ++ (wdC G qC rC u.2.2.2.2.1 ++ (wdU G qU u.2.2.2.2.2.1 ++ (wdC G qD rD u.2.2.2.2.2.2.1 ++ (wdU G qV u.2.2.2.2.2.2.2.1 ++ (wdT G qT u.2.2.2.2.2.2.2.2.1 ++ (wdM G qM y2.2)))))))))) (wr := wdX G qX qR qS qP qC qU qD qV qT u.1 ++ (wdR G qR u.2.1 ++ (wdS G qS u.2.2.1 ++ (wdS G qP u.2.2.2.1 ++ (wdC G qC rC u.2.2.2.2.1 ++ (wdU G qU u.2.2.2.2.2.1 ++ (wdC G qD rD u.2.2.2.2.2.2.1 ++ (wdU G qV u.2.2.2.2.2.2.2.1 ++ (wdT G qT u.2.2.2.2.2.2.2.2.1))))))))) [78, 79, 80, 81, 82, 83, 84, 85, 86, 87, 88, 89, 90, 91, 92, 93, 94, 95, 96, 97, 98, 99, 100, 101, 102, 103, 104, 105, 106, 107, 108, 109, 110] [0, 1, 2, 3, 4, 5, 6, 7, 8, 9, 10, 11, 12, 13, 14, 15, 16, 17, 18, 19, 20, 21, 22, 23, 24, 25, 26, 27, 28, 29, 30, 31, 32, 33, 34, 35, 36, 37, 38, 39, 40, 41, 42, 43, 44, 45, 46, 47, 48, 49, 50, 51, 52, 53, 54, 55, 56, 57, 58, 59, 60, 61, 62, 63, 64, 65, 66, 67, 68, 69, 70, 71, 72, 73, 74, 75, 76, 77] [0, 1, 2, 3, 4, 5, 6, 7, 8, 9, 10, 11, 12, 13, 14, 15, 16, 17, 18, 19, 20, 21, 22, 23, 24, 25, 26, 27, 28, 29, 30, 31, 32, 33, 34, 35, 36, 37, 38, 39, 40, 41, 42, 43, 44, 45, 46, 47, 48, 49, 50, 51, 52, 53, 54, 55, 56, 57, 58, 59, 60, 61, 62, 63, 64, 65, 66, 67, 68, 69, 70, 71, 72, 73, 74, 75, 76, 77, 78, 79, 80, 81, 82, 83, 84, 85, 86, 87, 88, 89, 90, 91, 92, 93, 94, 95, 96, 97, 98, 99, 100, 101, 102, 103, 104, 105, 106, 107, 108, 109, 110] rfl rfl rfl rfl (by decide) rfl rfl) 78 rfl dL_law_650 (Nat.le_of_ble_eq_true rfl) (zrmL rfl (by show ce + 0 ≤ 6000; omega) (by show sl + 0 ≤ 60000; omega)) ?_
  replace h := Option.some.inj h
  have he := of_decide_eq_true (congrArg Prod.fst h)
  have hu := congrArg Prod.snd h
  subst hu
  refine z_lcmp_eq C dL_law_653 dL_law_654 937 (by decide) (p := some ()) (q := none) (o := ()) (dd := inferInstance) (if_pos he) (fun _ => ?_) (fun h => by cases h)
  refine z_wide (ce' := ce + 1) (sl' := sl + 3) (by show ce + 0 + 0 ≤ ce + 1; omega) (by show sl + 0 + 0 ≤ sl + 3; omega) ?_
  exact K qS qP rC rD
set_option maxHeartbeats 4000000 in
set_option maxRecDepth 100000 in
theorem law_end {x : zX} {G : zG} {qX qR qS qP qC qU qD qV qT qM : Nat → Nat} {rC rD b L k : Nat} {sc : Nat → Int32} {ce sl : Nat} {u u' : zLS} (C : zC x G RL cL_law 4 (some .boolean) room_1) (hX : va_X b L sc (xs x) (xs x).heap) (hbl : b < (xs x).heap.size) (hbA : ¬ xA x b) (hL : L ≤ 3072) (hk : 6 * k + 6 ≤ L) (hce : ce ≤ 5000) (hsl : sl ≤ 50000) (h : ls_end (sc (6 * k + 1)) (sc (6 * k + 2)) u = some (true, u')) (K : ∀ (qS' qP' : Nat → Nat) (rC' rD' : Nat), zW x G (ce + 1) (sl + 3) 937 [(0, .ref b), (1, .ref (qX 0)), (2, .ref (qM 0)), (3, .int (nI (6 * k)))] [] (wdX G qX qR qS' qP' qC qU qD qV qT u'.1 ++ (wdR G qR u'.2.1 ++ (wdS G qS' u'.2.2.1 ++ (wdS G qP' u'.2.2.2.1 ++ (wdC G qC rC' u'.2.2.2.2.1 ++ (wdU G qU u'.2.2.2.2.2.1 ++ (wdC G qD rD' u'.2.2.2.2.2.2.1 ++ (wdU G qV u'.2.2.2.2.2.2.2.1 ++ (wdT G qT u'.2.2.2.2.2.2.2.2.1 ++ (wdM G qM u'.2.2.2.2.2.2.2.2.2))))))))))) : zW x G ce sl 659 [(0, .ref b), (1, .ref (qX 0)), (2, .ref (qM 0)), (3, .int (nI (6 * k)))] [] (wdX G qX qR qS qP qC qU qD qV qT u.1 ++ (wdR G qR u.2.1 ++ (wdS G qS u.2.2.1 ++ (wdS G qP u.2.2.2.1 ++ (wdC G qC rC u.2.2.2.2.1 ++ (wdU G qU u.2.2.2.2.2.1 ++ (wdC G qD rD u.2.2.2.2.2.2.1 ++ (wdU G qV u.2.2.2.2.2.2.2.1 ++ (wdT G qT u.2.2.2.2.2.2.2.2.1 ++ (wdM G qM u.2.2.2.2.2.2.2.2.2)))))))))) := by
  unfold ls_end at h
  refine z_aload_n C dL_law_659 1 rfl ?_
  refine z_aload_n C dL_law_660 0 rfl ?_
  refine z_iload_n C dL_law_661 3 rfl ?_
  refine z_iconst C 1 dL_law_662 (by decide) ?_
  refine z_iadd C dL_law_663 ?_
  refine z_sld C hX hbl hbA hL (6 * k + 1) (by omega) (znI k 1 (by decide)) dL_law_664 ?_
  refine z_aload_n C dL_law_665 0 rfl ?_
  refine z_iload_n C dL_law_666 3 rfl ?_
  refine z_iconst C 2 dL_law_667 (by decide) ?_
  refine z_iadd C dL_law_668 ?_
  refine z_sld C hX hbl hbA hL (6 * k + 2) (by omega) (znI k 2 (by decide)) dL_law_669 ?_
  obtain ⟨y1, hy1, h⟩ := bind_o h
  refine rw_c_L_78 C (Ct.frame (cX_end hy1) (w := wdX G qX qR qS qP qC qU qD qV qT u.1 ++ (wdR G qR u.2.1 ++ (wdS G qS u.2.2.1 ++ (wdS G qP u.2.2.2.1 ++ (wdC G qC rC u.2.2.2.2.1 ++ (wdU G qU u.2.2.2.2.2.1 ++ (wdC G qD rD u.2.2.2.2.2.2.1 ++ (wdU G qV u.2.2.2.2.2.2.2.1 ++ (wdT G qT u.2.2.2.2.2.2.2.2.1 ++ (wdM G qM u.2.2.2.2.2.2.2.2.2)))))))))) (w' := wdX G qX qR qS qP qC qU qD qV qT u.1 ++ (wdR G qR u.2.1 ++ (wdS G qS u.2.2.1 ++ (wdS G qP u.2.2.2.1 ++ (wdC G qC rC u.2.2.2.2.1 ++ (wdU G qU u.2.2.2.2.2.1 ++ (wdC G qD rD u.2.2.2.2.2.2.1 ++ (wdU G qV u.2.2.2.2.2.2.2.1 ++ (wdT G qT u.2.2.2.2.2.2.2.2.1 ++ (wdM G qM u.2.2.2.2.2.2.2.2.2)))))))))) (wr := wdR G qR u.2.1 ++ (wdS G qS u.2.2.1 ++ (wdS G qP u.2.2.2.1 ++ (wdC G qC rC u.2.2.2.2.1 ++ (wdC G qD rD u.2.2.2.2.2.2.1 ++ (wdU G qV u.2.2.2.2.2.2.2.1 ++ (wdT G qT u.2.2.2.2.2.2.2.2.1 ++ (wdM G qM u.2.2.2.2.2.2.2.2.2)))))))) [0, 1, 2, 3, 43, 44, 45, 46, 47, 48, 49, 50, 51] [4, 5, 6, 7, 8, 9, 10, 11, 12, 13, 14, 15, 16, 17, 18, 19, 20, 21, 22, 23, 24, 25, 26, 27, 28, 29, 30, 31, 32, 33, 34, 35, 36, 37, 38, 39, 40, 41, 42, 52, 53, 54, 55, 56, 57, 58, 59, 60, 61, 62, 63, 64, 65, 66, 67, 68, 69, 70, 71, 72, 73, 74, 75, 76, 77, 78, 79, 80, 81, 82, 83, 84, 85, 86, 87, 88, 89, 90, 91, 92, 93, 94, 95, 96, 97, 98, 99, 100, 101, 102, 103, 104, 105, 106, 107, 108, 109, 110] [98, 99, 100, 101, 0, 1, 2, 3, 4, 5, 6, 7, 8, 9, 10, 11, 12, 13, 14, 15, 16, 17, 18, 19, 20, 21, 22, 23, 24, 25, 26, 27, 28, 29, 30, 31, 32, 33, 34, 35, 36, 37, 38, 102, 103, 104, 105, 106, 107, 108, 109, 110, 39, 40, 41, 42, 43, 44, 45, 46, 47, 48, 49, 50, 51, 52, 53, 54, 55, 56, 57, 58, 59, 60, 61, 62, 63, 64, 65, 66, 67, 68, 69, 70, 71, 72, 73, 74, 75, 76, 77, 78, 79, 80, 81, 82, 83, 84, 85, 86, 87, 88, 89, 90, 91, 92, 93, 94, 95, 96, 97] rfl rfl rfl rfl (by decide) rfl rfl) 0 rfl dL_law_670 (Nat.le_of_ble_eq_true rfl) (zrmL rfl (by omega) (by omega)) ?_
  refine z_aload_n C dL_law_673 2 rfl ?_
  refine z_aload_n C dL_law_674 0 rfl ?_
  refine z_iload_n C dL_law_675 3 rfl ?_
  refine z_iconst C 1 dL_law_676 (by decide) ?_
  refine z_iadd C dL_law_677 ?_
  refine z_sld C hX hbl hbA hL (6 * k + 1) (by omega) (znI k 1 (by decide)) dL_law_678 ?_
  refine z_aload_n C dL_law_679 0 rfl ?_
  refine z_iload_n C dL_law_680 3 rfl ?_
  refine z_iconst C 2 dL_law_681 (by decide) ?_
  refine z_iadd C dL_law_682 ?_
  refine z_sld C hX hbl hbA hL (6 * k + 2) (by omega) (znI k 2 (by decide)) dL_law_683 ?_
  obtain ⟨y2, hy2, h⟩ := bind_o h
  refine rw_c_L_81 C (Ct.frame (cM_end hy2) (w := wdX G qX qR qS qP qC qU qD qV qT u.1 ++ (wdR G qR u.2.1 ++ (wdS G qS u.2.2.1 ++ (wdS G qP u.2.2.2.1 ++ (wdC G qC rC u.2.2.2.2.1 ++ (wdU G qU u.2.2.2.2.2.1 ++ (wdC G qD rD u.2.2.2.2.2.2.1 ++ (wdU G qV u.2.2.2.2.2.2.2.1 ++ (wdT G qT u.2.2.2.2.2.2.2.2.1 ++ (wdM G qM u.2.2.2.2.2.2.2.2.2)))))))))) (w' := wdX G qX qR qS qP qC qU qD qV qT u.1 ++ (wdR G qR u.2.1 ++ (wdS G qS u.2.2.1 ++ (wdS G qP u.2.2.2.1 ++ (wdC G qC rC u.2.2.2.2.1 ++ (wdU G qU u.2.2.2.2.2.1 ++ (wdC G qD rD u.2.2.2.2.2.2.1 ++ (wdU G qV u.2.2.2.2.2.2.2.1 ++ (wdT G qT u.2.2.2.2.2.2.2.2.1 ++ (wdM G qM y2.2)))))))))) (wr := wdX G qX qR qS qP qC qU qD qV qT u.1 ++ (wdR G qR u.2.1 ++ (wdS G qS u.2.2.1 ++ (wdS G qP u.2.2.2.1 ++ (wdC G qC rC u.2.2.2.2.1 ++ (wdU G qU u.2.2.2.2.2.1 ++ (wdC G qD rD u.2.2.2.2.2.2.1 ++ (wdU G qV u.2.2.2.2.2.2.2.1 ++ (wdT G qT u.2.2.2.2.2.2.2.2.1))))))))) [78, 79, 80, 81, 82, 83, 84, 85, 86, 87, 88, 89, 90, 91, 92, 93, 94, 95, 96, 97, 98, 99, 100, 101, 102, 103, 104, 105, 106, 107, 108, 109, 110] [0, 1, 2, 3, 4, 5, 6, 7, 8, 9, 10, 11, 12, 13, 14, 15, 16, 17, 18, 19, 20, 21, 22, 23, 24, 25, 26, 27, 28, 29, 30, 31, 32, 33, 34, 35, 36, 37, 38, 39, 40, 41, 42, 43, 44, 45, 46, 47, 48, 49, 50, 51, 52, 53, 54, 55, 56, 57, 58, 59, 60, 61, 62, 63, 64, 65, 66, 67, 68, 69, 70, 71, 72, 73, 74, 75, 76, 77] [0, 1, 2, 3, 4, 5, 6, 7, 8, 9, 10, 11, 12, 13, 14, 15, 16, 17, 18, 19, 20, 21, 22, 23, 24, 25, 26, 27, 28, 29, 30, 31, 32, 33, 34, 35, 36, 37, 38, 39, 40, 41, 42, 43, 44, 45, 46, 47, 48, 49, 50, 51, 52, 53, 54, 55, 56, 57, 58, 59, 60, 61, 62, 63, 64, 65, 66, 67, 68, 69, 70, 71, 72, 73, 74, 75, 76, 77, 78, 79, 80, 81, 82, 83, 84, 85, 86, 87, 88, 89, 90, 91, 92, 93, 94, 95, 96, 97, 98, 99, 100, 101, 102, 103, 104, 105, 106, 107, 108, 109, 110] rfl rfl rfl rfl (by decide) rfl rfl) 78 rfl dL_law_684 (Nat.le_of_ble_eq_true rfl) (zrmL rfl (by show ce + 0 ≤ 6000; omega) (by show sl + 0 ≤ 60000; omega)) ?_
  replace h := Option.some.inj h
  have he := of_decide_eq_true (congrArg Prod.fst h)
  have hu := congrArg Prod.snd h
  subst hu
  refine z_lcmp_eq C dL_law_687 dL_law_688 937 (by decide) (p := some ()) (q := none) (o := ()) (dd := inferInstance) (if_pos he) (fun _ => ?_) (fun h => by cases h)
  refine z_wide (ce' := ce + 1) (sl' := sl + 3) (by show ce + 0 + 0 ≤ ce + 1; omega) (by show sl + 0 + 0 ≤ sl + 3; omega) ?_
  exact K qS qP rC rD
set_option maxHeartbeats 4000000 in
set_option maxRecDepth 100000 in
theorem law_beside {x : zX} {G : zG} {qX qR qS qP qC qU qD qV qT qM : Nat → Nat} {rC rD b L k : Nat} {sc : Nat → Int32} {ce sl : Nat} {u u' : zLS} (C : zC x G RL cL_law 4 (some .boolean) room_1) (hX : va_X b L sc (xs x) (xs x).heap) (hbl : b < (xs x).heap.size) (hbA : ¬ xA x b) (hL : L ≤ 3072) (hk : 6 * k + 6 ≤ L) (hce : ce ≤ 5000) (hsl : sl ≤ 50000) (h : ls_beside (sc (6 * k + 1)) (sc (6 * k + 2)) (sc (6 * k + 3)) u = some (true, u')) (K : ∀ (qS' qP' : Nat → Nat) (rC' rD' : Nat), zW x G (ce + 1) (sl + 3) 937 [(0, .ref b), (1, .ref (qX 0)), (2, .ref (qM 0)), (3, .int (nI (6 * k)))] [] (wdX G qX qR qS' qP' qC qU qD qV qT u'.1 ++ (wdR G qR u'.2.1 ++ (wdS G qS' u'.2.2.1 ++ (wdS G qP' u'.2.2.2.1 ++ (wdC G qC rC' u'.2.2.2.2.1 ++ (wdU G qU u'.2.2.2.2.2.1 ++ (wdC G qD rD' u'.2.2.2.2.2.2.1 ++ (wdU G qV u'.2.2.2.2.2.2.2.1 ++ (wdT G qT u'.2.2.2.2.2.2.2.2.1 ++ (wdM G qM u'.2.2.2.2.2.2.2.2.2))))))))))) : zW x G ce sl 693 [(0, .ref b), (1, .ref (qX 0)), (2, .ref (qM 0)), (3, .int (nI (6 * k)))] [] (wdX G qX qR qS qP qC qU qD qV qT u.1 ++ (wdR G qR u.2.1 ++ (wdS G qS u.2.2.1 ++ (wdS G qP u.2.2.2.1 ++ (wdC G qC rC u.2.2.2.2.1 ++ (wdU G qU u.2.2.2.2.2.1 ++ (wdC G qD rD u.2.2.2.2.2.2.1 ++ (wdU G qV u.2.2.2.2.2.2.2.1 ++ (wdT G qT u.2.2.2.2.2.2.2.2.1 ++ (wdM G qM u.2.2.2.2.2.2.2.2.2)))))))))) := by
  unfold ls_beside at h
  refine z_aload_n C dL_law_693 1 rfl ?_
  refine z_aload_n C dL_law_694 0 rfl ?_
  refine z_iload_n C dL_law_695 3 rfl ?_
  refine z_iconst C 1 dL_law_696 (by decide) ?_
  refine z_iadd C dL_law_697 ?_
  refine z_sld C hX hbl hbA hL (6 * k + 1) (by omega) (znI k 1 (by decide)) dL_law_698 ?_
  refine z_aload_n C dL_law_699 0 rfl ?_
  refine z_iload_n C dL_law_700 3 rfl ?_
  refine z_iconst C 2 dL_law_701 (by decide) ?_
  refine z_iadd C dL_law_702 ?_
  refine z_sld C hX hbl hbA hL (6 * k + 2) (by omega) (znI k 2 (by decide)) dL_law_703 ?_
  refine z_aload_n C dL_law_704 0 rfl ?_
  refine z_iload_n C dL_law_705 3 rfl ?_
  refine z_iconst C 3 dL_law_706 (by decide) ?_
  refine z_iadd C dL_law_707 ?_
  refine z_sld C hX hbl hbA hL (6 * k + 3) (by omega) (znI k 3 (by decide)) dL_law_708 ?_
  obtain ⟨y1, hy1, h⟩ := bind_o h
  refine rw_c_L_82 C (Ctr.frame (cX_beside hy1) (w := wdX G qX qR qS qP qC qU qD qV qT u.1 ++ (wdR G qR u.2.1 ++ (wdS G qS u.2.2.1 ++ (wdS G qP u.2.2.2.1 ++ (wdC G qC rC u.2.2.2.2.1 ++ (wdU G qU u.2.2.2.2.2.1 ++ (wdC G qD rD u.2.2.2.2.2.2.1 ++ (wdU G qV u.2.2.2.2.2.2.2.1 ++ (wdT G qT u.2.2.2.2.2.2.2.2.1 ++ (wdM G qM u.2.2.2.2.2.2.2.2.2)))))))))) (w' := fun z : Nat => wdX G qX qR qS qP qC qU qD qV qT u.1 ++ (wdR G qR u.2.1 ++ (wdS G qS u.2.2.1 ++ (wdS G qP u.2.2.2.1 ++ (wdC G qC rC u.2.2.2.2.1 ++ (wdU G qU u.2.2.2.2.2.1 ++ (wdC G qD z y1.2.1 ++ (wdU G qV y1.2.2 ++ (wdT G qT u.2.2.2.2.2.2.2.2.1 ++ (wdM G qM u.2.2.2.2.2.2.2.2.2)))))))))) (wr := wdR G qR u.2.1 ++ (wdS G qP u.2.2.2.1 ++ (wdC G qC rC u.2.2.2.2.1 ++ (wdU G qU u.2.2.2.2.2.1 ++ (wdT G qT u.2.2.2.2.2.2.2.2.1 ++ (wdM G qM u.2.2.2.2.2.2.2.2.2)))))) [0, 1, 2, 3, 6, 7, 8, 9, 10, 11, 12, 13, 14, 15, 16, 52, 53, 54, 55, 56, 57, 58, 59, 60, 61, 62, 63, 64, 65, 66, 67, 68, 69, 70, 71, 72, 73, 74, 75] [4, 5, 17, 18, 19, 20, 21, 22, 23, 24, 25, 26, 27, 28, 29, 30, 31, 32, 33, 34, 35, 36, 37, 38, 39, 40, 41, 42, 43, 44, 45, 46, 47, 48, 49, 50, 51, 76, 77, 78, 79, 80, 81, 82, 83, 84, 85, 86, 87, 88, 89, 90, 91, 92, 93, 94, 95, 96, 97, 98, 99, 100, 101, 102, 103, 104, 105, 106, 107, 108, 109, 110] [72, 73, 74, 75, 0, 1, 76, 77, 78, 79, 80, 81, 82, 83, 84, 85, 86, 2, 3, 4, 5, 6, 7, 8, 9, 10, 11, 12, 13, 14, 15, 16, 17, 18, 19, 20, 21, 22, 23, 24, 25, 26, 27, 28, 29, 30, 31, 32, 33, 34, 35, 36, 87, 88, 89, 90, 91, 92, 93, 94, 95, 96, 97, 98, 99, 100, 101, 102, 103, 104, 105, 106, 107, 108, 109, 110, 37, 38, 39, 40, 41, 42, 43, 44, 45, 46, 47, 48, 49, 50, 51, 52, 53, 54, 55, 56, 57, 58, 59, 60, 61, 62, 63, 64, 65, 66, 67, 68, 69, 70, 71] rfl rfl rfl rfl (by decide) (fun _ => rfl) rfl) 0 rfl dL_law_709 (Nat.le_of_ble_eq_true rfl) (zrmL rfl (by omega) (by omega)) (fun z1 => ?_)
  refine z_aload_n C dL_law_712 2 rfl ?_
  refine z_aload_n C dL_law_713 0 rfl ?_
  refine z_iload_n C dL_law_714 3 rfl ?_
  refine z_iconst C 1 dL_law_715 (by decide) ?_
  refine z_iadd C dL_law_716 ?_
  refine z_sld C hX hbl hbA hL (6 * k + 1) (by omega) (znI k 1 (by decide)) dL_law_717 ?_
  refine z_aload_n C dL_law_718 0 rfl ?_
  refine z_iload_n C dL_law_719 3 rfl ?_
  refine z_iconst C 2 dL_law_720 (by decide) ?_
  refine z_iadd C dL_law_721 ?_
  refine z_sld C hX hbl hbA hL (6 * k + 2) (by omega) (znI k 2 (by decide)) dL_law_722 ?_
  refine z_aload_n C dL_law_723 0 rfl ?_
  refine z_iload_n C dL_law_724 3 rfl ?_
  refine z_iconst C 3 dL_law_725 (by decide) ?_
  refine z_iadd C dL_law_726 ?_
  refine z_sld C hX hbl hbA hL (6 * k + 3) (by omega) (znI k 3 (by decide)) dL_law_727 ?_
  obtain ⟨y2, hy2, h⟩ := bind_o h
  refine rw_c_L_85 C (Ct.frame (cM_beside hy2) (w := wdX G qX qR qS qP qC qU qD qV qT u.1 ++ (wdR G qR u.2.1 ++ (wdS G qS u.2.2.1 ++ (wdS G qP u.2.2.2.1 ++ (wdC G qC rC u.2.2.2.2.1 ++ (wdU G qU u.2.2.2.2.2.1 ++ (wdC G qD z1 y1.2.1 ++ (wdU G qV y1.2.2 ++ (wdT G qT u.2.2.2.2.2.2.2.2.1 ++ (wdM G qM u.2.2.2.2.2.2.2.2.2)))))))))) (w' := wdX G qX qR qS qP qC qU qD qV qT u.1 ++ (wdR G qR u.2.1 ++ (wdS G qS u.2.2.1 ++ (wdS G qP u.2.2.2.1 ++ (wdC G qC rC u.2.2.2.2.1 ++ (wdU G qU u.2.2.2.2.2.1 ++ (wdC G qD z1 y1.2.1 ++ (wdU G qV y1.2.2 ++ (wdT G qT u.2.2.2.2.2.2.2.2.1 ++ (wdM G qM y2.2)))))))))) (wr := wdX G qX qR qS qP qC qU qD qV qT u.1 ++ (wdR G qR u.2.1 ++ (wdS G qS u.2.2.1 ++ (wdS G qP u.2.2.2.1 ++ (wdC G qC rC u.2.2.2.2.1 ++ (wdU G qU u.2.2.2.2.2.1 ++ (wdC G qD z1 y1.2.1 ++ (wdU G qV y1.2.2 ++ (wdT G qT u.2.2.2.2.2.2.2.2.1))))))))) [78, 79, 80, 81, 82, 83, 84, 85, 86, 87, 88, 89, 90, 91, 92, 93, 94, 95, 96, 97, 98, 99, 100, 101, 102, 103, 104, 105, 106, 107, 108, 109, 110] [0, 1, 2, 3, 4, 5, 6, 7, 8, 9, 10, 11, 12, 13, 14, 15, 16, 17, 18, 19, 20, 21, 22, 23, 24, 25, 26, 27, 28, 29, 30, 31, 32, 33, 34, 35, 36, 37, 38, 39, 40, 41, 42, 43, 44, 45, 46, 47, 48, 49, 50, 51, 52, 53, 54, 55, 56, 57, 58, 59, 60, 61, 62, 63, 64, 65, 66, 67, 68, 69, 70, 71, 72, 73, 74, 75, 76, 77] [0, 1, 2, 3, 4, 5, 6, 7, 8, 9, 10, 11, 12, 13, 14, 15, 16, 17, 18, 19, 20, 21, 22, 23, 24, 25, 26, 27, 28, 29, 30, 31, 32, 33, 34, 35, 36, 37, 38, 39, 40, 41, 42, 43, 44, 45, 46, 47, 48, 49, 50, 51, 52, 53, 54, 55, 56, 57, 58, 59, 60, 61, 62, 63, 64, 65, 66, 67, 68, 69, 70, 71, 72, 73, 74, 75, 76, 77, 78, 79, 80, 81, 82, 83, 84, 85, 86, 87, 88, 89, 90, 91, 92, 93, 94, 95, 96, 97, 98, 99, 100, 101, 102, 103, 104, 105, 106, 107, 108, 109, 110] rfl rfl rfl rfl (by decide) rfl rfl) 78 rfl dL_law_728 (Nat.le_of_ble_eq_true rfl) (zrmL rfl (by show ce + 0 ≤ 6000; omega) (by show sl + 0 ≤ 60000; omega)) ?_
  replace h := Option.some.inj h
  have he := of_decide_eq_true (congrArg Prod.fst h)
  have hu := congrArg Prod.snd h
  subst hu
  refine z_lcmp_eq C dL_law_731 dL_law_732 937 (by decide) (p := some ()) (q := none) (o := ()) (dd := inferInstance) (if_pos he) (fun _ => ?_) (fun h => by cases h)
  refine z_wide (ce' := ce + 1) (sl' := sl + 3) (by show ce + 0 + 0 ≤ ce + 1; omega) (by show sl + 0 + 0 ≤ sl + 3; omega) ?_
  exact K qS qP rC z1
set_option maxHeartbeats 4000000 in
set_option maxRecDepth 100000 in
theorem law_hangs {x : zX} {G : zG} {qX qR qS qP qC qU qD qV qT qM : Nat → Nat} {rC rD b L k : Nat} {sc : Nat → Int32} {ce sl : Nat} {u u' : zLS} (C : zC x G RL cL_law 4 (some .boolean) room_1) (hX : va_X b L sc (xs x) (xs x).heap) (hbl : b < (xs x).heap.size) (hbA : ¬ xA x b) (hL : L ≤ 3072) (hk : 6 * k + 6 ≤ L) (hce : ce ≤ 5000) (hsl : sl ≤ 50000) (h : ls_hangs  u = some (true, u')) (K : ∀ (qS' qP' : Nat → Nat) (rC' rD' : Nat), zW x G (ce + 1) (sl + 3) 937 [(0, .ref b), (1, .ref (qX 0)), (2, .ref (qM 0)), (3, .int (nI (6 * k)))] [] (wdX G qX qR qS' qP' qC qU qD qV qT u'.1 ++ (wdR G qR u'.2.1 ++ (wdS G qS' u'.2.2.1 ++ (wdS G qP' u'.2.2.2.1 ++ (wdC G qC rC' u'.2.2.2.2.1 ++ (wdU G qU u'.2.2.2.2.2.1 ++ (wdC G qD rD' u'.2.2.2.2.2.2.1 ++ (wdU G qV u'.2.2.2.2.2.2.2.1 ++ (wdT G qT u'.2.2.2.2.2.2.2.2.1 ++ (wdM G qM u'.2.2.2.2.2.2.2.2.2))))))))))) : zW x G ce sl 737 [(0, .ref b), (1, .ref (qX 0)), (2, .ref (qM 0)), (3, .int (nI (6 * k)))] [] (wdX G qX qR qS qP qC qU qD qV qT u.1 ++ (wdR G qR u.2.1 ++ (wdS G qS u.2.2.1 ++ (wdS G qP u.2.2.2.1 ++ (wdC G qC rC u.2.2.2.2.1 ++ (wdU G qU u.2.2.2.2.2.1 ++ (wdC G qD rD u.2.2.2.2.2.2.1 ++ (wdU G qV u.2.2.2.2.2.2.2.1 ++ (wdT G qT u.2.2.2.2.2.2.2.2.1 ++ (wdM G qM u.2.2.2.2.2.2.2.2.2)))))))))) := by
  unfold ls_hangs at h
  refine z_aload_n C dL_law_737 1 rfl ?_
  obtain ⟨y1, hy1, h⟩ := bind_o h
  refine rw_c_L_86 C (Ctr.frame (cX_hangs hy1) (w := wdX G qX qR qS qP qC qU qD qV qT u.1 ++ (wdR G qR u.2.1 ++ (wdS G qS u.2.2.1 ++ (wdS G qP u.2.2.2.1 ++ (wdC G qC rC u.2.2.2.2.1 ++ (wdU G qU u.2.2.2.2.2.1 ++ (wdC G qD rD u.2.2.2.2.2.2.1 ++ (wdU G qV u.2.2.2.2.2.2.2.1 ++ (wdT G qT u.2.2.2.2.2.2.2.2.1 ++ (wdM G qM u.2.2.2.2.2.2.2.2.2)))))))))) (w' := fun z : Nat => wdX G qX qR qS qP qC qU qD qV qT u.1 ++ (wdR G qR u.2.1 ++ (wdS G qS u.2.2.1 ++ (wdS G qP u.2.2.2.1 ++ (wdC G qC rC u.2.2.2.2.1 ++ (wdU G qU u.2.2.2.2.2.1 ++ (wdC G qD z y1.2.1 ++ (wdU G qV y1.2.2 ++ (wdT G qT u.2.2.2.2.2.2.2.2.1 ++ (wdM G qM u.2.2.2.2.2.2.2.2.2)))))))))) (wr := wdR G qR u.2.1 ++ (wdS G qP u.2.2.2.1 ++ (wdC G qC rC u.2.2.2.2.1 ++ (wdT G qT u.2.2.2.2.2.2.2.2.1 ++ (wdM G qM u.2.2.2.2.2.2.2.2.2))))) [0, 1, 2, 3, 6, 7, 8, 9, 10, 11, 12, 13, 14, 15, 16, 43, 44, 45, 46, 47, 48, 49, 50, 51, 52, 53, 54, 55, 56, 57, 58, 59, 60, 61, 62, 63, 64, 65, 66, 67, 68, 69, 70, 71, 72, 73, 74, 75] [4, 5, 17, 18, 19, 20, 21, 22, 23, 24, 25, 26, 27, 28, 29, 30, 31, 32, 33, 34, 35, 36, 37, 38, 39, 40, 41, 42, 76, 77, 78, 79, 80, 81, 82, 83, 84, 85, 86, 87, 88, 89, 90, 91, 92, 93, 94, 95, 96, 97, 98, 99, 100, 101, 102, 103, 104, 105, 106, 107, 108, 109, 110] [63, 64, 65, 66, 0, 1, 67, 68, 69, 70, 71, 72, 73, 74, 75, 76, 77, 2, 3, 4, 5, 6, 7, 8, 9, 10, 11, 12, 13, 14, 15, 16, 17, 18, 19, 20, 21, 22, 23, 24, 25, 26, 27, 78, 79, 80, 81, 82, 83, 84, 85, 86, 87, 88, 89, 90, 91, 92, 93, 94, 95, 96, 97, 98, 99, 100, 101, 102, 103, 104, 105, 106, 107, 108, 109, 110, 28, 29, 30, 31, 32, 33, 34, 35, 36, 37, 38, 39, 40, 41, 42, 43, 44, 45, 46, 47, 48, 49, 50, 51, 52, 53, 54, 55, 56, 57, 58, 59, 60, 61, 62] rfl rfl rfl rfl (by decide) (fun _ => rfl) rfl) 0 rfl dL_law_738 (Nat.le_of_ble_eq_true rfl) (zrmL rfl (by omega) (by omega)) (fun z1 => ?_)
  refine z_aload_n C dL_law_741 2 rfl ?_
  obtain ⟨y2, hy2, h⟩ := bind_o h
  refine rw_c_L_89 C (Ct.frame (cM_hangs hy2) (w := wdX G qX qR qS qP qC qU qD qV qT u.1 ++ (wdR G qR u.2.1 ++ (wdS G qS u.2.2.1 ++ (wdS G qP u.2.2.2.1 ++ (wdC G qC rC u.2.2.2.2.1 ++ (wdU G qU u.2.2.2.2.2.1 ++ (wdC G qD z1 y1.2.1 ++ (wdU G qV y1.2.2 ++ (wdT G qT u.2.2.2.2.2.2.2.2.1 ++ (wdM G qM u.2.2.2.2.2.2.2.2.2)))))))))) (w' := wdX G qX qR qS qP qC qU qD qV qT u.1 ++ (wdR G qR u.2.1 ++ (wdS G qS u.2.2.1 ++ (wdS G qP u.2.2.2.1 ++ (wdC G qC rC u.2.2.2.2.1 ++ (wdU G qU u.2.2.2.2.2.1 ++ (wdC G qD z1 y1.2.1 ++ (wdU G qV y1.2.2 ++ (wdT G qT u.2.2.2.2.2.2.2.2.1 ++ (wdM G qM y2.2)))))))))) (wr := wdX G qX qR qS qP qC qU qD qV qT u.1 ++ (wdR G qR u.2.1 ++ (wdS G qS u.2.2.1 ++ (wdS G qP u.2.2.2.1 ++ (wdC G qC rC u.2.2.2.2.1 ++ (wdU G qU u.2.2.2.2.2.1 ++ (wdC G qD z1 y1.2.1 ++ (wdU G qV y1.2.2 ++ (wdT G qT u.2.2.2.2.2.2.2.2.1))))))))) [78, 79, 80, 81, 82, 83, 84, 85, 86, 87, 88, 89, 90, 91, 92, 93, 94, 95, 96, 97, 98, 99, 100, 101, 102, 103, 104, 105, 106, 107, 108, 109, 110] [0, 1, 2, 3, 4, 5, 6, 7, 8, 9, 10, 11, 12, 13, 14, 15, 16, 17, 18, 19, 20, 21, 22, 23, 24, 25, 26, 27, 28, 29, 30, 31, 32, 33, 34, 35, 36, 37, 38, 39, 40, 41, 42, 43, 44, 45, 46, 47, 48, 49, 50, 51, 52, 53, 54, 55, 56, 57, 58, 59, 60, 61, 62, 63, 64, 65, 66, 67, 68, 69, 70, 71, 72, 73, 74, 75, 76, 77] [0, 1, 2, 3, 4, 5, 6, 7, 8, 9, 10, 11, 12, 13, 14, 15, 16, 17, 18, 19, 20, 21, 22, 23, 24, 25, 26, 27, 28, 29, 30, 31, 32, 33, 34, 35, 36, 37, 38, 39, 40, 41, 42, 43, 44, 45, 46, 47, 48, 49, 50, 51, 52, 53, 54, 55, 56, 57, 58, 59, 60, 61, 62, 63, 64, 65, 66, 67, 68, 69, 70, 71, 72, 73, 74, 75, 76, 77, 78, 79, 80, 81, 82, 83, 84, 85, 86, 87, 88, 89, 90, 91, 92, 93, 94, 95, 96, 97, 98, 99, 100, 101, 102, 103, 104, 105, 106, 107, 108, 109, 110] rfl rfl rfl rfl (by decide) rfl rfl) 78 rfl dL_law_742 (Nat.le_of_ble_eq_true rfl) (zrmL rfl (by show ce + 0 ≤ 6000; omega) (by show sl + 0 ≤ 60000; omega)) ?_
  replace h := Option.some.inj h
  have he := of_decide_eq_true (congrArg Prod.fst h)
  have hu := congrArg Prod.snd h
  subst hu
  refine z_lcmp_eq C dL_law_745 dL_law_746 937 (by decide) (p := some ()) (q := none) (o := ()) (dd := inferInstance) (if_pos he) (fun _ => ?_) (fun h => by cases h)
  refine z_wide (ce' := ce + 1) (sl' := sl + 3) (by show ce + 0 + 0 ≤ ce + 1; omega) (by show sl + 0 + 0 ≤ sl + 3; omega) ?_
  exact K qS qP rC z1
set_option maxHeartbeats 4000000 in
set_option maxRecDepth 100000 in
theorem law_beforehand {x : zX} {G : zG} {qX qR qS qP qC qU qD qV qT qM : Nat → Nat} {rC rD b L k : Nat} {sc : Nat → Int32} {ce sl : Nat} {u u' : zLS} (C : zC x G RL cL_law 4 (some .boolean) room_1) (hX : va_X b L sc (xs x) (xs x).heap) (hbl : b < (xs x).heap.size) (hbA : ¬ xA x b) (hL : L ≤ 3072) (hk : 6 * k + 6 ≤ L) (hce : ce ≤ 5000) (hsl : sl ≤ 50000) (h : ls_beforehand (sc (6 * k + 1)) (sc (6 * k + 2)) u = some (true, u')) (K : ∀ (qS' qP' : Nat → Nat) (rC' rD' : Nat), zW x G (ce + 1) (sl + 3) 937 [(0, .ref b), (1, .ref (qX 0)), (2, .ref (qM 0)), (3, .int (nI (6 * k)))] [] (wdX G qX qR qS' qP' qC qU qD qV qT u'.1 ++ (wdR G qR u'.2.1 ++ (wdS G qS' u'.2.2.1 ++ (wdS G qP' u'.2.2.2.1 ++ (wdC G qC rC' u'.2.2.2.2.1 ++ (wdU G qU u'.2.2.2.2.2.1 ++ (wdC G qD rD' u'.2.2.2.2.2.2.1 ++ (wdU G qV u'.2.2.2.2.2.2.2.1 ++ (wdT G qT u'.2.2.2.2.2.2.2.2.1 ++ (wdM G qM u'.2.2.2.2.2.2.2.2.2))))))))))) : zW x G ce sl 751 [(0, .ref b), (1, .ref (qX 0)), (2, .ref (qM 0)), (3, .int (nI (6 * k)))] [] (wdX G qX qR qS qP qC qU qD qV qT u.1 ++ (wdR G qR u.2.1 ++ (wdS G qS u.2.2.1 ++ (wdS G qP u.2.2.2.1 ++ (wdC G qC rC u.2.2.2.2.1 ++ (wdU G qU u.2.2.2.2.2.1 ++ (wdC G qD rD u.2.2.2.2.2.2.1 ++ (wdU G qV u.2.2.2.2.2.2.2.1 ++ (wdT G qT u.2.2.2.2.2.2.2.2.1 ++ (wdM G qM u.2.2.2.2.2.2.2.2.2)))))))))) := by
  unfold ls_beforehand at h
  refine z_aload_n C dL_law_751 1 rfl ?_
  refine z_aload_n C dL_law_752 0 rfl ?_
  refine z_iload_n C dL_law_753 3 rfl ?_
  refine z_iconst C 1 dL_law_754 (by decide) ?_
  refine z_iadd C dL_law_755 ?_
  refine z_sld C hX hbl hbA hL (6 * k + 1) (by omega) (znI k 1 (by decide)) dL_law_756 ?_
  refine z_aload_n C dL_law_757 0 rfl ?_
  refine z_iload_n C dL_law_758 3 rfl ?_
  refine z_iconst C 2 dL_law_759 (by decide) ?_
  refine z_iadd C dL_law_760 ?_
  refine z_sld C hX hbl hbA hL (6 * k + 2) (by omega) (znI k 2 (by decide)) dL_law_761 ?_
  obtain ⟨y1, hy1, h⟩ := bind_o h
  refine rw_c_L_90 C (Ctr.frame (cX_beforehand hy1) (w := wdX G qX qR qS qP qC qU qD qV qT u.1 ++ (wdR G qR u.2.1 ++ (wdS G qS u.2.2.1 ++ (wdS G qP u.2.2.2.1 ++ (wdC G qC rC u.2.2.2.2.1 ++ (wdU G qU u.2.2.2.2.2.1 ++ (wdC G qD rD u.2.2.2.2.2.2.1 ++ (wdU G qV u.2.2.2.2.2.2.2.1 ++ (wdT G qT u.2.2.2.2.2.2.2.2.1 ++ (wdM G qM u.2.2.2.2.2.2.2.2.2)))))))))) (w' := fun z : Nat => wdX G qX qR qS qP qC qU qD qV qT u.1 ++ (wdR G qR u.2.1 ++ (wdS G qS u.2.2.1 ++ (wdS G qP u.2.2.2.1 ++ (wdC G qC rC u.2.2.2.2.1 ++ (wdU G qU u.2.2.2.2.2.1 ++ (wdC G qD z y1.2.1 ++ (wdU G qV y1.2.2 ++ (wdT G qT u.2.2.2.2.2.2.2.2.1 ++ (wdM G qM u.2.2.2.2.2.2.2.2.2)))))))))) (wr := wdR G qR u.2.1 ++ (wdS G qP u.2.2.2.1 ++ (wdC G qC rC u.2.2.2.2.1 ++ (wdT G qT u.2.2.2.2.2.2.2.2.1 ++ (wdM G qM u.2.2.2.2.2.2.2.2.2))))) [0, 1, 2, 3, 6, 7, 8, 9, 10, 11, 12, 13, 14, 15, 16, 43, 44, 45, 46, 47, 48, 49, 50, 51, 52, 53, 54, 55, 56, 57, 58, 59, 60, 61, 62, 63, 64, 65, 66, 67, 68, 69, 70, 71, 72, 73, 74, 75] [4, 5, 17, 18, 19, 20, 21, 22, 23, 24, 25, 26, 27, 28, 29, 30, 31, 32, 33, 34, 35, 36, 37, 38, 39, 40, 41, 42, 76, 77, 78, 79, 80, 81, 82, 83, 84, 85, 86, 87, 88, 89, 90, 91, 92, 93, 94, 95, 96, 97, 98, 99, 100, 101, 102, 103, 104, 105, 106, 107, 108, 109, 110] [63, 64, 65, 66, 0, 1, 67, 68, 69, 70, 71, 72, 73, 74, 75, 76, 77, 2, 3, 4, 5, 6, 7, 8, 9, 10, 11, 12, 13, 14, 15, 16, 17, 18, 19, 20, 21, 22, 23, 24, 25, 26, 27, 78, 79, 80, 81, 82, 83, 84, 85, 86, 87, 88, 89, 90, 91, 92, 93, 94, 95, 96, 97, 98, 99, 100, 101, 102, 103, 104, 105, 106, 107, 108, 109, 110, 28, 29, 30, 31, 32, 33, 34, 35, 36, 37, 38, 39, 40, 41, 42, 43, 44, 45, 46, 47, 48, 49, 50, 51, 52, 53, 54, 55, 56, 57, 58, 59, 60, 61, 62] rfl rfl rfl rfl (by decide) (fun _ => rfl) rfl) 0 rfl dL_law_762 (Nat.le_of_ble_eq_true rfl) (zrmL rfl (by omega) (by omega)) (fun z1 => ?_)
  refine z_aload_n C dL_law_765 2 rfl ?_
  refine z_aload_n C dL_law_766 0 rfl ?_
  refine z_iload_n C dL_law_767 3 rfl ?_
  refine z_iconst C 1 dL_law_768 (by decide) ?_
  refine z_iadd C dL_law_769 ?_
  refine z_sld C hX hbl hbA hL (6 * k + 1) (by omega) (znI k 1 (by decide)) dL_law_770 ?_
  refine z_aload_n C dL_law_771 0 rfl ?_
  refine z_iload_n C dL_law_772 3 rfl ?_
  refine z_iconst C 2 dL_law_773 (by decide) ?_
  refine z_iadd C dL_law_774 ?_
  refine z_sld C hX hbl hbA hL (6 * k + 2) (by omega) (znI k 2 (by decide)) dL_law_775 ?_
  obtain ⟨y2, hy2, h⟩ := bind_o h
  refine rw_c_L_93 C (Ct.frame (cM_beforehand hy2) (w := wdX G qX qR qS qP qC qU qD qV qT u.1 ++ (wdR G qR u.2.1 ++ (wdS G qS u.2.2.1 ++ (wdS G qP u.2.2.2.1 ++ (wdC G qC rC u.2.2.2.2.1 ++ (wdU G qU u.2.2.2.2.2.1 ++ (wdC G qD z1 y1.2.1 ++ (wdU G qV y1.2.2 ++ (wdT G qT u.2.2.2.2.2.2.2.2.1 ++ (wdM G qM u.2.2.2.2.2.2.2.2.2)))))))))) (w' := wdX G qX qR qS qP qC qU qD qV qT u.1 ++ (wdR G qR u.2.1 ++ (wdS G qS u.2.2.1 ++ (wdS G qP u.2.2.2.1 ++ (wdC G qC rC u.2.2.2.2.1 ++ (wdU G qU u.2.2.2.2.2.1 ++ (wdC G qD z1 y1.2.1 ++ (wdU G qV y1.2.2 ++ (wdT G qT u.2.2.2.2.2.2.2.2.1 ++ (wdM G qM y2.2)))))))))) (wr := wdX G qX qR qS qP qC qU qD qV qT u.1 ++ (wdR G qR u.2.1 ++ (wdS G qS u.2.2.1 ++ (wdS G qP u.2.2.2.1 ++ (wdC G qC rC u.2.2.2.2.1 ++ (wdU G qU u.2.2.2.2.2.1 ++ (wdC G qD z1 y1.2.1 ++ (wdU G qV y1.2.2 ++ (wdT G qT u.2.2.2.2.2.2.2.2.1))))))))) [78, 79, 80, 81, 82, 83, 84, 85, 86, 87, 88, 89, 90, 91, 92, 93, 94, 95, 96, 97, 98, 99, 100, 101, 102, 103, 104, 105, 106, 107, 108, 109, 110] [0, 1, 2, 3, 4, 5, 6, 7, 8, 9, 10, 11, 12, 13, 14, 15, 16, 17, 18, 19, 20, 21, 22, 23, 24, 25, 26, 27, 28, 29, 30, 31, 32, 33, 34, 35, 36, 37, 38, 39, 40, 41, 42, 43, 44, 45, 46, 47, 48, 49, 50, 51, 52, 53, 54, 55, 56, 57, 58, 59, 60, 61, 62, 63, 64, 65, 66, 67, 68, 69, 70, 71, 72, 73, 74, 75, 76, 77] [0, 1, 2, 3, 4, 5, 6, 7, 8, 9, 10, 11, 12, 13, 14, 15, 16, 17, 18, 19, 20, 21, 22, 23, 24, 25, 26, 27, 28, 29, 30, 31, 32, 33, 34, 35, 36, 37, 38, 39, 40, 41, 42, 43, 44, 45, 46, 47, 48, 49, 50, 51, 52, 53, 54, 55, 56, 57, 58, 59, 60, 61, 62, 63, 64, 65, 66, 67, 68, 69, 70, 71, 72, 73, 74, 75, 76, 77, 78, 79, 80, 81, 82, 83, 84, 85, 86, 87, 88, 89, 90, 91, 92, 93, 94, 95, 96, 97, 98, 99, 100, 101, 102, 103, 104, 105, 106, 107, 108, 109, 110] rfl rfl rfl rfl (by decide) rfl rfl) 78 rfl dL_law_776 (Nat.le_of_ble_eq_true rfl) (zrmL rfl (by show ce + 0 ≤ 6000; omega) (by show sl + 0 ≤ 60000; omega)) ?_
  replace h := Option.some.inj h
  have he := of_decide_eq_true (congrArg Prod.fst h)
  have hu := congrArg Prod.snd h
  subst hu
  refine z_lcmp_eq C dL_law_779 dL_law_780 937 (by decide) (p := some ()) (q := none) (o := ()) (dd := inferInstance) (if_pos he) (fun _ => ?_) (fun h => by cases h)
  refine z_wide (ce' := ce + 1) (sl' := sl + 3) (by show ce + 0 + 0 ≤ ce + 1; omega) (by show sl + 0 + 0 ≤ sl + 3; omega) ?_
  exact K qS qP rC z1
set_option maxHeartbeats 4000000 in
set_option maxRecDepth 100000 in
theorem law_kind {x : zX} {G : zG} {qX qR qS qP qC qU qD qV qT qM : Nat → Nat} {rC rD b L k : Nat} {sc : Nat → Int32} {ce sl : Nat} {u u' : zLS} (C : zC x G RL cL_law 4 (some .boolean) room_1) (hX : va_X b L sc (xs x) (xs x).heap) (hbl : b < (xs x).heap.size) (hbA : ¬ xA x b) (hL : L ≤ 3072) (hk : 6 * k + 6 ≤ L) (hce : ce ≤ 5000) (hsl : sl ≤ 50000) (h : ls_kind (sc (6 * k + 1)) u = some (true, u')) (K : ∀ (qS' qP' : Nat → Nat) (rC' rD' : Nat), zW x G (ce + 1) (sl + 3) 937 [(0, .ref b), (1, .ref (qX 0)), (2, .ref (qM 0)), (3, .int (nI (6 * k)))] [] (wdX G qX qR qS' qP' qC qU qD qV qT u'.1 ++ (wdR G qR u'.2.1 ++ (wdS G qS' u'.2.2.1 ++ (wdS G qP' u'.2.2.2.1 ++ (wdC G qC rC' u'.2.2.2.2.1 ++ (wdU G qU u'.2.2.2.2.2.1 ++ (wdC G qD rD' u'.2.2.2.2.2.2.1 ++ (wdU G qV u'.2.2.2.2.2.2.2.1 ++ (wdT G qT u'.2.2.2.2.2.2.2.2.1 ++ (wdM G qM u'.2.2.2.2.2.2.2.2.2))))))))))) : zW x G ce sl 785 [(0, .ref b), (1, .ref (qX 0)), (2, .ref (qM 0)), (3, .int (nI (6 * k)))] [] (wdX G qX qR qS qP qC qU qD qV qT u.1 ++ (wdR G qR u.2.1 ++ (wdS G qS u.2.2.1 ++ (wdS G qP u.2.2.2.1 ++ (wdC G qC rC u.2.2.2.2.1 ++ (wdU G qU u.2.2.2.2.2.1 ++ (wdC G qD rD u.2.2.2.2.2.2.1 ++ (wdU G qV u.2.2.2.2.2.2.2.1 ++ (wdT G qT u.2.2.2.2.2.2.2.2.1 ++ (wdM G qM u.2.2.2.2.2.2.2.2.2)))))))))) := by
  unfold ls_kind at h
  refine z_aload_n C dL_law_785 1 rfl ?_
  refine z_aload_n C dL_law_786 0 rfl ?_
  refine z_iload_n C dL_law_787 3 rfl ?_
  refine z_iconst C 1 dL_law_788 (by decide) ?_
  refine z_iadd C dL_law_789 ?_
  refine z_sld C hX hbl hbA hL (6 * k + 1) (by omega) (znI k 1 (by decide)) dL_law_790 ?_
  obtain ⟨y1, hy1, h⟩ := bind_o h
  refine rw_c_L_94 C (Ct.frame (cX_kind hy1) (w := wdX G qX qR qS qP qC qU qD qV qT u.1 ++ (wdR G qR u.2.1 ++ (wdS G qS u.2.2.1 ++ (wdS G qP u.2.2.2.1 ++ (wdC G qC rC u.2.2.2.2.1 ++ (wdU G qU u.2.2.2.2.2.1 ++ (wdC G qD rD u.2.2.2.2.2.2.1 ++ (wdU G qV u.2.2.2.2.2.2.2.1 ++ (wdT G qT u.2.2.2.2.2.2.2.2.1 ++ (wdM G qM u.2.2.2.2.2.2.2.2.2)))))))))) (w' := wdX G qX qR qS qP qC qU qD qV qT u.1 ++ (wdR G qR u.2.1 ++ (wdS G qS u.2.2.1 ++ (wdS G qP u.2.2.2.1 ++ (wdC G qC rC u.2.2.2.2.1 ++ (wdU G qU u.2.2.2.2.2.1 ++ (wdC G qD rD u.2.2.2.2.2.2.1 ++ (wdU G qV u.2.2.2.2.2.2.2.1 ++ (wdT G qT u.2.2.2.2.2.2.2.2.1 ++ (wdM G qM u.2.2.2.2.2.2.2.2.2)))))))))) (wr := wdR G qR u.2.1 ++ (wdS G qP u.2.2.2.1 ++ (wdU G qU u.2.2.2.2.2.1 ++ (wdC G qD rD u.2.2.2.2.2.2.1 ++ (wdU G qV u.2.2.2.2.2.2.2.1 ++ (wdM G qM u.2.2.2.2.2.2.2.2.2)))))) [0, 1, 2, 3, 6, 7, 8, 9, 10, 11, 12, 13, 14, 15, 16, 28, 29, 30, 31, 32, 33, 34, 35, 36, 37, 38, 39, 40, 41, 42, 76, 77] [4, 5, 17, 18, 19, 20, 21, 22, 23, 24, 25, 26, 27, 43, 44, 45, 46, 47, 48, 49, 50, 51, 52, 53, 54, 55, 56, 57, 58, 59, 60, 61, 62, 63, 64, 65, 66, 67, 68, 69, 70, 71, 72, 73, 74, 75, 78, 79, 80, 81, 82, 83, 84, 85, 86, 87, 88, 89, 90, 91, 92, 93, 94, 95, 96, 97, 98, 99, 100, 101, 102, 103, 104, 105, 106, 107, 108, 109, 110] [79, 80, 81, 82, 0, 1, 83, 84, 85, 86, 87, 88, 89, 90, 91, 92, 93, 2, 3, 4, 5, 6, 7, 8, 9, 10, 11, 12, 94, 95, 96, 97, 98, 99, 100, 101, 102, 103, 104, 105, 106, 107, 108, 13, 14, 15, 16, 17, 18, 19, 20, 21, 22, 23, 24, 25, 26, 27, 28, 29, 30, 31, 32, 33, 34, 35, 36, 37, 38, 39, 40, 41, 42, 43, 44, 45, 109, 110, 46, 47, 48, 49, 50, 51, 52, 53, 54, 55, 56, 57, 58, 59, 60, 61, 62, 63, 64, 65, 66, 67, 68, 69, 70, 71, 72, 73, 74, 75, 76, 77, 78] rfl rfl rfl rfl (by decide) rfl rfl) 0 rfl dL_law_791 (Nat.le_of_ble_eq_true rfl) (zrmL rfl (by omega) (by omega)) ?_
  refine z_aload_n C dL_law_794 2 rfl ?_
  refine z_aload_n C dL_law_795 0 rfl ?_
  refine z_iload_n C dL_law_796 3 rfl ?_
  refine z_iconst C 1 dL_law_797 (by decide) ?_
  refine z_iadd C dL_law_798 ?_
  refine z_sld C hX hbl hbA hL (6 * k + 1) (by omega) (znI k 1 (by decide)) dL_law_799 ?_
  obtain ⟨y2, hy2, h⟩ := bind_o h
  refine rw_c_L_97 C (Ct.frame (cM_kind hy2) (w := wdX G qX qR qS qP qC qU qD qV qT u.1 ++ (wdR G qR u.2.1 ++ (wdS G qS u.2.2.1 ++ (wdS G qP u.2.2.2.1 ++ (wdC G qC rC u.2.2.2.2.1 ++ (wdU G qU u.2.2.2.2.2.1 ++ (wdC G qD rD u.2.2.2.2.2.2.1 ++ (wdU G qV u.2.2.2.2.2.2.2.1 ++ (wdT G qT u.2.2.2.2.2.2.2.2.1 ++ (wdM G qM u.2.2.2.2.2.2.2.2.2)))))))))) (w' := wdX G qX qR qS qP qC qU qD qV qT u.1 ++ (wdR G qR u.2.1 ++ (wdS G qS u.2.2.1 ++ (wdS G qP u.2.2.2.1 ++ (wdC G qC rC u.2.2.2.2.1 ++ (wdU G qU u.2.2.2.2.2.1 ++ (wdC G qD rD u.2.2.2.2.2.2.1 ++ (wdU G qV u.2.2.2.2.2.2.2.1 ++ (wdT G qT u.2.2.2.2.2.2.2.2.1 ++ (wdM G qM y2.2)))))))))) (wr := wdX G qX qR qS qP qC qU qD qV qT u.1 ++ (wdR G qR u.2.1 ++ (wdS G qS u.2.2.1 ++ (wdS G qP u.2.2.2.1 ++ (wdC G qC rC u.2.2.2.2.1 ++ (wdU G qU u.2.2.2.2.2.1 ++ (wdC G qD rD u.2.2.2.2.2.2.1 ++ (wdU G qV u.2.2.2.2.2.2.2.1 ++ (wdT G qT u.2.2.2.2.2.2.2.2.1))))))))) [78, 79, 80, 81, 82, 83, 84, 85, 86, 87, 88, 89, 90, 91, 92, 93, 94, 95, 96, 97, 98, 99, 100, 101, 102, 103, 104, 105, 106, 107, 108, 109, 110] [0, 1, 2, 3, 4, 5, 6, 7, 8, 9, 10, 11, 12, 13, 14, 15, 16, 17, 18, 19, 20, 21, 22, 23, 24, 25, 26, 27, 28, 29, 30, 31, 32, 33, 34, 35, 36, 37, 38, 39, 40, 41, 42, 43, 44, 45, 46, 47, 48, 49, 50, 51, 52, 53, 54, 55, 56, 57, 58, 59, 60, 61, 62, 63, 64, 65, 66, 67, 68, 69, 70, 71, 72, 73, 74, 75, 76, 77] [0, 1, 2, 3, 4, 5, 6, 7, 8, 9, 10, 11, 12, 13, 14, 15, 16, 17, 18, 19, 20, 21, 22, 23, 24, 25, 26, 27, 28, 29, 30, 31, 32, 33, 34, 35, 36, 37, 38, 39, 40, 41, 42, 43, 44, 45, 46, 47, 48, 49, 50, 51, 52, 53, 54, 55, 56, 57, 58, 59, 60, 61, 62, 63, 64, 65, 66, 67, 68, 69, 70, 71, 72, 73, 74, 75, 76, 77, 78, 79, 80, 81, 82, 83, 84, 85, 86, 87, 88, 89, 90, 91, 92, 93, 94, 95, 96, 97, 98, 99, 100, 101, 102, 103, 104, 105, 106, 107, 108, 109, 110] rfl rfl rfl rfl (by decide) rfl rfl) 78 rfl dL_law_800 (Nat.le_of_ble_eq_true rfl) (zrmL rfl (by show ce + 1 ≤ 6000; omega) (by show sl + 3 ≤ 60000; omega)) ?_
  replace h := Option.some.inj h
  have he := of_decide_eq_true (congrArg Prod.fst h)
  have hu := congrArg Prod.snd h
  subst hu
  refine z_lcmp_eq C dL_law_803 dL_law_804 937 (by decide) (p := some ()) (q := none) (o := ()) (dd := inferInstance) (if_pos he) (fun _ => ?_) (fun h => by cases h)
  refine z_wide (ce' := ce + 1) (sl' := sl + 3) (by show ce + 1 + 0 ≤ ce + 1; omega) (by show sl + 3 + 0 ≤ sl + 3; omega) ?_
  exact K qS qP rC rD
set_option maxHeartbeats 4000000 in
set_option maxRecDepth 100000 in
theorem law_as {x : zX} {G : zG} {qX qR qS qP qC qU qD qV qT qM : Nat → Nat} {rC rD b L k : Nat} {sc : Nat → Int32} {ce sl : Nat} {u u' : zLS} (C : zC x G RL cL_law 4 (some .boolean) room_1) (hX : va_X b L sc (xs x) (xs x).heap) (hbl : b < (xs x).heap.size) (hbA : ¬ xA x b) (hL : L ≤ 3072) (hk : 6 * k + 6 ≤ L) (hce : ce ≤ 5000) (hsl : sl ≤ 50000) (h : ls_as (sc (6 * k + 1)) (sc (6 * k + 2)) u = some (true, u')) (K : ∀ (qS' qP' : Nat → Nat) (rC' rD' : Nat), zW x G (ce + 1) (sl + 3) 937 [(0, .ref b), (1, .ref (qX 0)), (2, .ref (qM 0)), (3, .int (nI (6 * k)))] [] (wdX G qX qR qS' qP' qC qU qD qV qT u'.1 ++ (wdR G qR u'.2.1 ++ (wdS G qS' u'.2.2.1 ++ (wdS G qP' u'.2.2.2.1 ++ (wdC G qC rC' u'.2.2.2.2.1 ++ (wdU G qU u'.2.2.2.2.2.1 ++ (wdC G qD rD' u'.2.2.2.2.2.2.1 ++ (wdU G qV u'.2.2.2.2.2.2.2.1 ++ (wdT G qT u'.2.2.2.2.2.2.2.2.1 ++ (wdM G qM u'.2.2.2.2.2.2.2.2.2))))))))))) : zW x G ce sl 809 [(0, .ref b), (1, .ref (qX 0)), (2, .ref (qM 0)), (3, .int (nI (6 * k)))] [] (wdX G qX qR qS qP qC qU qD qV qT u.1 ++ (wdR G qR u.2.1 ++ (wdS G qS u.2.2.1 ++ (wdS G qP u.2.2.2.1 ++ (wdC G qC rC u.2.2.2.2.1 ++ (wdU G qU u.2.2.2.2.2.1 ++ (wdC G qD rD u.2.2.2.2.2.2.1 ++ (wdU G qV u.2.2.2.2.2.2.2.1 ++ (wdT G qT u.2.2.2.2.2.2.2.2.1 ++ (wdM G qM u.2.2.2.2.2.2.2.2.2)))))))))) := by
  unfold ls_as at h
  refine z_aload_n C dL_law_809 1 rfl ?_
  refine z_aload_n C dL_law_810 0 rfl ?_
  refine z_iload_n C dL_law_811 3 rfl ?_
  refine z_iconst C 1 dL_law_812 (by decide) ?_
  refine z_iadd C dL_law_813 ?_
  refine z_sld C hX hbl hbA hL (6 * k + 1) (by omega) (znI k 1 (by decide)) dL_law_814 ?_
  refine z_aload_n C dL_law_815 0 rfl ?_
  refine z_iload_n C dL_law_816 3 rfl ?_
  refine z_iconst C 2 dL_law_817 (by decide) ?_
  refine z_iadd C dL_law_818 ?_
  refine z_sld C hX hbl hbA hL (6 * k + 2) (by omega) (znI k 2 (by decide)) dL_law_819 ?_
  obtain ⟨y1, hy1, h⟩ := bind_o h
  refine rw_c_L_98 C (Ct.frame (cX_as hy1) (w := wdX G qX qR qS qP qC qU qD qV qT u.1 ++ (wdR G qR u.2.1 ++ (wdS G qS u.2.2.1 ++ (wdS G qP u.2.2.2.1 ++ (wdC G qC rC u.2.2.2.2.1 ++ (wdU G qU u.2.2.2.2.2.1 ++ (wdC G qD rD u.2.2.2.2.2.2.1 ++ (wdU G qV u.2.2.2.2.2.2.2.1 ++ (wdT G qT u.2.2.2.2.2.2.2.2.1 ++ (wdM G qM u.2.2.2.2.2.2.2.2.2)))))))))) (w' := wdX G qX qR qS qP qC qU qD qV qT y1.2 ++ (wdR G qR u.2.1 ++ (wdS G qS u.2.2.1 ++ (wdS G qP u.2.2.2.1 ++ (wdC G qC rC u.2.2.2.2.1 ++ (wdU G qU u.2.2.2.2.2.1 ++ (wdC G qD rD u.2.2.2.2.2.2.1 ++ (wdU G qV u.2.2.2.2.2.2.2.1 ++ (wdT G qT u.2.2.2.2.2.2.2.2.1 ++ (wdM G qM u.2.2.2.2.2.2.2.2.2)))))))))) (wr := wdR G qR u.2.1 ++ (wdS G qP u.2.2.2.1 ++ (wdU G qU u.2.2.2.2.2.1 ++ (wdC G qD rD u.2.2.2.2.2.2.1 ++ (wdU G qV u.2.2.2.2.2.2.2.1 ++ (wdM G qM u.2.2.2.2.2.2.2.2.2)))))) [0, 1, 2, 3, 6, 7, 8, 9, 10, 11, 12, 13, 14, 15, 16, 28, 29, 30, 31, 32, 33, 34, 35, 36, 37, 38, 39, 40, 41, 42, 76, 77] [4, 5, 17, 18, 19, 20, 21, 22, 23, 24, 25, 26, 27, 43, 44, 45, 46, 47, 48, 49, 50, 51, 52, 53, 54, 55, 56, 57, 58, 59, 60, 61, 62, 63, 64, 65, 66, 67, 68, 69, 70, 71, 72, 73, 74, 75, 78, 79, 80, 81, 82, 83, 84, 85, 86, 87, 88, 89, 90, 91, 92, 93, 94, 95, 96, 97, 98, 99, 100, 101, 102, 103, 104, 105, 106, 107, 108, 109, 110] [79, 80, 81, 82, 0, 1, 83, 84, 85, 86, 87, 88, 89, 90, 91, 92, 93, 2, 3, 4, 5, 6, 7, 8, 9, 10, 11, 12, 94, 95, 96, 97, 98, 99, 100, 101, 102, 103, 104, 105, 106, 107, 108, 13, 14, 15, 16, 17, 18, 19, 20, 21, 22, 23, 24, 25, 26, 27, 28, 29, 30, 31, 32, 33, 34, 35, 36, 37, 38, 39, 40, 41, 42, 43, 44, 45, 109, 110, 46, 47, 48, 49, 50, 51, 52, 53, 54, 55, 56, 57, 58, 59, 60, 61, 62, 63, 64, 65, 66, 67, 68, 69, 70, 71, 72, 73, 74, 75, 76, 77, 78] rfl rfl rfl rfl (by decide) rfl rfl) 0 rfl dL_law_820 (Nat.le_of_ble_eq_true rfl) (zrmL rfl (by omega) (by omega)) ?_
  refine z_aload_n C dL_law_823 2 rfl ?_
  refine z_aload_n C dL_law_824 0 rfl ?_
  refine z_iload_n C dL_law_825 3 rfl ?_
  refine z_iconst C 1 dL_law_826 (by decide) ?_
  refine z_iadd C dL_law_827 ?_
  refine z_sld C hX hbl hbA hL (6 * k + 1) (by omega) (znI k 1 (by decide)) dL_law_828 ?_
  refine z_aload_n C dL_law_829 0 rfl ?_
  refine z_iload_n C dL_law_830 3 rfl ?_
  refine z_iconst C 2 dL_law_831 (by decide) ?_
  refine z_iadd C dL_law_832 ?_
  refine z_sld C hX hbl hbA hL (6 * k + 2) (by omega) (znI k 2 (by decide)) dL_law_833 ?_
  obtain ⟨y2, hy2, h⟩ := bind_o h
  refine rw_c_L_101 C (Ct.frame (cM_as hy2) (w := wdX G qX qR qS qP qC qU qD qV qT y1.2 ++ (wdR G qR u.2.1 ++ (wdS G qS u.2.2.1 ++ (wdS G qP u.2.2.2.1 ++ (wdC G qC rC u.2.2.2.2.1 ++ (wdU G qU u.2.2.2.2.2.1 ++ (wdC G qD rD u.2.2.2.2.2.2.1 ++ (wdU G qV u.2.2.2.2.2.2.2.1 ++ (wdT G qT u.2.2.2.2.2.2.2.2.1 ++ (wdM G qM u.2.2.2.2.2.2.2.2.2)))))))))) (w' := wdX G qX qR qS qP qC qU qD qV qT y1.2 ++ (wdR G qR u.2.1 ++ (wdS G qS u.2.2.1 ++ (wdS G qP u.2.2.2.1 ++ (wdC G qC rC u.2.2.2.2.1 ++ (wdU G qU u.2.2.2.2.2.1 ++ (wdC G qD rD u.2.2.2.2.2.2.1 ++ (wdU G qV u.2.2.2.2.2.2.2.1 ++ (wdT G qT u.2.2.2.2.2.2.2.2.1 ++ (wdM G qM y2.2)))))))))) (wr := wdX G qX qR qS qP qC qU qD qV qT y1.2 ++ (wdR G qR u.2.1 ++ (wdS G qS u.2.2.1 ++ (wdS G qP u.2.2.2.1 ++ (wdC G qC rC u.2.2.2.2.1 ++ (wdU G qU u.2.2.2.2.2.1 ++ (wdC G qD rD u.2.2.2.2.2.2.1 ++ (wdU G qV u.2.2.2.2.2.2.2.1 ++ (wdT G qT u.2.2.2.2.2.2.2.2.1))))))))) [78, 79, 80, 81, 82, 83, 84, 85, 86, 87, 88, 89, 90, 91, 92, 93, 94, 95, 96, 97, 98, 99, 100, 101, 102, 103, 104, 105, 106, 107, 108, 109, 110] [0, 1, 2, 3, 4, 5, 6, 7, 8, 9, 10, 11, 12, 13, 14, 15, 16, 17, 18, 19, 20, 21, 22, 23, 24, 25, 26, 27, 28, 29, 30, 31, 32, 33, 34, 35, 36, 37, 38, 39, 40, 41, 42, 43, 44, 45, 46, 47, 48, 49, 50, 51, 52, 53, 54, 55, 56, 57, 58, 59, 60, 61, 62, 63, 64, 65, 66, 67, 68, 69, 70, 71, 72, 73, 74, 75, 76, 77] [0, 1, 2, 3, 4, 5, 6, 7, 8, 9, 10, 11, 12, 13, 14, 15, 16, 17, 18, 19, 20, 21, 22, 23, 24, 25, 26, 27, 28, 29, 30, 31, 32, 33, 34, 35, 36, 37, 38, 39, 40, 41, 42, 43, 44, 45, 46, 47, 48, 49, 50, 51, 52, 53, 54, 55, 56, 57, 58, 59, 60, 61, 62, 63, 64, 65, 66, 67, 68, 69, 70, 71, 72, 73, 74, 75, 76, 77, 78, 79, 80, 81, 82, 83, 84, 85, 86, 87, 88, 89, 90, 91, 92, 93, 94, 95, 96, 97, 98, 99, 100, 101, 102, 103, 104, 105, 106, 107, 108, 109, 110] rfl rfl rfl rfl (by decide) rfl rfl) 78 rfl dL_law_834 (Nat.le_of_ble_eq_true rfl) (zrmL rfl (by show ce + 1 ≤ 6000; omega) (by show sl + 3 ≤ 60000; omega)) ?_
  replace h := Option.some.inj h
  have he := of_decide_eq_true (congrArg Prod.fst h)
  have hu := congrArg Prod.snd h
  subst hu
  refine z_lcmp_eq C dL_law_837 dL_law_838 937 (by decide) (p := some ()) (q := none) (o := ()) (dd := inferInstance) (if_pos he) (fun _ => ?_) (fun h => by cases h)
  refine z_wide (ce' := ce + 1) (sl' := sl + 3) (by show ce + 1 + 0 ≤ ce + 1; omega) (by show sl + 3 + 0 ≤ sl + 3; omega) ?_
  exact K qS qP rC rD
set_option maxHeartbeats 4000000 in
set_option maxRecDepth 100000 in
theorem law_ask {x : zX} {G : zG} {qX qR qS qP qC qU qD qV qT qM : Nat → Nat} {rC rD b L k : Nat} {sc : Nat → Int32} {ce sl : Nat} {u u' : zLS} (C : zC x G RL cL_law 4 (some .boolean) room_1) (hX : va_X b L sc (xs x) (xs x).heap) (hbl : b < (xs x).heap.size) (hbA : ¬ xA x b) (hL : L ≤ 3072) (hk : 6 * k + 6 ≤ L) (hce : ce ≤ 5000) (hsl : sl ≤ 50000) (h : ls_ask (sc (6 * k + 1)) (sc (6 * k + 2)) u = some (true, u')) (K : ∀ (qS' qP' : Nat → Nat) (rC' rD' : Nat), zW x G (ce + 1) (sl + 3) 937 [(0, .ref b), (1, .ref (qX 0)), (2, .ref (qM 0)), (3, .int (nI (6 * k)))] [] (wdX G qX qR qS' qP' qC qU qD qV qT u'.1 ++ (wdR G qR u'.2.1 ++ (wdS G qS' u'.2.2.1 ++ (wdS G qP' u'.2.2.2.1 ++ (wdC G qC rC' u'.2.2.2.2.1 ++ (wdU G qU u'.2.2.2.2.2.1 ++ (wdC G qD rD' u'.2.2.2.2.2.2.1 ++ (wdU G qV u'.2.2.2.2.2.2.2.1 ++ (wdT G qT u'.2.2.2.2.2.2.2.2.1 ++ (wdM G qM u'.2.2.2.2.2.2.2.2.2))))))))))) : zW x G ce sl 843 [(0, .ref b), (1, .ref (qX 0)), (2, .ref (qM 0)), (3, .int (nI (6 * k)))] [] (wdX G qX qR qS qP qC qU qD qV qT u.1 ++ (wdR G qR u.2.1 ++ (wdS G qS u.2.2.1 ++ (wdS G qP u.2.2.2.1 ++ (wdC G qC rC u.2.2.2.2.1 ++ (wdU G qU u.2.2.2.2.2.1 ++ (wdC G qD rD u.2.2.2.2.2.2.1 ++ (wdU G qV u.2.2.2.2.2.2.2.1 ++ (wdT G qT u.2.2.2.2.2.2.2.2.1 ++ (wdM G qM u.2.2.2.2.2.2.2.2.2)))))))))) := by
  unfold ls_ask at h
  refine z_aload_n C dL_law_843 1 rfl ?_
  refine z_aload_n C dL_law_844 0 rfl ?_
  refine z_iload_n C dL_law_845 3 rfl ?_
  refine z_iconst C 1 dL_law_846 (by decide) ?_
  refine z_iadd C dL_law_847 ?_
  refine z_sld C hX hbl hbA hL (6 * k + 1) (by omega) (znI k 1 (by decide)) dL_law_848 ?_
  refine z_aload_n C dL_law_849 0 rfl ?_
  refine z_iload_n C dL_law_850 3 rfl ?_
  refine z_iconst C 2 dL_law_851 (by decide) ?_
  refine z_iadd C dL_law_852 ?_
  refine z_sld C hX hbl hbA hL (6 * k + 2) (by omega) (znI k 2 (by decide)) dL_law_853 ?_
  obtain ⟨y1, hy1, h⟩ := bind_o h
  refine rw_c_L_102 C (Ct.frame (cX_ask hy1) (w := wdX G qX qR qS qP qC qU qD qV qT u.1 ++ (wdR G qR u.2.1 ++ (wdS G qS u.2.2.1 ++ (wdS G qP u.2.2.2.1 ++ (wdC G qC rC u.2.2.2.2.1 ++ (wdU G qU u.2.2.2.2.2.1 ++ (wdC G qD rD u.2.2.2.2.2.2.1 ++ (wdU G qV u.2.2.2.2.2.2.2.1 ++ (wdT G qT u.2.2.2.2.2.2.2.2.1 ++ (wdM G qM u.2.2.2.2.2.2.2.2.2)))))))))) (w' := wdX G qX qR qS qP qC qU qD qV qT u.1 ++ (wdR G qR u.2.1 ++ (wdS G qS u.2.2.1 ++ (wdS G qP u.2.2.2.1 ++ (wdC G qC rC u.2.2.2.2.1 ++ (wdU G qU u.2.2.2.2.2.1 ++ (wdC G qD rD u.2.2.2.2.2.2.1 ++ (wdU G qV u.2.2.2.2.2.2.2.1 ++ (wdT G qT y1.2 ++ (wdM G qM u.2.2.2.2.2.2.2.2.2)))))))))) (wr := wdR G qR u.2.1 ++ (wdS G qP u.2.2.2.1 ++ (wdU G qU u.2.2.2.2.2.1 ++ (wdC G qD rD u.2.2.2.2.2.2.1 ++ (wdU G qV u.2.2.2.2.2.2.2.1 ++ (wdM G qM u.2.2.2.2.2.2.2.2.2)))))) [0, 1, 2, 3, 6, 7, 8, 9, 10, 11, 12, 13, 14, 15, 16, 28, 29, 30, 31, 32, 33, 34, 35, 36, 37, 38, 39, 40, 41, 42, 76, 77] [4, 5, 17, 18, 19, 20, 21, 22, 23, 24, 25, 26, 27, 43, 44, 45, 46, 47, 48, 49, 50, 51, 52, 53, 54, 55, 56, 57, 58, 59, 60, 61, 62, 63, 64, 65, 66, 67, 68, 69, 70, 71, 72, 73, 74, 75, 78, 79, 80, 81, 82, 83, 84, 85, 86, 87, 88, 89, 90, 91, 92, 93, 94, 95, 96, 97, 98, 99, 100, 101, 102, 103, 104, 105, 106, 107, 108, 109, 110] [79, 80, 81, 82, 0, 1, 83, 84, 85, 86, 87, 88, 89, 90, 91, 92, 93, 2, 3, 4, 5, 6, 7, 8, 9, 10, 11, 12, 94, 95, 96, 97, 98, 99, 100, 101, 102, 103, 104, 105, 106, 107, 108, 13, 14, 15, 16, 17, 18, 19, 20, 21, 22, 23, 24, 25, 26, 27, 28, 29, 30, 31, 32, 33, 34, 35, 36, 37, 38, 39, 40, 41, 42, 43, 44, 45, 109, 110, 46, 47, 48, 49, 50, 51, 52, 53, 54, 55, 56, 57, 58, 59, 60, 61, 62, 63, 64, 65, 66, 67, 68, 69, 70, 71, 72, 73, 74, 75, 76, 77, 78] rfl rfl rfl rfl (by decide) rfl rfl) 0 rfl dL_law_854 (Nat.le_of_ble_eq_true rfl) (zrmL rfl (by omega) (by omega)) ?_
  refine z_aload_n C dL_law_857 2 rfl ?_
  refine z_aload_n C dL_law_858 0 rfl ?_
  refine z_iload_n C dL_law_859 3 rfl ?_
  refine z_iconst C 1 dL_law_860 (by decide) ?_
  refine z_iadd C dL_law_861 ?_
  refine z_sld C hX hbl hbA hL (6 * k + 1) (by omega) (znI k 1 (by decide)) dL_law_862 ?_
  refine z_aload_n C dL_law_863 0 rfl ?_
  refine z_iload_n C dL_law_864 3 rfl ?_
  refine z_iconst C 2 dL_law_865 (by decide) ?_
  refine z_iadd C dL_law_866 ?_
  refine z_sld C hX hbl hbA hL (6 * k + 2) (by omega) (znI k 2 (by decide)) dL_law_867 ?_
  obtain ⟨y2, hy2, h⟩ := bind_o h
  refine rw_c_L_105 C (Ct.frame (cM_ask hy2) (w := wdX G qX qR qS qP qC qU qD qV qT u.1 ++ (wdR G qR u.2.1 ++ (wdS G qS u.2.2.1 ++ (wdS G qP u.2.2.2.1 ++ (wdC G qC rC u.2.2.2.2.1 ++ (wdU G qU u.2.2.2.2.2.1 ++ (wdC G qD rD u.2.2.2.2.2.2.1 ++ (wdU G qV u.2.2.2.2.2.2.2.1 ++ (wdT G qT y1.2 ++ (wdM G qM u.2.2.2.2.2.2.2.2.2)))))))))) (w' := wdX G qX qR qS qP qC qU qD qV qT u.1 ++ (wdR G qR u.2.1 ++ (wdS G qS u.2.2.1 ++ (wdS G qP u.2.2.2.1 ++ (wdC G qC rC u.2.2.2.2.1 ++ (wdU G qU u.2.2.2.2.2.1 ++ (wdC G qD rD u.2.2.2.2.2.2.1 ++ (wdU G qV u.2.2.2.2.2.2.2.1 ++ (wdT G qT y1.2 ++ (wdM G qM y2.2)))))))))) (wr := wdX G qX qR qS qP qC qU qD qV qT u.1 ++ (wdR G qR u.2.1 ++ (wdS G qS u.2.2.1 ++ (wdS G qP u.2.2.2.1 ++ (wdC G qC rC u.2.2.2.2.1 ++ (wdU G qU u.2.2.2.2.2.1 ++ (wdC G qD rD u.2.2.2.2.2.2.1 ++ (wdU G qV u.2.2.2.2.2.2.2.1 ++ (wdT G qT y1.2))))))))) [78, 79, 80, 81, 82, 83, 84, 85, 86, 87, 88, 89, 90, 91, 92, 93, 94, 95, 96, 97, 98, 99, 100, 101, 102, 103, 104, 105, 106, 107, 108, 109, 110] [0, 1, 2, 3, 4, 5, 6, 7, 8, 9, 10, 11, 12, 13, 14, 15, 16, 17, 18, 19, 20, 21, 22, 23, 24, 25, 26, 27, 28, 29, 30, 31, 32, 33, 34, 35, 36, 37, 38, 39, 40, 41, 42, 43, 44, 45, 46, 47, 48, 49, 50, 51, 52, 53, 54, 55, 56, 57, 58, 59, 60, 61, 62, 63, 64, 65, 66, 67, 68, 69, 70, 71, 72, 73, 74, 75, 76, 77] [0, 1, 2, 3, 4, 5, 6, 7, 8, 9, 10, 11, 12, 13, 14, 15, 16, 17, 18, 19, 20, 21, 22, 23, 24, 25, 26, 27, 28, 29, 30, 31, 32, 33, 34, 35, 36, 37, 38, 39, 40, 41, 42, 43, 44, 45, 46, 47, 48, 49, 50, 51, 52, 53, 54, 55, 56, 57, 58, 59, 60, 61, 62, 63, 64, 65, 66, 67, 68, 69, 70, 71, 72, 73, 74, 75, 76, 77, 78, 79, 80, 81, 82, 83, 84, 85, 86, 87, 88, 89, 90, 91, 92, 93, 94, 95, 96, 97, 98, 99, 100, 101, 102, 103, 104, 105, 106, 107, 108, 109, 110] rfl rfl rfl rfl (by decide) rfl rfl) 78 rfl dL_law_868 (Nat.le_of_ble_eq_true rfl) (zrmL rfl (by show ce + 1 ≤ 6000; omega) (by show sl + 3 ≤ 60000; omega)) ?_
  replace h := Option.some.inj h
  have he := of_decide_eq_true (congrArg Prod.fst h)
  have hu := congrArg Prod.snd h
  subst hu
  refine z_lcmp_eq C dL_law_871 dL_law_872 937 (by decide) (p := some ()) (q := none) (o := ()) (dd := inferInstance) (if_pos he) (fun _ => ?_) (fun h => by cases h)
  refine z_wide (ce' := ce + 1) (sl' := sl + 3) (by show ce + 1 + 0 ≤ ce + 1; omega) (by show sl + 3 + 0 ≤ sl + 3; omega) ?_
  exact K qS qP rC rD
set_option maxHeartbeats 4000000 in
set_option maxRecDepth 100000 in
theorem law_trace {x : zX} {G : zG} {qX qR qS qP qC qU qD qV qT qM : Nat → Nat} {rC rD b L k : Nat} {sc : Nat → Int32} {ce sl : Nat} {u u' : zLS} (C : zC x G RL cL_law 4 (some .boolean) room_1) (hX : va_X b L sc (xs x) (xs x).heap) (hbl : b < (xs x).heap.size) (hbA : ¬ xA x b) (hL : L ≤ 3072) (hk : 6 * k + 6 ≤ L) (hce : ce ≤ 5000) (hsl : sl ≤ 50000) (h : ls_trace (sc (6 * k + 1)) u = some (true, u')) (K : ∀ (qS' qP' : Nat → Nat) (rC' rD' : Nat), zW x G (ce + 1) (sl + 3) 937 [(0, .ref b), (1, .ref (qX 0)), (2, .ref (qM 0)), (3, .int (nI (6 * k)))] [] (wdX G qX qR qS' qP' qC qU qD qV qT u'.1 ++ (wdR G qR u'.2.1 ++ (wdS G qS' u'.2.2.1 ++ (wdS G qP' u'.2.2.2.1 ++ (wdC G qC rC' u'.2.2.2.2.1 ++ (wdU G qU u'.2.2.2.2.2.1 ++ (wdC G qD rD' u'.2.2.2.2.2.2.1 ++ (wdU G qV u'.2.2.2.2.2.2.2.1 ++ (wdT G qT u'.2.2.2.2.2.2.2.2.1 ++ (wdM G qM u'.2.2.2.2.2.2.2.2.2))))))))))) : zW x G ce sl 877 [(0, .ref b), (1, .ref (qX 0)), (2, .ref (qM 0)), (3, .int (nI (6 * k)))] [] (wdX G qX qR qS qP qC qU qD qV qT u.1 ++ (wdR G qR u.2.1 ++ (wdS G qS u.2.2.1 ++ (wdS G qP u.2.2.2.1 ++ (wdC G qC rC u.2.2.2.2.1 ++ (wdU G qU u.2.2.2.2.2.1 ++ (wdC G qD rD u.2.2.2.2.2.2.1 ++ (wdU G qV u.2.2.2.2.2.2.2.1 ++ (wdT G qT u.2.2.2.2.2.2.2.2.1 ++ (wdM G qM u.2.2.2.2.2.2.2.2.2)))))))))) := by
  unfold ls_trace at h
  refine z_aload_n C dL_law_877 1 rfl ?_
  refine z_aload_n C dL_law_878 0 rfl ?_
  refine z_iload_n C dL_law_879 3 rfl ?_
  refine z_iconst C 1 dL_law_880 (by decide) ?_
  refine z_iadd C dL_law_881 ?_
  refine z_sld C hX hbl hbA hL (6 * k + 1) (by omega) (znI k 1 (by decide)) dL_law_882 ?_
  obtain ⟨y1, hy1, h⟩ := bind_o h
  refine rw_c_L_106 C (Ct.frame (cX_trace hy1) (w := wdX G qX qR qS qP qC qU qD qV qT u.1 ++ (wdR G qR u.2.1 ++ (wdS G qS u.2.2.1 ++ (wdS G qP u.2.2.2.1 ++ (wdC G qC rC u.2.2.2.2.1 ++ (wdU G qU u.2.2.2.2.2.1 ++ (wdC G qD rD u.2.2.2.2.2.2.1 ++ (wdU G qV u.2.2.2.2.2.2.2.1 ++ (wdT G qT u.2.2.2.2.2.2.2.2.1 ++ (wdM G qM u.2.2.2.2.2.2.2.2.2)))))))))) (w' := wdX G qX qR qS qP qC qU qD qV qT u.1 ++ (wdR G qR u.2.1 ++ (wdS G qS u.2.2.1 ++ (wdS G qP u.2.2.2.1 ++ (wdC G qC rC u.2.2.2.2.1 ++ (wdU G qU u.2.2.2.2.2.1 ++ (wdC G qD rD u.2.2.2.2.2.2.1 ++ (wdU G qV u.2.2.2.2.2.2.2.1 ++ (wdT G qT u.2.2.2.2.2.2.2.2.1 ++ (wdM G qM u.2.2.2.2.2.2.2.2.2)))))))))) (wr := wdR G qR u.2.1 ++ (wdS G qS u.2.2.1 ++ (wdS G qP u.2.2.2.1 ++ (wdC G qC rC u.2.2.2.2.1 ++ (wdU G qU u.2.2.2.2.2.1 ++ (wdC G qD rD u.2.2.2.2.2.2.1 ++ (wdU G qV u.2.2.2.2.2.2.2.1 ++ (wdM G qM u.2.2.2.2.2.2.2.2.2)))))))) [0, 1, 2, 3, 76, 77] [4, 5, 6, 7, 8, 9, 10, 11, 12, 13, 14, 15, 16, 17, 18, 19, 20, 21, 22, 23, 24, 25, 26, 27, 28, 29, 30, 31, 32, 33, 34, 35, 36, 37, 38, 39, 40, 41, 42, 43, 44, 45, 46, 47, 48, 49, 50, 51, 52, 53, 54, 55, 56, 57, 58, 59, 60, 61, 62, 63, 64, 65, 66, 67, 68, 69, 70, 71, 72, 73, 74, 75, 78, 79, 80, 81, 82, 83, 84, 85, 86, 87, 88, 89, 90, 91, 92, 93, 94, 95, 96, 97, 98, 99, 100, 101, 102, 103, 104, 105, 106, 107, 108, 109, 110] [105, 106, 107, 108, 0, 1, 2, 3, 4, 5, 6, 7, 8, 9, 10, 11, 12, 13, 14, 15, 16, 17, 18, 19, 20, 21, 22, 23, 24, 25, 26, 27, 28, 29, 30, 31, 32, 33, 34, 35, 36, 37, 38, 39, 40, 41, 42, 43, 44, 45, 46, 47, 48, 49, 50, 51, 52, 53, 54, 55, 56, 57, 58, 59, 60, 61, 62, 63, 64, 65, 66, 67, 68, 69, 70, 71, 109, 110, 72, 73, 74, 75, 76, 77, 78, 79, 80, 81, 82, 83, 84, 85, 86, 87, 88, 89, 90, 91, 92, 93, 94, 95, 96, 97, 98, 99, 100, 101, 102, 103, 104] rfl rfl rfl rfl (by decide) rfl rfl) 0 rfl dL_law_883 (Nat.le_of_ble_eq_true rfl) (zrmL rfl (by omega) (by omega)) ?_
  refine z_aload_n C dL_law_886 2 rfl ?_
  refine z_aload_n C dL_law_887 0 rfl ?_
  refine z_iload_n C dL_law_888 3 rfl ?_
  refine z_iconst C 1 dL_law_889 (by decide) ?_
  refine z_iadd C dL_law_890 ?_
  refine z_sld C hX hbl hbA hL (6 * k + 1) (by omega) (znI k 1 (by decide)) dL_law_891 ?_
  obtain ⟨y2, hy2, h⟩ := bind_o h
  refine rw_c_L_110 C (Ct.frame (cM_trace hy2) (w := wdX G qX qR qS qP qC qU qD qV qT u.1 ++ (wdR G qR u.2.1 ++ (wdS G qS u.2.2.1 ++ (wdS G qP u.2.2.2.1 ++ (wdC G qC rC u.2.2.2.2.1 ++ (wdU G qU u.2.2.2.2.2.1 ++ (wdC G qD rD u.2.2.2.2.2.2.1 ++ (wdU G qV u.2.2.2.2.2.2.2.1 ++ (wdT G qT u.2.2.2.2.2.2.2.2.1 ++ (wdM G qM u.2.2.2.2.2.2.2.2.2)))))))))) (w' := wdX G qX qR qS qP qC qU qD qV qT u.1 ++ (wdR G qR u.2.1 ++ (wdS G qS u.2.2.1 ++ (wdS G qP u.2.2.2.1 ++ (wdC G qC rC u.2.2.2.2.1 ++ (wdU G qU u.2.2.2.2.2.1 ++ (wdC G qD rD u.2.2.2.2.2.2.1 ++ (wdU G qV u.2.2.2.2.2.2.2.1 ++ (wdT G qT u.2.2.2.2.2.2.2.2.1 ++ (wdM G qM y2.2)))))))))) (wr := wdX G qX qR qS qP qC qU qD qV qT u.1 ++ (wdR G qR u.2.1 ++ (wdS G qS u.2.2.1 ++ (wdS G qP u.2.2.2.1 ++ (wdC G qC rC u.2.2.2.2.1 ++ (wdU G qU u.2.2.2.2.2.1 ++ (wdC G qD rD u.2.2.2.2.2.2.1 ++ (wdU G qV u.2.2.2.2.2.2.2.1 ++ (wdT G qT u.2.2.2.2.2.2.2.2.1))))))))) [78, 79, 80, 81, 82, 83, 84, 85, 86, 87, 88, 89, 90, 91, 92, 93, 94, 95, 96, 97, 98, 99, 100, 101, 102, 103, 104, 105, 106, 107, 108, 109, 110] [0, 1, 2, 3, 4, 5, 6, 7, 8, 9, 10, 11, 12, 13, 14, 15, 16, 17, 18, 19, 20, 21, 22, 23, 24, 25, 26, 27, 28, 29, 30, 31, 32, 33, 34, 35, 36, 37, 38, 39, 40, 41, 42, 43, 44, 45, 46, 47, 48, 49, 50, 51, 52, 53, 54, 55, 56, 57, 58, 59, 60, 61, 62, 63, 64, 65, 66, 67, 68, 69, 70, 71, 72, 73, 74, 75, 76, 77] [0, 1, 2, 3, 4, 5, 6, 7, 8, 9, 10, 11, 12, 13, 14, 15, 16, 17, 18, 19, 20, 21, 22, 23, 24, 25, 26, 27, 28, 29, 30, 31, 32, 33, 34, 35, 36, 37, 38, 39, 40, 41, 42, 43, 44, 45, 46, 47, 48, 49, 50, 51, 52, 53, 54, 55, 56, 57, 58, 59, 60, 61, 62, 63, 64, 65, 66, 67, 68, 69, 70, 71, 72, 73, 74, 75, 76, 77, 78, 79, 80, 81, 82, 83, 84, 85, 86, 87, 88, 89, 90, 91, 92, 93, 94, 95, 96, 97, 98, 99, 100, 101, 102, 103, 104, 105, 106, 107, 108, 109, 110] rfl rfl rfl rfl (by decide) rfl rfl) 78 rfl dL_law_892 (Nat.le_of_ble_eq_true rfl) (zrmL rfl (by show ce + 0 ≤ 6000; omega) (by show sl + 0 ≤ 60000; omega)) ?_
  replace h := Option.some.inj h
  have he := of_decide_eq_true (congrArg Prod.fst h)
  have hu := congrArg Prod.snd h
  subst hu
  refine z_icmp_eq C dL_law_895 937 (by decide) (p := some ()) (q := none) (o := ()) (dd := inferInstance) (if_pos he) (fun _ => ?_) (fun h => by cases h)
  refine z_wide (ce' := ce + 1) (sl' := sl + 3) (by show ce + 0 + 0 ≤ ce + 1; omega) (by show sl + 0 + 0 ≤ sl + 3; omega) ?_
  exact K qS qP rC rD
set_option maxHeartbeats 4000000 in
set_option maxRecDepth 100000 in
theorem law_count {x : zX} {G : zG} {qX qR qS qP qC qU qD qV qT qM : Nat → Nat} {rC rD b L k : Nat} {sc : Nat → Int32} {ce sl : Nat} {u u' : zLS} (C : zC x G RL cL_law 4 (some .boolean) room_1) (hX : va_X b L sc (xs x) (xs x).heap) (hbl : b < (xs x).heap.size) (hbA : ¬ xA x b) (hL : L ≤ 3072) (hk : 6 * k + 6 ≤ L) (hce : ce ≤ 5000) (hsl : sl ≤ 50000) (h : ls_count (sc (6 * k + 1)) u = some (true, u')) (K : ∀ (qS' qP' : Nat → Nat) (rC' rD' : Nat), zW x G (ce + 1) (sl + 3) 937 [(0, .ref b), (1, .ref (qX 0)), (2, .ref (qM 0)), (3, .int (nI (6 * k)))] [] (wdX G qX qR qS' qP' qC qU qD qV qT u'.1 ++ (wdR G qR u'.2.1 ++ (wdS G qS' u'.2.2.1 ++ (wdS G qP' u'.2.2.2.1 ++ (wdC G qC rC' u'.2.2.2.2.1 ++ (wdU G qU u'.2.2.2.2.2.1 ++ (wdC G qD rD' u'.2.2.2.2.2.2.1 ++ (wdU G qV u'.2.2.2.2.2.2.2.1 ++ (wdT G qT u'.2.2.2.2.2.2.2.2.1 ++ (wdM G qM u'.2.2.2.2.2.2.2.2.2))))))))))) : zW x G ce sl 900 [(0, .ref b), (1, .ref (qX 0)), (2, .ref (qM 0)), (3, .int (nI (6 * k)))] [] (wdX G qX qR qS qP qC qU qD qV qT u.1 ++ (wdR G qR u.2.1 ++ (wdS G qS u.2.2.1 ++ (wdS G qP u.2.2.2.1 ++ (wdC G qC rC u.2.2.2.2.1 ++ (wdU G qU u.2.2.2.2.2.1 ++ (wdC G qD rD u.2.2.2.2.2.2.1 ++ (wdU G qV u.2.2.2.2.2.2.2.1 ++ (wdT G qT u.2.2.2.2.2.2.2.2.1 ++ (wdM G qM u.2.2.2.2.2.2.2.2.2)))))))))) := by
  unfold ls_count at h
  refine z_aload_n C dL_law_900 1 rfl ?_
  refine z_aload_n C dL_law_901 0 rfl ?_
  refine z_iload_n C dL_law_902 3 rfl ?_
  refine z_iconst C 1 dL_law_903 (by decide) ?_
  refine z_iadd C dL_law_904 ?_
  refine z_sld C hX hbl hbA hL (6 * k + 1) (by omega) (znI k 1 (by decide)) dL_law_905 ?_
  obtain ⟨y1, hy1, h⟩ := bind_o h
  refine rw_c_L_111 C (Ct.frame (cX_count hy1) (w := wdX G qX qR qS qP qC qU qD qV qT u.1 ++ (wdR G qR u.2.1 ++ (wdS G qS u.2.2.1 ++ (wdS G qP u.2.2.2.1 ++ (wdC G qC rC u.2.2.2.2.1 ++ (wdU G qU u.2.2.2.2.2.1 ++ (wdC G qD rD u.2.2.2.2.2.2.1 ++ (wdU G qV u.2.2.2.2.2.2.2.1 ++ (wdT G qT u.2.2.2.2.2.2.2.2.1 ++ (wdM G qM u.2.2.2.2.2.2.2.2.2)))))))))) (w' := wdX G qX qR qS qP qC qU qD qV qT u.1 ++ (wdR G qR u.2.1 ++ (wdS G qS u.2.2.1 ++ (wdS G qP u.2.2.2.1 ++ (wdC G qC rC u.2.2.2.2.1 ++ (wdU G qU u.2.2.2.2.2.1 ++ (wdC G qD rD u.2.2.2.2.2.2.1 ++ (wdU G qV u.2.2.2.2.2.2.2.1 ++ (wdT G qT u.2.2.2.2.2.2.2.2.1 ++ (wdM G qM u.2.2.2.2.2.2.2.2.2)))))))))) (wr := wdS G qP u.2.2.2.1 ++ (wdU G qU u.2.2.2.2.2.1 ++ (wdC G qD rD u.2.2.2.2.2.2.1 ++ (wdU G qV u.2.2.2.2.2.2.2.1 ++ (wdT G qT u.2.2.2.2.2.2.2.2.1 ++ (wdM G qM u.2.2.2.2.2.2.2.2.2)))))) [0, 1, 2, 3, 4, 5, 6, 7, 8, 9, 10, 11, 12, 13, 14, 15, 16, 28, 29, 30, 31, 32, 33, 34, 35, 36, 37, 38, 39, 40, 41, 42] [17, 18, 19, 20, 21, 22, 23, 24, 25, 26, 27, 43, 44, 45, 46, 47, 48, 49, 50, 51, 52, 53, 54, 55, 56, 57, 58, 59, 60, 61, 62, 63, 64, 65, 66, 67, 68, 69, 70, 71, 72, 73, 74, 75, 76, 77, 78, 79, 80, 81, 82, 83, 84, 85, 86, 87, 88, 89, 90, 91, 92, 93, 94, 95, 96, 97, 98, 99, 100, 101, 102, 103, 104, 105, 106, 107, 108, 109, 110] [79, 80, 81, 82, 83, 84, 85, 86, 87, 88, 89, 90, 91, 92, 93, 94, 95, 0, 1, 2, 3, 4, 5, 6, 7, 8, 9, 10, 96, 97, 98, 99, 100, 101, 102, 103, 104, 105, 106, 107, 108, 109, 110, 11, 12, 13, 14, 15, 16, 17, 18, 19, 20, 21, 22, 23, 24, 25, 26, 27, 28, 29, 30, 31, 32, 33, 34, 35, 36, 37, 38, 39, 40, 41, 42, 43, 44, 45, 46, 47, 48, 49, 50, 51, 52, 53, 54, 55, 56, 57, 58, 59, 60, 61, 62, 63, 64, 65, 66, 67, 68, 69, 70, 71, 72, 73, 74, 75, 76, 77, 78] rfl rfl rfl rfl (by decide) rfl rfl) 0 rfl dL_law_906 (Nat.le_of_ble_eq_true rfl) (zrmL rfl (by omega) (by omega)) ?_
  refine z_aload_n C dL_law_909 2 rfl ?_
  refine z_aload_n C dL_law_910 0 rfl ?_
  refine z_iload_n C dL_law_911 3 rfl ?_
  refine z_iconst C 1 dL_law_912 (by decide) ?_
  refine z_iadd C dL_law_913 ?_
  refine z_sld C hX hbl hbA hL (6 * k + 1) (by omega) (znI k 1 (by decide)) dL_law_914 ?_
  obtain ⟨y2, hy2, h⟩ := bind_o h
  refine rw_c_L_114 C (Ct.frame (cM_count hy2) (w := wdX G qX qR qS qP qC qU qD qV qT u.1 ++ (wdR G qR u.2.1 ++ (wdS G qS u.2.2.1 ++ (wdS G qP u.2.2.2.1 ++ (wdC G qC rC u.2.2.2.2.1 ++ (wdU G qU u.2.2.2.2.2.1 ++ (wdC G qD rD u.2.2.2.2.2.2.1 ++ (wdU G qV u.2.2.2.2.2.2.2.1 ++ (wdT G qT u.2.2.2.2.2.2.2.2.1 ++ (wdM G qM u.2.2.2.2.2.2.2.2.2)))))))))) (w' := wdX G qX qR qS qP qC qU qD qV qT u.1 ++ (wdR G qR u.2.1 ++ (wdS G qS u.2.2.1 ++ (wdS G qP u.2.2.2.1 ++ (wdC G qC rC u.2.2.2.2.1 ++ (wdU G qU u.2.2.2.2.2.1 ++ (wdC G qD rD u.2.2.2.2.2.2.1 ++ (wdU G qV u.2.2.2.2.2.2.2.1 ++ (wdT G qT u.2.2.2.2.2.2.2.2.1 ++ (wdM G qM y2.2)))))))))) (wr := wdX G qX qR qS qP qC qU qD qV qT u.1 ++ (wdR G qR u.2.1 ++ (wdS G qS u.2.2.1 ++ (wdS G qP u.2.2.2.1 ++ (wdC G qC rC u.2.2.2.2.1 ++ (wdU G qU u.2.2.2.2.2.1 ++ (wdC G qD rD u.2.2.2.2.2.2.1 ++ (wdU G qV u.2.2.2.2.2.2.2.1 ++ (wdT G qT u.2.2.2.2.2.2.2.2.1))))))))) [78, 79, 80, 81, 82, 83, 84, 85, 86, 87, 88, 89, 90, 91, 92, 93, 94, 95, 96, 97, 98, 99, 100, 101, 102, 103, 104, 105, 106, 107, 108, 109, 110] [0, 1, 2, 3, 4, 5, 6, 7, 8, 9, 10, 11, 12, 13, 14, 15, 16, 17, 18, 19, 20, 21, 22, 23, 24, 25, 26, 27, 28, 29, 30, 31, 32, 33, 34, 35, 36, 37, 38, 39, 40, 41, 42, 43, 44, 45, 46, 47, 48, 49, 50, 51, 52, 53, 54, 55, 56, 57, 58, 59, 60, 61, 62, 63, 64, 65, 66, 67, 68, 69, 70, 71, 72, 73, 74, 75, 76, 77] [0, 1, 2, 3, 4, 5, 6, 7, 8, 9, 10, 11, 12, 13, 14, 15, 16, 17, 18, 19, 20, 21, 22, 23, 24, 25, 26, 27, 28, 29, 30, 31, 32, 33, 34, 35, 36, 37, 38, 39, 40, 41, 42, 43, 44, 45, 46, 47, 48, 49, 50, 51, 52, 53, 54, 55, 56, 57, 58, 59, 60, 61, 62, 63, 64, 65, 66, 67, 68, 69, 70, 71, 72, 73, 74, 75, 76, 77, 78, 79, 80, 81, 82, 83, 84, 85, 86, 87, 88, 89, 90, 91, 92, 93, 94, 95, 96, 97, 98, 99, 100, 101, 102, 103, 104, 105, 106, 107, 108, 109, 110] rfl rfl rfl rfl (by decide) rfl rfl) 78 rfl dL_law_915 (Nat.le_of_ble_eq_true rfl) (zrmL rfl (by show ce + 0 ≤ 6000; omega) (by show sl + 0 ≤ 60000; omega)) ?_
  replace h := Option.some.inj h
  have he := of_decide_eq_true (congrArg Prod.fst h)
  have hu := congrArg Prod.snd h
  subst hu
  refine z_lcmp_eq C dL_law_918 dL_law_919 937 (by decide) (p := some ()) (q := none) (o := ()) (dd := inferInstance) (if_pos he) (fun _ => ?_) (fun h => by cases h)
  refine z_wide (ce' := ce + 1) (sl' := sl + 3) (by show ce + 0 + 0 ≤ ce + 1; omega) (by show sl + 0 + 0 ≤ sl + 3; omega) ?_
  exact K qS qP rC rD
set_option maxHeartbeats 4000000 in
set_option maxRecDepth 100000 in
theorem law_status {x : zX} {G : zG} {qX qR qS qP qC qU qD qV qT qM : Nat → Nat} {rC rD b L k : Nat} {sc : Nat → Int32} {ce sl : Nat} {u u' : zLS} (C : zC x G RL cL_law 4 (some .boolean) room_1) (hX : va_X b L sc (xs x) (xs x).heap) (hbl : b < (xs x).heap.size) (hbA : ¬ xA x b) (hL : L ≤ 3072) (hk : 6 * k + 6 ≤ L) (hce : ce ≤ 5000) (hsl : sl ≤ 50000) (h : ls_status  u = some (true, u')) (K : ∀ (qS' qP' : Nat → Nat) (rC' rD' : Nat), zW x G (ce + 1) (sl + 3) 937 [(0, .ref b), (1, .ref (qX 0)), (2, .ref (qM 0)), (3, .int (nI (6 * k)))] [] (wdX G qX qR qS' qP' qC qU qD qV qT u'.1 ++ (wdR G qR u'.2.1 ++ (wdS G qS' u'.2.2.1 ++ (wdS G qP' u'.2.2.2.1 ++ (wdC G qC rC' u'.2.2.2.2.1 ++ (wdU G qU u'.2.2.2.2.2.1 ++ (wdC G qD rD' u'.2.2.2.2.2.2.1 ++ (wdU G qV u'.2.2.2.2.2.2.2.1 ++ (wdT G qT u'.2.2.2.2.2.2.2.2.1 ++ (wdM G qM u'.2.2.2.2.2.2.2.2.2))))))))))) : zW x G ce sl 924 [(0, .ref b), (1, .ref (qX 0)), (2, .ref (qM 0)), (3, .int (nI (6 * k)))] [] (wdX G qX qR qS qP qC qU qD qV qT u.1 ++ (wdR G qR u.2.1 ++ (wdS G qS u.2.2.1 ++ (wdS G qP u.2.2.2.1 ++ (wdC G qC rC u.2.2.2.2.1 ++ (wdU G qU u.2.2.2.2.2.1 ++ (wdC G qD rD u.2.2.2.2.2.2.1 ++ (wdU G qV u.2.2.2.2.2.2.2.1 ++ (wdT G qT u.2.2.2.2.2.2.2.2.1 ++ (wdM G qM u.2.2.2.2.2.2.2.2.2)))))))))) := by
  unfold ls_status at h
  refine z_aload_n C dL_law_924 1 rfl ?_
  obtain ⟨y1, hy1, h⟩ := bind_o h
  refine rw_c_L_115 C (Ct.frame (cX_status hy1) (w := wdX G qX qR qS qP qC qU qD qV qT u.1 ++ (wdR G qR u.2.1 ++ (wdS G qS u.2.2.1 ++ (wdS G qP u.2.2.2.1 ++ (wdC G qC rC u.2.2.2.2.1 ++ (wdU G qU u.2.2.2.2.2.1 ++ (wdC G qD rD u.2.2.2.2.2.2.1 ++ (wdU G qV u.2.2.2.2.2.2.2.1 ++ (wdT G qT u.2.2.2.2.2.2.2.2.1 ++ (wdM G qM u.2.2.2.2.2.2.2.2.2)))))))))) (w' := wdX G qX qR qS qP qC qU qD qV qT u.1 ++ (wdR G qR u.2.1 ++ (wdS G qS u.2.2.1 ++ (wdS G qP u.2.2.2.1 ++ (wdC G qC rC u.2.2.2.2.1 ++ (wdU G qU u.2.2.2.2.2.1 ++ (wdC G qD rD u.2.2.2.2.2.2.1 ++ (wdU G qV u.2.2.2.2.2.2.2.1 ++ (wdT G qT u.2.2.2.2.2.2.2.2.1 ++ (wdM G qM u.2.2.2.2.2.2.2.2.2)))))))))) (wr := wdR G qR u.2.1 ++ (wdS G qS u.2.2.1 ++ (wdS G qP u.2.2.2.1 ++ (wdC G qC rC u.2.2.2.2.1 ++ (wdU G qU u.2.2.2.2.2.1 ++ (wdC G qD rD u.2.2.2.2.2.2.1 ++ (wdU G qV u.2.2.2.2.2.2.2.1 ++ (wdT G qT u.2.2.2.2.2.2.2.2.1 ++ (wdM G qM u.2.2.2.2.2.2.2.2.2))))))))) [0, 1, 2, 3] [4, 5, 6, 7, 8, 9, 10, 11, 12, 13, 14, 15, 16, 17, 18, 19, 20, 21, 22, 23, 24, 25, 26, 27, 28, 29, 30, 31, 32, 33, 34, 35, 36, 37, 38, 39, 40, 41, 42, 43, 44, 45, 46, 47, 48, 49, 50, 51, 52, 53, 54, 55, 56, 57, 58, 59, 60, 61, 62, 63, 64, 65, 66, 67, 68, 69, 70, 71, 72, 73, 74, 75, 76, 77, 78, 79, 80, 81, 82, 83, 84, 85, 86, 87, 88, 89, 90, 91, 92, 93, 94, 95, 96, 97, 98, 99, 100, 101, 102, 103, 104, 105, 106, 107, 108, 109, 110] [107, 108, 109, 110, 0, 1, 2, 3, 4, 5, 6, 7, 8, 9, 10, 11, 12, 13, 14, 15, 16, 17, 18, 19, 20, 21, 22, 23, 24, 25, 26, 27, 28, 29, 30, 31, 32, 33, 34, 35, 36, 37, 38, 39, 40, 41, 42, 43, 44, 45, 46, 47, 48, 49, 50, 51, 52, 53, 54, 55, 56, 57, 58, 59, 60, 61, 62, 63, 64, 65, 66, 67, 68, 69, 70, 71, 72, 73, 74, 75, 76, 77, 78, 79, 80, 81, 82, 83, 84, 85, 86, 87, 88, 89, 90, 91, 92, 93, 94, 95, 96, 97, 98, 99, 100, 101, 102, 103, 104, 105, 106] rfl rfl rfl rfl (by decide) rfl rfl) 0 rfl dL_law_925 (Nat.le_of_ble_eq_true rfl) (zrmL rfl (by omega) (by omega)) ?_
  refine z_aload_n C dL_law_928 2 rfl ?_
  obtain ⟨y2, hy2, h⟩ := bind_o h
  refine rw_c_L_118 C (Ct.frame (cM_status hy2) (w := wdX G qX qR qS qP qC qU qD qV qT u.1 ++ (wdR G qR u.2.1 ++ (wdS G qS u.2.2.1 ++ (wdS G qP u.2.2.2.1 ++ (wdC G qC rC u.2.2.2.2.1 ++ (wdU G qU u.2.2.2.2.2.1 ++ (wdC G qD rD u.2.2.2.2.2.2.1 ++ (wdU G qV u.2.2.2.2.2.2.2.1 ++ (wdT G qT u.2.2.2.2.2.2.2.2.1 ++ (wdM G qM u.2.2.2.2.2.2.2.2.2)))))))))) (w' := wdX G qX qR qS qP qC qU qD qV qT u.1 ++ (wdR G qR u.2.1 ++ (wdS G qS u.2.2.1 ++ (wdS G qP u.2.2.2.1 ++ (wdC G qC rC u.2.2.2.2.1 ++ (wdU G qU u.2.2.2.2.2.1 ++ (wdC G qD rD u.2.2.2.2.2.2.1 ++ (wdU G qV u.2.2.2.2.2.2.2.1 ++ (wdT G qT u.2.2.2.2.2.2.2.2.1 ++ (wdM G qM y2.2)))))))))) (wr := wdX G qX qR qS qP qC qU qD qV qT u.1 ++ (wdR G qR u.2.1 ++ (wdS G qS u.2.2.1 ++ (wdS G qP u.2.2.2.1 ++ (wdC G qC rC u.2.2.2.2.1 ++ (wdU G qU u.2.2.2.2.2.1 ++ (wdC G qD rD u.2.2.2.2.2.2.1 ++ (wdU G qV u.2.2.2.2.2.2.2.1 ++ (wdT G qT u.2.2.2.2.2.2.2.2.1))))))))) [78, 79, 80, 81, 82, 83, 84, 85, 86, 87, 88, 89, 90, 91, 92, 93, 94, 95, 96, 97, 98, 99, 100, 101, 102, 103, 104, 105, 106, 107, 108, 109, 110] [0, 1, 2, 3, 4, 5, 6, 7, 8, 9, 10, 11, 12, 13, 14, 15, 16, 17, 18, 19, 20, 21, 22, 23, 24, 25, 26, 27, 28, 29, 30, 31, 32, 33, 34, 35, 36, 37, 38, 39, 40, 41, 42, 43, 44, 45, 46, 47, 48, 49, 50, 51, 52, 53, 54, 55, 56, 57, 58, 59, 60, 61, 62, 63, 64, 65, 66, 67, 68, 69, 70, 71, 72, 73, 74, 75, 76, 77] [0, 1, 2, 3, 4, 5, 6, 7, 8, 9, 10, 11, 12, 13, 14, 15, 16, 17, 18, 19, 20, 21, 22, 23, 24, 25, 26, 27, 28, 29, 30, 31, 32, 33, 34, 35, 36, 37, 38, 39, 40, 41, 42, 43, 44, 45, 46, 47, 48, 49, 50, 51, 52, 53, 54, 55, 56, 57, 58, 59, 60, 61, 62, 63, 64, 65, 66, 67, 68, 69, 70, 71, 72, 73, 74, 75, 76, 77, 78, 79, 80, 81, 82, 83, 84, 85, 86, 87, 88, 89, 90, 91, 92, 93, 94, 95, 96, 97, 98, 99, 100, 101, 102, 103, 104, 105, 106, 107, 108, 109, 110] rfl rfl rfl rfl (by decide) rfl rfl) 78 rfl dL_law_929 (Nat.le_of_ble_eq_true rfl) (zrmL rfl (by show ce + 0 ≤ 6000; omega) (by show sl + 0 ≤ 60000; omega)) ?_
  replace h := Option.some.inj h
  have he := of_decide_eq_true (congrArg Prod.fst h)
  have hu := congrArg Prod.snd h
  subst hu
  refine z_icmp_eq C dL_law_932 937 (by decide) (p := some ()) (q := none) (o := ()) (dd := inferInstance) (if_pos he) (fun _ => ?_) (fun h => by cases h)
  refine z_wide (ce' := ce + 1) (sl' := sl + 3) (by show ce + 0 + 0 ≤ ce + 1; omega) (by show sl + 0 + 0 ≤ sl + 3; omega) ?_
  exact K qS qP rC rD
